section
/-! the model's sums, exactly (printed by wip/tool/mmsum.py) -/
theorem pv_okD {n0 n1 a : Int} (h0 : 0 ≤ n0) (h1 : 0 ≤ n1) (r : (a = 1 ∧ 0 < n0 * n1) ∨ (a = 0 ∧ n0 * n1 ≤ 0)) : (a = 1 ∧ (1 ≤ n0 ∧ 1 ≤ n1)) ∨ (a = 0 ∧ ¬ (1 ≤ n0 ∧ 1 ≤ n1)) := by
  rcases r with ⟨r1, r2⟩ | ⟨r1, r2⟩
  · refine Or.inl ⟨r1, ?_⟩
    rcases (by omega : n0 = 0 ∨ n1 = 0 ∨ (1 ≤ n0 ∧ 1 ≤ n1)) with q | q | q
    · rw [q, Int.zero_mul] at r2; omega
    · rw [q, Int.mul_zero] at r2; omega
    · exact q
  · refine Or.inr ⟨r1, fun q => ?_⟩
    have := pw_mulB (a := n0) (b := n1) (A := n0) (B := n1) h0 (Int.le_refl _) h1 (Int.le_refl _)
    have := this.2.2 q.1 q.2
    omega
theorem pv_loI {sd : Nat → Int} {wo k : Int} (hk : 0 ≤ k) : (k = wo → pv_lo sd wo k.toNat = -1) ∧ (k ≠ wo → pv_lo sd wo k.toNat = sd k.toNat) := by
  unfold pv_lo
  rw [show ((k.toNat : Nat) : Int) = k by omega]
  exact ⟨fun q => if_pos q, fun q => if_neg q⟩
theorem pv_hmB {w g t : Int} (h1 : 0 ≤ w) (h2 : w ≤ 99) (h3 : 0 ≤ g) (h4 : g ≤ 99) (h5 : 0 ≤ t) (h6 : t ≤ 10) : 0 ≤ pw_hm w g t ∧ pw_hm w g t ≤ 2000 := by
  unfold pw_hm
  have := pw_mulB (a := t) (b := g) (A := 10) (B := 99) h5 h6 h3 h4
  omega
/-- the sides by calls, of the model -/
def pv_sdm (h : pm_H) (b e : Int) (k : Nat) : Int := if pw_g h 131 k ≠ 0 ∧ pw_g h 138 (12 * (k : Int) + b).toNat ≠ 0 ∧ pw_g h 138 (12 * (k : Int) + e).toNat ≠ 0 then pw_g h 132 k else -1
def pv_hmk (h : pm_H) (mo : Int) (k : Int) : Int := pw_hm (pw_g h 139 (12 * k + mo).toNat) (pw_g h 140 (12 * k + mo).toNat) (pw_g h 125 15)
def pv_chm (h : pm_H) (b e : Int) (k : Nat) : Int := pv_hmk h e k - pv_hmk h b k
theorem pv_sdmI {h : pm_H} {b e k : Int} (hk : 0 ≤ k) : ((pw_g h 131 k.toNat ≠ 0 ∧ pw_g h 138 (12 * k + b).toNat ≠ 0 ∧ pw_g h 138 (12 * k + e).toNat ≠ 0) → pv_sdm h b e k.toNat = pw_g h 132 k.toNat) ∧ (¬ (pw_g h 131 k.toNat ≠ 0 ∧ pw_g h 138 (12 * k + b).toNat ≠ 0 ∧ pw_g h 138 (12 * k + e).toNat ≠ 0) → pv_sdm h b e k.toNat = -1) := by
  unfold pv_sdm
  rw [show ((k.toNat : Nat) : Int) = k by omega]
  exact ⟨fun q => if_pos q, fun q => if_neg q⟩
theorem pv_chmI {h : pm_H} {b e k : Int} (hk : 0 ≤ k) : pv_chm h b e k.toNat = pv_hmk h e k - pv_hmk h b k := by
  unfold pv_chm
  rw [show ((k.toNat : Nat) : Int) = k by omega]
theorem pv_hmkB {h : pm_H} {mo k : Int} (I : pw_I h) (h0 : 0 ≤ mo) (h1 : mo ≤ 11) (h2 : 0 ≤ k) (h3 : k ≤ 23) : 0 ≤ pv_hmk h mo k ∧ pv_hmk h mo k ≤ 2000 := by
  have t := pw_gI (c := 125) (k := 15) I rfl rfl
  have v1 := pw_gA (c := 139) (j := 12 * k + mo) I rfl (by decide) (by omega) (by omega)
  have v2 := pw_gA (c := 140) (j := 12 * k + mo) I rfl (by decide) (by omega) (by omega)
  exact pv_hmB (by omega) (by omega) (by omega) (by omega) (by omega) (by omega)
theorem pv_chmB {h : pm_H} {b e : Int} (I : pw_I h) (hb0 : 0 ≤ b) (hb1 : b ≤ 11) (he0 : 0 ≤ e) (he1 : e ≤ 11) : ∀ k : Nat, k < 24 → -2000 ≤ pv_chm h b e k ∧ pv_chm h b e k ≤ 2000 := by
  intro k hk
  unfold pv_chm
  have w1 := pv_hmkB (k := k) I hb0 hb1 (by omega) (by omega)
  have w2 := pv_hmkB (k := k) I he0 he1 (by omega) (by omega)
  omega
theorem pv_UB {sd ch : Nat → Int} (hb : ∀ k : Nat, k < 24 → -2000 ≤ ch k ∧ ch k ≤ 2000) : -2304000 ≤ pv_U sd ch ∧ pv_U sd ch ≤ 2304000 ∧ 0 ≤ pv_D sd ∧ pv_D sd ≤ 576 ∧ (pv_OK sd → 1 ≤ pv_D sd) := by
  have n0 := pv_NB (sd := sd) (s := 0) 24
  have n1 := pv_NB (sd := sd) (s := 1) 24
  have s0 := pv_SB (sd := sd) (ch := ch) (s := 0) 24 (fun k hk _ => hb k hk)
  have s1 := pv_SB (sd := sd) (ch := ch) (s := 1) 24 (fun k hk _ => hb k hk)
  have m0 := pw_mulS (a := pv_S sd ch 0 24) (b := pv_N sd 1 24) (A := 48000) (B := 24) (by omega) (by omega) (by omega) (by omega)
  have m1 := pw_mulS (a := pv_S sd ch 1 24) (b := pv_N sd 0 24) (A := 48000) (B := 24) (by omega) (by omega) (by omega) (by omega)
  have m2 := pw_mulB (a := pv_N sd 0 24) (b := pv_N sd 1 24) (A := 24) (B := 24) (by omega) (by omega) (by omega) (by omega)
  unfold pv_U pv_D pv_OK
  exact ⟨by omega, by omega, by omega, by omega, fun q => m2.2.2 q.1 q.2⟩

set_option maxHeartbeats 4000000 in
theorem cm_131_s {X : List (Nat × List Value)} {d : Nat} {h : pm_H} (hd : 3 ≤ d) (I : pw_I h) (b : Int) (hb1 : (-2147483648) ≤ b) (hb2 : b ≤ 2147483647) (e : Int) (he1 : (-2147483648) ≤ e) (he2 : e ≤ 2147483647) : pw X d h 131 0 [some (pw_i b), some (pw_i e)] [] (fun h' v => h = h' ∧ ∃ a : Int, v = .inl (some (pw_i a)) ∧ 0 ≤ a ∧ a ≤ 1 ∧ ((a = 1 ∧ 0 ≤ b ∧ b ≤ 11 ∧ 0 ≤ e ∧ e ≤ 11 ∧ b ≠ e) ∨ (a = 0 ∧ ¬ (0 ≤ b ∧ b ≤ 11 ∧ 0 ≤ e ∧ e ≤ 11 ∧ b ≠ e)))) := by
  have E : pm_ent 131 = some (2, 2, 11, 1, pmc_131) := rfl
  refine pw_ld E (pc' := 1) (st' := [pw_i b]) rfl (fun _ => rfl) ?_
  refine pw_call (m' := 125) (As := [pw_i b]) (rest := []) (ls'' := [some (pw_i b)]) (Nat.le_trans (by decide) hd) E rfl (fun _ => pw_iS rfl rfl rfl) (rfl : pm_ent 125 = some (1, 1, 11, 1, pmc_125)) rfl rfl (cm_125 (pw_dp hd (by decide)) I (b) (by omega) (by omega)) ?_
  rintro u2 v1 ⟨rfl, x3, rfl, hx3a, hx3b, hx3r⟩
  refine ⟨_, rfl, ?_⟩
  show pw X d h 131 4 [some (pw_i b), some (pw_i e)] [pw_i x3] _
  change (x3 = 1 ∧ 0 ≤ b ∧ b ≤ 11) ∨ (x3 = 0 ∧ ¬ (0 ≤ b ∧ b ≤ 11)) at hx3r
  rcases (by omega : x3 = 1 ∨ x3 = 0) with hb4 | hb4
  · skip
    refine pw_if E (pc' := 23) rfl (by decide) (by omega) (by omega) ?_ ?_
    · intro hc5
      change x3 = (0 : Int) at hc5
      exfalso; omega
    · intro hc6
      change ¬ (x3 = (0 : Int)) at hc6
      refine pw_ld E (pc' := 8) (st' := [pw_i e]) rfl (fun _ => rfl) ?_
      refine pw_call (m' := 125) (As := [pw_i e]) (rest := []) (ls'' := [some (pw_i e)]) (Nat.le_trans (by decide) hd) E rfl (fun _ => pw_iS rfl rfl rfl) (rfl : pm_ent 125 = some (1, 1, 11, 1, pmc_125)) rfl rfl (cm_125 (pw_dp hd (by decide)) I (e) (by omega) (by omega)) ?_
      rintro u8 v7 ⟨rfl, x9, rfl, hx9a, hx9b, hx9r⟩
      refine ⟨_, rfl, ?_⟩
      show pw X d h 131 11 [some (pw_i b), some (pw_i e)] [pw_i x9] _
      change (x9 = 1 ∧ 0 ≤ e ∧ e ≤ 11) ∨ (x9 = 0 ∧ ¬ (0 ≤ e ∧ e ≤ 11)) at hx9r
      rcases (by omega : x9 = 1 ∨ x9 = 0) with hb10 | hb10
      · skip
        refine pw_if E (pc' := 23) rfl (by decide) (by omega) (by omega) ?_ ?_
        · intro hc11
          change x9 = (0 : Int) at hc11
          exfalso; omega
        · intro hc12
          change ¬ (x9 = (0 : Int)) at hc12
          refine pw_ld E (pc' := 15) (st' := [pw_i b]) rfl (fun _ => rfl) ?_
          refine pw_ld E (pc' := 16) (st' := [pw_i e, pw_i b]) rfl (fun _ => rfl) ?_
          refine pw_if2 E (pc' := 23) rfl (by decide) (by omega) (by omega) (by omega) (by omega) ?_ ?_
          · intro hc13
            change b = e at hc13
            refine pw_ld E (pc' := 24) (st' := [pw_i 0]) rfl (fun _ => rfl) ?_
            refine pw_zret E rfl (by omega) ?_
            exact ⟨rfl, ⟨_, rfl, by omega, by omega, by omega⟩⟩
          · intro hc14
            change ¬ (b = e) at hc14
            refine pw_ld E (pc' := 20) (st' := [pw_i 1]) rfl (fun _ => rfl) ?_
            refine pw_goto E (pc' := 24) rfl (by decide) ?_
            refine pw_zret E rfl (by omega) ?_
            exact ⟨rfl, ⟨_, rfl, by omega, by omega, by omega⟩⟩
      · skip
        refine pw_if E (pc' := 23) rfl (by decide) (by omega) (by omega) ?_ ?_
        · intro hc16
          change x9 = (0 : Int) at hc16
          refine pw_ld E (pc' := 24) (st' := [pw_i 0]) rfl (fun _ => rfl) ?_
          refine pw_zret E rfl (by omega) ?_
          exact ⟨rfl, ⟨_, rfl, by omega, by omega, by omega⟩⟩
        · intro hc17
          change ¬ (x9 = (0 : Int)) at hc17
          exfalso; omega
  · skip
    refine pw_if E (pc' := 23) rfl (by decide) (by omega) (by omega) ?_ ?_
    · intro hc19
      change x3 = (0 : Int) at hc19
      refine pw_ld E (pc' := 24) (st' := [pw_i 0]) rfl (fun _ => rfl) ?_
      refine pw_zret E rfl (by omega) ?_
      exact ⟨rfl, ⟨_, rfl, by omega, by omega, by omega⟩⟩
    · intro hc20
      change ¬ (x3 = (0 : Int)) at hc20
      exfalso; omega
set_option maxHeartbeats 4000000 in
theorem cm_213_s {X : List (Nat × List Value)} {d : Nat} {h : pm_H} (hd : 3 ≤ d) (I : pw_I h) (b : Int) (hb1 : (-2147483648) ≤ b) (hb2 : b ≤ 2147483647) (e : Int) (he1 : (-2147483648) ≤ e) (he2 : e ≤ 2147483647) : pw X d h 213 0 [some (pw_i b), some (pw_i e)] [] (fun h' v => h = h' ∧ ∃ a : Int, v = .inl (some (pw_i a)) ∧ 0 ≤ a ∧ a ≤ 1 ∧ ((a = 1 ∧ 0 ≤ b ∧ b ≤ 11 ∧ 0 ≤ e ∧ e ≤ 11 ∧ b ≠ e) ∨ (a = 0 ∧ ¬ (0 ≤ b ∧ b ≤ 11 ∧ 0 ≤ e ∧ e ≤ 11 ∧ b ≠ e)))) := by
  have E : pm_ent 213 = some (2, 2, 12, 1, pmc_213) := rfl
  refine pw_ld E (pc' := 1) (st' := [pw_i b]) rfl (fun _ => rfl) ?_
  refine pw_call (m' := 205) (As := [pw_i b]) (rest := []) (ls'' := [some (pw_i b)]) (Nat.le_trans (by decide) hd) E rfl (fun _ => pw_iS rfl rfl rfl) (rfl : pm_ent 205 = some (1, 1, 12, 1, pmc_205)) rfl rfl (cm_205 (pw_dp hd (by decide)) I (b) (by omega) (by omega)) ?_
  rintro u2 v1 ⟨rfl, x3, rfl, hx3a, hx3b, hx3r⟩
  refine ⟨_, rfl, ?_⟩
  show pw X d h 213 4 [some (pw_i b), some (pw_i e)] [pw_i x3] _
  change (x3 = 1 ∧ 0 ≤ b ∧ b ≤ 11) ∨ (x3 = 0 ∧ ¬ (0 ≤ b ∧ b ≤ 11)) at hx3r
  rcases (by omega : x3 = 1 ∨ x3 = 0) with hb4 | hb4
  · skip
    refine pw_if E (pc' := 23) rfl (by decide) (by omega) (by omega) ?_ ?_
    · intro hc5
      change x3 = (0 : Int) at hc5
      exfalso; omega
    · intro hc6
      change ¬ (x3 = (0 : Int)) at hc6
      refine pw_ld E (pc' := 8) (st' := [pw_i e]) rfl (fun _ => rfl) ?_
      refine pw_call (m' := 205) (As := [pw_i e]) (rest := []) (ls'' := [some (pw_i e)]) (Nat.le_trans (by decide) hd) E rfl (fun _ => pw_iS rfl rfl rfl) (rfl : pm_ent 205 = some (1, 1, 12, 1, pmc_205)) rfl rfl (cm_205 (pw_dp hd (by decide)) I (e) (by omega) (by omega)) ?_
      rintro u8 v7 ⟨rfl, x9, rfl, hx9a, hx9b, hx9r⟩
      refine ⟨_, rfl, ?_⟩
      show pw X d h 213 11 [some (pw_i b), some (pw_i e)] [pw_i x9] _
      change (x9 = 1 ∧ 0 ≤ e ∧ e ≤ 11) ∨ (x9 = 0 ∧ ¬ (0 ≤ e ∧ e ≤ 11)) at hx9r
      rcases (by omega : x9 = 1 ∨ x9 = 0) with hb10 | hb10
      · skip
        refine pw_if E (pc' := 23) rfl (by decide) (by omega) (by omega) ?_ ?_
        · intro hc11
          change x9 = (0 : Int) at hc11
          exfalso; omega
        · intro hc12
          change ¬ (x9 = (0 : Int)) at hc12
          refine pw_ld E (pc' := 15) (st' := [pw_i b]) rfl (fun _ => rfl) ?_
          refine pw_ld E (pc' := 16) (st' := [pw_i e, pw_i b]) rfl (fun _ => rfl) ?_
          refine pw_if2 E (pc' := 23) rfl (by decide) (by omega) (by omega) (by omega) (by omega) ?_ ?_
          · intro hc13
            change b = e at hc13
            refine pw_ld E (pc' := 24) (st' := [pw_i 0]) rfl (fun _ => rfl) ?_
            refine pw_zret E rfl (by omega) ?_
            exact ⟨rfl, ⟨_, rfl, by omega, by omega, by omega⟩⟩
          · intro hc14
            change ¬ (b = e) at hc14
            refine pw_ld E (pc' := 20) (st' := [pw_i 1]) rfl (fun _ => rfl) ?_
            refine pw_goto E (pc' := 24) rfl (by decide) ?_
            refine pw_zret E rfl (by omega) ?_
            exact ⟨rfl, ⟨_, rfl, by omega, by omega, by omega⟩⟩
      · skip
        refine pw_if E (pc' := 23) rfl (by decide) (by omega) (by omega) ?_ ?_
        · intro hc16
          change x9 = (0 : Int) at hc16
          refine pw_ld E (pc' := 24) (st' := [pw_i 0]) rfl (fun _ => rfl) ?_
          refine pw_zret E rfl (by omega) ?_
          exact ⟨rfl, ⟨_, rfl, by omega, by omega, by omega⟩⟩
        · intro hc17
          change ¬ (x9 = (0 : Int)) at hc17
          exfalso; omega
  · skip
    refine pw_if E (pc' := 23) rfl (by decide) (by omega) (by omega) ?_ ?_
    · intro hc19
      change x3 = (0 : Int) at hc19
      refine pw_ld E (pc' := 24) (st' := [pw_i 0]) rfl (fun _ => rfl) ?_
      refine pw_zret E rfl (by omega) ?_
      exact ⟨rfl, ⟨_, rfl, by omega, by omega, by omega⟩⟩
    · intro hc20
      change ¬ (x3 = (0 : Int)) at hc20
      exfalso; omega
set_option maxHeartbeats 4000000 in
theorem cm_214_s {X : List (Nat × List Value)} {d : Nat} {h : pm_H} (hd : 1 ≤ d) (I : pw_I h) (k : Int) (hk1 : 0 ≤ k) (hk2 : k ≤ 23) (b : Int) (hb1 : 0 ≤ b) (hb2 : b ≤ 11) (e : Int) (he1 : 0 ≤ e) (he2 : e ≤ 11) : pw X d h 214 0 [some (.ref 141), some (pw_i k), some (pw_i b), some (pw_i e)] [] (fun h' v => h = h' ∧ ∃ a : Int, v = .inl (some (pw_i a)) ∧ 0 ≤ a ∧ a ≤ 1 ∧ ((a = 1 ∧ pw_g h 131 k.toNat ≠ 0 ∧ pw_g h 138 (12 * k + b).toNat ≠ 0 ∧ pw_g h 138 (12 * k + e).toNat ≠ 0) ∨ (a = 0 ∧ ¬ (pw_g h 131 k.toNat ≠ 0 ∧ pw_g h 138 (12 * k + b).toNat ≠ 0 ∧ pw_g h 138 (12 * k + e).toNat ≠ 0)))) := by
  have E : pm_ent 214 = some (4, 4, 12, 1, pmc_214) := rfl
  refine pw_ld E (pc' := 1) (st' := [.ref 141]) rfl (fun _ => rfl) ?_
  refine pw_getR (b := 147) I E (c := 125) (k := 10) (pc' := 4) rfl rfl rfl rfl rfl rfl rfl ?_
  refine pw_ld E (pc' := 5) (st' := [pw_i k, .ref 147]) rfl (fun _ => rfl) ?_
  refine pw_ald2 I E (c := 131) (pc' := 6) rfl rfl rfl (by decide) rfl (by decide) (by omega) (by omega) rfl (fun hf1a hf1b => ?_)
  refine pw_if E (pc' := 41) rfl (by decide) (by omega) (by omega) ?_ ?_
  · intro hc2
    change pw_g h 131 (k.toNat) = (0 : Int) at hc2
    refine pw_ld E (pc' := 42) (st' := [pw_i 0]) rfl (fun _ => rfl) ?_
    refine pw_zret E rfl (by omega) ?_
    exact ⟨rfl, ⟨_, rfl, by omega, by omega, by omega⟩⟩
  · intro hc3
    change ¬ (pw_g h 131 (k.toNat) = (0 : Int)) at hc3
    refine pw_ld E (pc' := 10) (st' := [.ref 141]) rfl (fun _ => rfl) ?_
    refine pw_getR (b := 154) I E (c := 125) (k := 18) (pc' := 13) rfl rfl rfl rfl rfl rfl rfl ?_
    refine pw_bip E (pc' := 15) rfl rfl (by decide) ?_
    refine pw_ld E (pc' := 16) (st' := [pw_i k, pw_i 12, .ref 154]) rfl (fun _ => rfl) ?_
    refine pw_mul E (pc' := 17) rfl rfl ?_
    refine pw_ld E (pc' := 18) (st' := [pw_i b, pw_i (12 * k), .ref 154]) rfl (fun _ => rfl) ?_
    refine pw_add E (pc' := 19) rfl rfl ?_
    refine pw_ald2 I E (c := 138) (pc' := 20) rfl rfl rfl (by decide) rfl (by decide) (by omega) (by omega) rfl (fun hf4a hf4b => ?_)
    refine pw_if E (pc' := 41) rfl (by decide) (by omega) (by omega) ?_ ?_
    · intro hc5
      change pw_g h 138 (((12 * k) + b).toNat) = (0 : Int) at hc5
      refine pw_ld E (pc' := 42) (st' := [pw_i 0]) rfl (fun _ => rfl) ?_
      refine pw_zret E rfl (by omega) ?_
      exact ⟨rfl, ⟨_, rfl, by omega, by omega, by omega⟩⟩
    · intro hc6
      change ¬ (pw_g h 138 (((12 * k) + b).toNat) = (0 : Int)) at hc6
      refine pw_ld E (pc' := 24) (st' := [.ref 141]) rfl (fun _ => rfl) ?_
      refine pw_getR (b := 154) I E (c := 125) (k := 18) (pc' := 27) rfl rfl rfl rfl rfl rfl rfl ?_
      refine pw_bip E (pc' := 29) rfl rfl (by decide) ?_
      refine pw_ld E (pc' := 30) (st' := [pw_i k, pw_i 12, .ref 154]) rfl (fun _ => rfl) ?_
      refine pw_mul E (pc' := 31) rfl rfl ?_
      refine pw_ld E (pc' := 32) (st' := [pw_i e, pw_i (12 * k), .ref 154]) rfl (fun _ => rfl) ?_
      refine pw_add E (pc' := 33) rfl rfl ?_
      refine pw_ald2 I E (c := 138) (pc' := 34) rfl rfl rfl (by decide) rfl (by decide) (by omega) (by omega) rfl (fun hf7a hf7b => ?_)
      refine pw_if E (pc' := 41) rfl (by decide) (by omega) (by omega) ?_ ?_
      · intro hc8
        change pw_g h 138 (((12 * k) + e).toNat) = (0 : Int) at hc8
        refine pw_ld E (pc' := 42) (st' := [pw_i 0]) rfl (fun _ => rfl) ?_
        refine pw_zret E rfl (by omega) ?_
        exact ⟨rfl, ⟨_, rfl, by omega, by omega, by omega⟩⟩
      · intro hc9
        change ¬ (pw_g h 138 (((12 * k) + e).toNat) = (0 : Int)) at hc9
        refine pw_ld E (pc' := 38) (st' := [pw_i 1]) rfl (fun _ => rfl) ?_
        refine pw_goto E (pc' := 42) rfl (by decide) ?_
        refine pw_zret E rfl (by omega) ?_
        exact ⟨rfl, ⟨_, rfl, by omega, by omega, by omega⟩⟩
set_option maxHeartbeats 4000000 in
theorem cm_215_s {X : List (Nat × List Value)} {d : Nat} {h : pm_H} (hd : 3 ≤ d) (I : pw_I h) (k : Int) (hk1 : 0 ≤ k) (hk2 : k ≤ 23) (b : Int) (hb1 : 0 ≤ b) (hb2 : b ≤ 11) (e : Int) (he1 : 0 ≤ e) (he2 : e ≤ 11) : pw X d h 215 0 [some (.ref 141), some (pw_i k), some (pw_i b), some (pw_i e)] [] (fun h' v => h = h' ∧ ∃ a : Int, v = .inl (some (pw_i a)) ∧ (-2000) ≤ a ∧ a ≤ 2000 ∧ (a = pv_hmk h e k - pv_hmk h b k)) := by
  have E : pm_ent 215 = some (4, 4, 12, 0, pmc_215) := rfl
  refine pw_ld E (pc' := 1) (st' := [.ref 141]) rfl (fun _ => rfl) ?_
  refine pw_ld E (pc' := 2) (st' := [pw_i k, .ref 141]) rfl (fun _ => rfl) ?_
  refine pw_ld E (pc' := 3) (st' := [pw_i e, pw_i k, .ref 141]) rfl (fun _ => rfl) ?_
  obtain ⟨f1l, f1h, -⟩ := pw_obj (c := 125) I rfl
  refine pw_call (m' := 210) (As := [.ref 141, pw_i k, pw_i e]) (rest := []) (ls'' := [some (.ref 141), some (pw_i k), some (pw_i e)]) (Nat.le_trans (by decide) hd) E rfl (fun _ => pw_iV rfl rfl rfl rfl (pw_cellI f1h rfl)) (rfl : pm_ent 210 = some (3, 3, 12, 0, pmc_210)) rfl rfl (cm_210_h (pw_dp hd (by decide)) I (k) (by omega) (by omega) (e) (by omega) (by omega)) ?_
  rintro u3 v2 ⟨rfl, x4, rfl, hx4a, hx4b, hx4r⟩
  refine ⟨_, rfl, ?_⟩
  show pw X d h 215 6 [some (.ref 141), some (pw_i k), some (pw_i b), some (pw_i e)] [pw_i x4] _
  change x4 = 10 * pw_g h 139 (12 * k + e).toNat + pw_g h 125 15 * pw_g h 140 (12 * k + e).toNat at hx4r
  refine pw_ld E (pc' := 7) (st' := [.ref 141, pw_i x4]) rfl (fun _ => rfl) ?_
  refine pw_ld E (pc' := 8) (st' := [pw_i k, .ref 141, pw_i x4]) rfl (fun _ => rfl) ?_
  refine pw_ld E (pc' := 9) (st' := [pw_i b, pw_i k, .ref 141, pw_i x4]) rfl (fun _ => rfl) ?_
  obtain ⟨f5l, f5h, -⟩ := pw_obj (c := 125) I rfl
  refine pw_call (m' := 210) (As := [.ref 141, pw_i k, pw_i b]) (rest := [pw_i x4]) (ls'' := [some (.ref 141), some (pw_i k), some (pw_i b)]) (Nat.le_trans (by decide) hd) E rfl (fun _ => pw_iV rfl rfl rfl rfl (pw_cellI f5h rfl)) (rfl : pm_ent 210 = some (3, 3, 12, 0, pmc_210)) rfl rfl (cm_210_h (pw_dp hd (by decide)) I (k) (by omega) (by omega) (b) (by omega) (by omega)) ?_
  rintro u7 v6 ⟨rfl, x8, rfl, hx8a, hx8b, hx8r⟩
  refine ⟨_, rfl, ?_⟩
  show pw X d h 215 12 [some (.ref 141), some (pw_i k), some (pw_i b), some (pw_i e)] [pw_i x8, pw_i x4] _
  change x8 = 10 * pw_g h 139 (12 * k + b).toNat + pw_g h 125 15 * pw_g h 140 (12 * k + b).toNat at hx8r
  refine pw_sub E (pc' := 13) rfl rfl ?_
  refine pw_iret E rfl ?_
  exact ⟨rfl, ⟨_, rfl, by omega, by omega, by rw [hx4r, hx8r]; rfl⟩⟩
set_option maxHeartbeats 4000000 in
theorem cm_219_s {X : List (Nat × List Value)} {d : Nat} {h : pm_H} (hd : 1 ≤ d) (I : pw_I h)  : pw X d h 219 0 [some (.ref 141)] [] (fun h' v => pw_I h' ∧ pw_E [125] h h' ∧ (pw_gm h' 125 26 = 0 ∧ pw_gm h' 125 27 = 0 ∧ pw_gm h' 125 28 = 0 ∧ pw_gm h' 125 29 = 0) ∧ (v = .inl none)) := by
  have E : pm_ent 219 = some (1, 1, 12, 4, pmc_219) := rfl
  have E0 : pw_E [125] h h := pw_E.rf _ _
  refine pw_ld E (pc' := 1) (st' := [.ref 141]) rfl (fun _ => rfl) ?_
  refine pw_ld E (pc' := 2) (st' := [.long (Int64.ofInt 0), .ref 141]) rfl (fun _ => rfl) ?_
  refine pw_putL I E (c := 125) (k := 26) (pc' := 5) rfl rfl rfl rfl rfl rfl ?_
  intro h1I h1E
  generalize h1w : pw_w h 125 26 (.long (Int64.ofInt 0)) = h1 at h1I h1E ⊢
  have h1F := E0.tr (h1E.wk (W' := [125]) (by first | rfl | simp))
  refine pw_ld E (pc' := 6) (st' := [.ref 141]) rfl (fun _ => rfl) ?_
  refine pw_ld E (pc' := 7) (st' := [.long (Int64.ofInt 0), .ref 141]) rfl (fun _ => rfl) ?_
  refine pw_putM h1I E (c := 125) (k := 27) (pc' := 10) rfl rfl rfl rfl (by omega) (by omega) (by omega) (by omega) rfl rfl ?_
  intro h2I h2E
  generalize h2w : pw_w h1 125 27 (.long (Int64.ofInt 0)) = h2 at h2I h2E ⊢
  have h2F := h1F.tr (h2E.wk (W' := [125]) (by first | rfl | simp))
  refine pw_ld E (pc' := 11) (st' := [.ref 141]) rfl (fun _ => rfl) ?_
  refine pw_ld E (pc' := 12) (st' := [.long (Int64.ofInt 0), .ref 141]) rfl (fun _ => rfl) ?_
  refine pw_putL h2I E (c := 125) (k := 28) (pc' := 15) rfl rfl rfl rfl rfl rfl ?_
  intro h3I h3E
  generalize h3w : pw_w h2 125 28 (.long (Int64.ofInt 0)) = h3 at h3I h3E ⊢
  have h3F := h2F.tr (h3E.wk (W' := [125]) (by first | rfl | simp))
  refine pw_ld E (pc' := 16) (st' := [.ref 141]) rfl (fun _ => rfl) ?_
  refine pw_ld E (pc' := 17) (st' := [.long (Int64.ofInt 0), .ref 141]) rfl (fun _ => rfl) ?_
  refine pw_putM h3I E (c := 125) (k := 29) (pc' := 20) rfl rfl rfl rfl (by omega) (by omega) (by omega) (by omega) rfl rfl ?_
  intro h4I h4E
  generalize h4w : pw_w h3 125 29 (.long (Int64.ofInt 0)) = h4 at h4I h4E ⊢
  have h4F := h3F.tr (h4E.wk (W' := [125]) (by first | rfl | simp))
  have he5 : pw_gm h4 125 26 = pw_gm h3 125 26 := by rw [← h4w]; exact pw_gm_ne (by omega)
  have he6 : pw_gm h3 125 26 = pw_gm h2 125 26 := by rw [← h3w]; exact pw_gm_ne (by omega)
  have he7 : pw_gm h2 125 26 = pw_gm h1 125 26 := by rw [← h2w]; exact pw_gm_ne (by omega)
  have he8 : pw_gm h1 125 26 = 0 := by rw [← h1w]; exact pw_gm_eq (c := 125) (k := 26) I rfl rfl (by omega) (by omega)
  have he9 : pw_gm h4 125 27 = pw_gm h3 125 27 := by rw [← h4w]; exact pw_gm_ne (by omega)
  have he10 : pw_gm h3 125 27 = pw_gm h2 125 27 := by rw [← h3w]; exact pw_gm_ne (by omega)
  have he11 : pw_gm h2 125 27 = 0 := by rw [← h2w]; exact pw_gm_eq (c := 125) (k := 27) h1I rfl rfl (by omega) (by omega)
  have he12 : pw_gm h4 125 28 = pw_gm h3 125 28 := by rw [← h4w]; exact pw_gm_ne (by omega)
  have he13 : pw_gm h3 125 28 = 0 := by rw [← h3w]; exact pw_gm_eq (c := 125) (k := 28) h2I rfl rfl (by omega) (by omega)
  have he14 : pw_gm h4 125 29 = 0 := by rw [← h4w]; exact pw_gm_eq (c := 125) (k := 29) h3I rfl rfl (by omega) (by omega)
  refine pw_vret E rfl ?_
  exact ⟨h4I, h4F, ⟨by omega, rfl⟩⟩
set_option maxHeartbeats 4000000 in
theorem cm_220_s {X : List (Nat × List Value)} {d : Nat} {h : pm_H} (hd : 1 ≤ d) (I : pw_I h) (z : Int) (hz1 : 0 ≤ z) (hz2 : z ≤ 1) (ch : Int) (hch1 : (-2000) ≤ ch) (hch2 : ch ≤ 2000) (hp0 : pw_gm h 125 27 + pw_gm h 125 29 ≤ 23) (hp1 : 0 ≤ pw_gm h 125 27) (hp2 : 0 ≤ pw_gm h 125 29) (hp3 : (-48000) ≤ pw_gm h 125 26) (hp4 : pw_gm h 125 26 ≤ 48000) (hp5 : (-48000) ≤ pw_gm h 125 28) (hp6 : pw_gm h 125 28 ≤ 48000) : pw X d h 220 0 [some (.ref 141), some (pw_i z), some (.long (Int64.ofInt ch)), none] [] (fun h' v => pw_I h' ∧ pw_E [125] h h' ∧ ((z = 1 → pw_gm h' 125 26 = pw_gm h 125 26 + ch ∧ pw_gm h' 125 27 = pw_gm h 125 27 + 1 ∧ pw_gm h' 125 28 = pw_gm h 125 28 ∧ pw_gm h' 125 29 = pw_gm h 125 29) ∧ (z = 0 → pw_gm h' 125 26 = pw_gm h 125 26 ∧ pw_gm h' 125 27 = pw_gm h 125 27 ∧ pw_gm h' 125 28 = pw_gm h 125 28 + ch ∧ pw_gm h' 125 29 = pw_gm h 125 29 + 1)) ∧ (v = .inl none)) := by
  have E : pm_ent 220 = some (3, 4, 12, 4, pmc_220) := rfl
  have E0 : pw_E [125] h h := pw_E.rf _ _
  refine pw_ld E (pc' := 1) (st' := [.ref 141]) rfl (fun _ => rfl) ?_
  refine pw_ld E (pc' := 2) (st' := [.ref 141, .ref 141]) rfl (fun _ => rfl) ?_
  refine pw_getLM I E (c := 125) (k := 26) (pc' := 5) rfl rfl rfl rfl rfl rfl ?_
  refine pw_ld E (pc' := 6) (st' := [pw_i z, .long (Int64.ofInt (pw_gm h 125 26)), .ref 141]) rfl (fun _ => rfl) ?_
  refine pw_if E (pc' := 13) rfl (by decide) (by omega) (by omega) ?_ ?_
  · intro hc1
    change z = (0 : Int) at hc1
    refine pw_ld E (pc' := 14) (st' := [.long (Int64.ofInt 0), .long (Int64.ofInt (pw_gm h 125 26)), .ref 141]) rfl (fun _ => rfl) ?_
    refine pw_ladd E (pc' := 15) rfl rfl ?_
    refine pw_putL I E (c := 125) (k := 26) (pc' := 18) rfl rfl rfl rfl rfl rfl ?_
    intro h2I h2E
    generalize h2w : pw_w h 125 26 (.long (Int64.ofInt ((pw_gm h 125 26) + 0))) = h2 at h2I h2E ⊢
    have h2F := E0.tr (h2E.wk (W' := [125]) (by first | rfl | simp))
    refine pw_ld E (pc' := 19) (st' := [.ref 141]) rfl (fun _ => rfl) ?_
    refine pw_ld E (pc' := 20) (st' := [.ref 141, .ref 141]) rfl (fun _ => rfl) ?_
    have he4 : pw_gm h2 125 27 = pw_gm h 125 27 := by rw [← h2w]; exact pw_gm_ne (by omega)
    refine pw_getM h2I E (c := 125) (k := 27) (pc' := 23) rfl rfl rfl rfl rfl rfl (fun hf3a hf3b => ?_)
    refine pw_ld E (pc' := 24) (st' := [pw_i z, .long (Int64.ofInt (pw_gm h2 125 27)), .ref 141]) rfl (fun _ => rfl) ?_
    refine pw_if E (pc' := 31) rfl (by decide) (by omega) (by omega) ?_ ?_
    · intro hc5
      change z = (0 : Int) at hc5
      refine pw_ld E (pc' := 32) (st' := [.long (Int64.ofInt 0), .long (Int64.ofInt (pw_gm h2 125 27)), .ref 141]) rfl (fun _ => rfl) ?_
      refine pw_ladd E (pc' := 33) rfl rfl ?_
      refine pw_putM h2I E (c := 125) (k := 27) (pc' := 36) rfl rfl rfl rfl (by omega) (by omega) (by omega) (by omega) rfl rfl ?_
      intro h6I h6E
      generalize h6w : pw_w h2 125 27 (.long (Int64.ofInt ((pw_gm h2 125 27) + 0))) = h6 at h6I h6E ⊢
      have h6F := h2F.tr (h6E.wk (W' := [125]) (by first | rfl | simp))
      refine pw_ld E (pc' := 37) (st' := [.ref 141]) rfl (fun _ => rfl) ?_
      refine pw_ld E (pc' := 38) (st' := [.ref 141, .ref 141]) rfl (fun _ => rfl) ?_
      have he7 : pw_gm h6 125 28 = pw_gm h2 125 28 := by rw [← h6w]; exact pw_gm_ne (by omega)
      have he8 : pw_gm h2 125 28 = pw_gm h 125 28 := by rw [← h2w]; exact pw_gm_ne (by omega)
      refine pw_getLM h6I E (c := 125) (k := 28) (pc' := 41) rfl rfl rfl rfl rfl rfl ?_
      refine pw_ld E (pc' := 42) (st' := [pw_i z, .long (Int64.ofInt (pw_gm h6 125 28)), .ref 141]) rfl (fun _ => rfl) ?_
      refine pw_if E (pc' := 49) rfl (by decide) (by omega) (by omega) ?_ ?_
      · intro hc9
        change z = (0 : Int) at hc9
        refine pw_ld E (pc' := 50) (st' := [.long (Int64.ofInt ch), .long (Int64.ofInt (pw_gm h6 125 28)), .ref 141]) rfl (fun _ => rfl) ?_
        refine pw_ladd E (pc' := 51) rfl rfl ?_
        refine pw_putL h6I E (c := 125) (k := 28) (pc' := 54) rfl rfl rfl rfl rfl rfl ?_
        intro h10I h10E
        generalize h10w : pw_w h6 125 28 (.long (Int64.ofInt ((pw_gm h6 125 28) + ch))) = h10 at h10I h10E ⊢
        have h10F := h6F.tr (h10E.wk (W' := [125]) (by first | rfl | simp))
        refine pw_ld E (pc' := 55) (st' := [.ref 141]) rfl (fun _ => rfl) ?_
        refine pw_ld E (pc' := 56) (st' := [.ref 141, .ref 141]) rfl (fun _ => rfl) ?_
        have he12 : pw_gm h10 125 29 = pw_gm h6 125 29 := by rw [← h10w]; exact pw_gm_ne (by omega)
        have he13 : pw_gm h6 125 29 = pw_gm h2 125 29 := by rw [← h6w]; exact pw_gm_ne (by omega)
        have he14 : pw_gm h2 125 29 = pw_gm h 125 29 := by rw [← h2w]; exact pw_gm_ne (by omega)
        refine pw_getM h10I E (c := 125) (k := 29) (pc' := 59) rfl rfl rfl rfl rfl rfl (fun hf11a hf11b => ?_)
        refine pw_ld E (pc' := 60) (st' := [pw_i z, .long (Int64.ofInt (pw_gm h10 125 29)), .ref 141]) rfl (fun _ => rfl) ?_
        refine pw_if E (pc' := 67) rfl (by decide) (by omega) (by omega) ?_ ?_
        · intro hc15
          change z = (0 : Int) at hc15
          refine pw_ld E (pc' := 68) (st' := [.long (Int64.ofInt 1), .long (Int64.ofInt (pw_gm h10 125 29)), .ref 141]) rfl (fun _ => rfl) ?_
          refine pw_ladd E (pc' := 69) rfl rfl ?_
          refine pw_putM h10I E (c := 125) (k := 29) (pc' := 72) rfl rfl rfl rfl (by omega) (by omega) (by omega) (by omega) rfl rfl ?_
          intro h16I h16E
          generalize h16w : pw_w h10 125 29 (.long (Int64.ofInt ((pw_gm h10 125 29) + 1))) = h16 at h16I h16E ⊢
          have h16F := h10F.tr (h16E.wk (W' := [125]) (by first | rfl | simp))
          have he17 : pw_gm h16 125 26 = pw_gm h10 125 26 := by rw [← h16w]; exact pw_gm_ne (by omega)
          have he18 : pw_gm h10 125 26 = pw_gm h6 125 26 := by rw [← h10w]; exact pw_gm_ne (by omega)
          have he19 : pw_gm h6 125 26 = pw_gm h2 125 26 := by rw [← h6w]; exact pw_gm_ne (by omega)
          have he20 : pw_gm h2 125 26 = (pw_gm h 125 26) + 0 := by rw [← h2w]; exact pw_gm_eq (c := 125) (k := 26) I rfl rfl (by omega) (by omega)
          have he21 : pw_gm h16 125 27 = pw_gm h10 125 27 := by rw [← h16w]; exact pw_gm_ne (by omega)
          have he22 : pw_gm h10 125 27 = pw_gm h6 125 27 := by rw [← h10w]; exact pw_gm_ne (by omega)
          have he23 : pw_gm h6 125 27 = (pw_gm h2 125 27) + 0 := by rw [← h6w]; exact pw_gm_eq (c := 125) (k := 27) h2I rfl rfl (by omega) (by omega)
          have he24 : pw_gm h16 125 28 = pw_gm h10 125 28 := by rw [← h16w]; exact pw_gm_ne (by omega)
          have he25 : pw_gm h10 125 28 = (pw_gm h6 125 28) + ch := by rw [← h10w]; exact pw_gm_eq (c := 125) (k := 28) h6I rfl rfl (by omega) (by omega)
          have he26 : pw_gm h16 125 29 = (pw_gm h10 125 29) + 1 := by rw [← h16w]; exact pw_gm_eq (c := 125) (k := 29) h10I rfl rfl (by omega) (by omega)
          refine pw_vret E rfl ?_
          exact ⟨h16I, h16F, ⟨⟨fun _ => by omega, fun _ => by omega⟩, rfl⟩⟩
        · intro hc27
          change ¬ (z = (0 : Int)) at hc27
          exfalso; omega
      · intro hc28
        change ¬ (z = (0 : Int)) at hc28
        exfalso; omega
    · intro hc29
      change ¬ (z = (0 : Int)) at hc29
      exfalso; omega
  · intro hc30
    change ¬ (z = (0 : Int)) at hc30
    refine pw_ld E (pc' := 10) (st' := [.long (Int64.ofInt ch), .long (Int64.ofInt (pw_gm h 125 26)), .ref 141]) rfl (fun _ => rfl) ?_
    refine pw_goto E (pc' := 14) rfl (by decide) ?_
    refine pw_ladd E (pc' := 15) rfl rfl ?_
    refine pw_putL I E (c := 125) (k := 26) (pc' := 18) rfl rfl rfl rfl rfl rfl ?_
    intro h31I h31E
    generalize h31w : pw_w h 125 26 (.long (Int64.ofInt ((pw_gm h 125 26) + ch))) = h31 at h31I h31E ⊢
    have h31F := E0.tr (h31E.wk (W' := [125]) (by first | rfl | simp))
    refine pw_ld E (pc' := 19) (st' := [.ref 141]) rfl (fun _ => rfl) ?_
    refine pw_ld E (pc' := 20) (st' := [.ref 141, .ref 141]) rfl (fun _ => rfl) ?_
    have he33 : pw_gm h31 125 27 = pw_gm h 125 27 := by rw [← h31w]; exact pw_gm_ne (by omega)
    refine pw_getM h31I E (c := 125) (k := 27) (pc' := 23) rfl rfl rfl rfl rfl rfl (fun hf32a hf32b => ?_)
    refine pw_ld E (pc' := 24) (st' := [pw_i z, .long (Int64.ofInt (pw_gm h31 125 27)), .ref 141]) rfl (fun _ => rfl) ?_
    refine pw_if E (pc' := 31) rfl (by decide) (by omega) (by omega) ?_ ?_
    · intro hc34
      change z = (0 : Int) at hc34
      exfalso; omega
    · intro hc35
      change ¬ (z = (0 : Int)) at hc35
      refine pw_ld E (pc' := 28) (st' := [.long (Int64.ofInt 1), .long (Int64.ofInt (pw_gm h31 125 27)), .ref 141]) rfl (fun _ => rfl) ?_
      refine pw_goto E (pc' := 32) rfl (by decide) ?_
      refine pw_ladd E (pc' := 33) rfl rfl ?_
      refine pw_putM h31I E (c := 125) (k := 27) (pc' := 36) rfl rfl rfl rfl (by omega) (by omega) (by omega) (by omega) rfl rfl ?_
      intro h36I h36E
      generalize h36w : pw_w h31 125 27 (.long (Int64.ofInt ((pw_gm h31 125 27) + 1))) = h36 at h36I h36E ⊢
      have h36F := h31F.tr (h36E.wk (W' := [125]) (by first | rfl | simp))
      refine pw_ld E (pc' := 37) (st' := [.ref 141]) rfl (fun _ => rfl) ?_
      refine pw_ld E (pc' := 38) (st' := [.ref 141, .ref 141]) rfl (fun _ => rfl) ?_
      have he37 : pw_gm h36 125 28 = pw_gm h31 125 28 := by rw [← h36w]; exact pw_gm_ne (by omega)
      have he38 : pw_gm h31 125 28 = pw_gm h 125 28 := by rw [← h31w]; exact pw_gm_ne (by omega)
      refine pw_getLM h36I E (c := 125) (k := 28) (pc' := 41) rfl rfl rfl rfl rfl rfl ?_
      refine pw_ld E (pc' := 42) (st' := [pw_i z, .long (Int64.ofInt (pw_gm h36 125 28)), .ref 141]) rfl (fun _ => rfl) ?_
      refine pw_if E (pc' := 49) rfl (by decide) (by omega) (by omega) ?_ ?_
      · intro hc39
        change z = (0 : Int) at hc39
        exfalso; omega
      · intro hc40
        change ¬ (z = (0 : Int)) at hc40
        refine pw_ld E (pc' := 46) (st' := [.long (Int64.ofInt 0), .long (Int64.ofInt (pw_gm h36 125 28)), .ref 141]) rfl (fun _ => rfl) ?_
        refine pw_goto E (pc' := 50) rfl (by decide) ?_
        refine pw_ladd E (pc' := 51) rfl rfl ?_
        refine pw_putL h36I E (c := 125) (k := 28) (pc' := 54) rfl rfl rfl rfl rfl rfl ?_
        intro h41I h41E
        generalize h41w : pw_w h36 125 28 (.long (Int64.ofInt ((pw_gm h36 125 28) + 0))) = h41 at h41I h41E ⊢
        have h41F := h36F.tr (h41E.wk (W' := [125]) (by first | rfl | simp))
        refine pw_ld E (pc' := 55) (st' := [.ref 141]) rfl (fun _ => rfl) ?_
        refine pw_ld E (pc' := 56) (st' := [.ref 141, .ref 141]) rfl (fun _ => rfl) ?_
        have he43 : pw_gm h41 125 29 = pw_gm h36 125 29 := by rw [← h41w]; exact pw_gm_ne (by omega)
        have he44 : pw_gm h36 125 29 = pw_gm h31 125 29 := by rw [← h36w]; exact pw_gm_ne (by omega)
        have he45 : pw_gm h31 125 29 = pw_gm h 125 29 := by rw [← h31w]; exact pw_gm_ne (by omega)
        refine pw_getM h41I E (c := 125) (k := 29) (pc' := 59) rfl rfl rfl rfl rfl rfl (fun hf42a hf42b => ?_)
        refine pw_ld E (pc' := 60) (st' := [pw_i z, .long (Int64.ofInt (pw_gm h41 125 29)), .ref 141]) rfl (fun _ => rfl) ?_
        refine pw_if E (pc' := 67) rfl (by decide) (by omega) (by omega) ?_ ?_
        · intro hc46
          change z = (0 : Int) at hc46
          exfalso; omega
        · intro hc47
          change ¬ (z = (0 : Int)) at hc47
          refine pw_ld E (pc' := 64) (st' := [.long (Int64.ofInt 0), .long (Int64.ofInt (pw_gm h41 125 29)), .ref 141]) rfl (fun _ => rfl) ?_
          refine pw_goto E (pc' := 68) rfl (by decide) ?_
          refine pw_ladd E (pc' := 69) rfl rfl ?_
          refine pw_putM h41I E (c := 125) (k := 29) (pc' := 72) rfl rfl rfl rfl (by omega) (by omega) (by omega) (by omega) rfl rfl ?_
          intro h48I h48E
          generalize h48w : pw_w h41 125 29 (.long (Int64.ofInt ((pw_gm h41 125 29) + 0))) = h48 at h48I h48E ⊢
          have h48F := h41F.tr (h48E.wk (W' := [125]) (by first | rfl | simp))
          have he49 : pw_gm h48 125 26 = pw_gm h41 125 26 := by rw [← h48w]; exact pw_gm_ne (by omega)
          have he50 : pw_gm h41 125 26 = pw_gm h36 125 26 := by rw [← h41w]; exact pw_gm_ne (by omega)
          have he51 : pw_gm h36 125 26 = pw_gm h31 125 26 := by rw [← h36w]; exact pw_gm_ne (by omega)
          have he52 : pw_gm h31 125 26 = (pw_gm h 125 26) + ch := by rw [← h31w]; exact pw_gm_eq (c := 125) (k := 26) I rfl rfl (by omega) (by omega)
          have he53 : pw_gm h48 125 27 = pw_gm h41 125 27 := by rw [← h48w]; exact pw_gm_ne (by omega)
          have he54 : pw_gm h41 125 27 = pw_gm h36 125 27 := by rw [← h41w]; exact pw_gm_ne (by omega)
          have he55 : pw_gm h36 125 27 = (pw_gm h31 125 27) + 1 := by rw [← h36w]; exact pw_gm_eq (c := 125) (k := 27) h31I rfl rfl (by omega) (by omega)
          have he56 : pw_gm h48 125 28 = pw_gm h41 125 28 := by rw [← h48w]; exact pw_gm_ne (by omega)
          have he57 : pw_gm h41 125 28 = (pw_gm h36 125 28) + 0 := by rw [← h41w]; exact pw_gm_eq (c := 125) (k := 28) h36I rfl rfl (by omega) (by omega)
          have he58 : pw_gm h48 125 29 = (pw_gm h41 125 29) + 0 := by rw [← h48w]; exact pw_gm_eq (c := 125) (k := 29) h41I rfl rfl (by omega) (by omega)
          refine pw_vret E rfl ?_
          exact ⟨h48I, h48F, ⟨⟨fun _ => by omega, fun _ => by omega⟩, rfl⟩⟩
set_option maxHeartbeats 4000000 in
theorem cm_221_s {X : List (Nat × List Value)} {d : Nat} {h : pm_H} (hd : 1 ≤ d) (I : pw_I h) (hp0 : 0 ≤ pw_gm h 125 27) (hp1 : pw_gm h 125 27 ≤ 24) (hp2 : 0 ≤ pw_gm h 125 29) (hp3 : pw_gm h 125 29 ≤ 24) (hp4 : (-48000) ≤ pw_gm h 125 26) (hp5 : pw_gm h 125 26 ≤ 48000) (hp6 : (-48000) ≤ pw_gm h 125 28) (hp7 : pw_gm h 125 28 ≤ 48000) : pw X d h 221 0 [some (.ref 141)] [] (fun h' v => pw_I h' ∧ pw_E [125] h h' ∧ ∃ a : Int, v = .inl (some (pw_i a)) ∧ 0 ≤ a ∧ a ≤ 1 ∧ (((a = 1 ∧ 0 < pw_gm h 125 27 * pw_gm h 125 29) ∨ (a = 0 ∧ pw_gm h 125 27 * pw_gm h 125 29 ≤ 0)) ∧ pw_gm h' 125 24 = pw_gm h 125 26 * pw_gm h 125 29 - pw_gm h 125 28 * pw_gm h 125 27 ∧ pw_gm h' 125 25 = pw_gm h 125 27 * pw_gm h 125 29 ∧ pw_gm h' 125 26 = pw_gm h 125 26 ∧ pw_gm h' 125 27 = pw_gm h 125 27 ∧ pw_gm h' 125 28 = pw_gm h 125 28 ∧ pw_gm h' 125 29 = pw_gm h 125 29)) := by
  have E : pm_ent 221 = some (1, 1, 12, 1, pmc_221) := rfl
  have E0 : pw_E [125] h h := pw_E.rf _ _
  refine pw_ld E (pc' := 1) (st' := [.ref 141]) rfl (fun _ => rfl) ?_
  refine pw_ld E (pc' := 2) (st' := [.ref 141, .ref 141]) rfl (fun _ => rfl) ?_
  refine pw_getLM I E (c := 125) (k := 26) (pc' := 5) rfl rfl rfl rfl rfl rfl ?_
  refine pw_ld E (pc' := 6) (st' := [.ref 141, .long (Int64.ofInt (pw_gm h 125 26)), .ref 141]) rfl (fun _ => rfl) ?_
  refine pw_getM I E (c := 125) (k := 29) (pc' := 9) rfl rfl rfl rfl rfl rfl (fun hf1a hf1b => ?_)
  have hm2 := pw_mulS (a := pw_gm h 125 26) (b := pw_gm h 125 29) (A := 48000) (B := 24) (by omega) (by omega) (by omega) (by omega)
  refine pw_lmul E (pc' := 10) rfl rfl ?_
  refine pw_ld E (pc' := 11) (st' := [.ref 141, .long (Int64.ofInt ((pw_gm h 125 26) * (pw_gm h 125 29))), .ref 141]) rfl (fun _ => rfl) ?_
  refine pw_getLM I E (c := 125) (k := 28) (pc' := 14) rfl rfl rfl rfl rfl rfl ?_
  refine pw_ld E (pc' := 15) (st' := [.ref 141, .long (Int64.ofInt (pw_gm h 125 28)), .long (Int64.ofInt ((pw_gm h 125 26) * (pw_gm h 125 29))), .ref 141]) rfl (fun _ => rfl) ?_
  refine pw_getM I E (c := 125) (k := 27) (pc' := 18) rfl rfl rfl rfl rfl rfl (fun hf3a hf3b => ?_)
  have hm4 := pw_mulS (a := pw_gm h 125 28) (b := pw_gm h 125 27) (A := 48000) (B := 24) (by omega) (by omega) (by omega) (by omega)
  refine pw_lmul E (pc' := 19) rfl rfl ?_
  refine pw_lsub E (pc' := 20) rfl rfl ?_
  refine pw_putL I E (c := 125) (k := 24) (pc' := 23) rfl rfl rfl rfl rfl rfl ?_
  intro h5I h5E
  generalize h5w : pw_w h 125 24 (.long (Int64.ofInt (((pw_gm h 125 26) * (pw_gm h 125 29)) - ((pw_gm h 125 28) * (pw_gm h 125 27))))) = h5 at h5I h5E ⊢
  have h5F := E0.tr (h5E.wk (W' := [125]) (by first | rfl | simp))
  refine pw_ld E (pc' := 24) (st' := [.ref 141]) rfl (fun _ => rfl) ?_
  refine pw_ld E (pc' := 25) (st' := [.ref 141, .ref 141]) rfl (fun _ => rfl) ?_
  have he7 : pw_gm h5 125 27 = pw_gm h 125 27 := by rw [← h5w]; exact pw_gm_ne (by omega)
  refine pw_getM h5I E (c := 125) (k := 27) (pc' := 28) rfl rfl rfl rfl rfl rfl (fun hf6a hf6b => ?_)
  refine pw_ld E (pc' := 29) (st' := [.ref 141, .long (Int64.ofInt (pw_gm h5 125 27)), .ref 141]) rfl (fun _ => rfl) ?_
  have he9 : pw_gm h5 125 29 = pw_gm h 125 29 := by rw [← h5w]; exact pw_gm_ne (by omega)
  refine pw_getM h5I E (c := 125) (k := 29) (pc' := 32) rfl rfl rfl rfl rfl rfl (fun hf8a hf8b => ?_)
  have hm10 := pw_mulB (a := pw_gm h5 125 27) (b := pw_gm h5 125 29) (A := 24) (B := 24) (by omega) (by omega) (by omega) (by omega)
  refine pw_lmul E (pc' := 33) rfl rfl ?_
  have eD : (pw_gm h5 125 27) * (pw_gm h5 125 29) = pw_gm h 125 27 * pw_gm h 125 29 := by rw [show pw_gm h5 125 27 = pw_gm h 125 27 by omega, show pw_gm h5 125 29 = pw_gm h 125 29 by omega]
  refine pw_putM h5I E (c := 125) (k := 25) (pc' := 36) rfl rfl rfl rfl (by omega) (by omega) (by omega) (by omega) rfl rfl ?_
  intro h11I h11E
  generalize h11w : pw_w h5 125 25 (.long (Int64.ofInt ((pw_gm h5 125 27) * (pw_gm h5 125 29)))) = h11 at h11I h11E ⊢
  have h11F := h5F.tr (h11E.wk (W' := [125]) (by first | rfl | simp))
  refine pw_ld E (pc' := 37) (st' := [.ref 141]) rfl (fun _ => rfl) ?_
  have he13 : pw_gm h11 125 25 = (pw_gm h5 125 27) * (pw_gm h5 125 29) := by rw [← h11w]; exact pw_gm_eq (c := 125) (k := 25) h5I rfl rfl (by omega) (by omega)
  refine pw_getM h11I E (c := 125) (k := 25) (pc' := 40) rfl rfl rfl rfl rfl rfl (fun hf12a hf12b => ?_)
  refine pw_ld E (pc' := 41) (st' := [.long (Int64.ofInt 0), .long (Int64.ofInt (pw_gm h11 125 25))]) rfl (fun _ => rfl) ?_
  refine pw_lcmpC E (pc' := 42) rfl rfl (by omega) (by omega) (by omega) (by omega) (fun c14 hc14 => ?_)
  refine pw_if E (pc' := 49) rfl (by decide) (by omega) (by omega) ?_ ?_
  · intro hc15
    change c14 ≤ (0 : Int) at hc15
    refine pw_ld E (pc' := 50) (st' := [pw_i 0]) rfl (fun _ => rfl) ?_
    have he16 : pw_gm h11 125 24 = pw_gm h5 125 24 := by rw [← h11w]; exact pw_gm_ne (by omega)
    have he17 : pw_gm h5 125 24 = ((pw_gm h 125 26) * (pw_gm h 125 29)) - ((pw_gm h 125 28) * (pw_gm h 125 27)) := by rw [← h5w]; exact pw_gm_eq (c := 125) (k := 24) I rfl rfl (by omega) (by omega)
    have he18 : pw_gm h11 125 26 = pw_gm h5 125 26 := by rw [← h11w]; exact pw_gm_ne (by omega)
    have he19 : pw_gm h5 125 26 = pw_gm h 125 26 := by rw [← h5w]; exact pw_gm_ne (by omega)
    have he20 : pw_gm h11 125 27 = pw_gm h5 125 27 := by rw [← h11w]; exact pw_gm_ne (by omega)
    have he21 : pw_gm h11 125 28 = pw_gm h5 125 28 := by rw [← h11w]; exact pw_gm_ne (by omega)
    have he22 : pw_gm h5 125 28 = pw_gm h 125 28 := by rw [← h5w]; exact pw_gm_ne (by omega)
    have he23 : pw_gm h11 125 29 = pw_gm h5 125 29 := by rw [← h11w]; exact pw_gm_ne (by omega)
    refine pw_zret E rfl (by omega) ?_
    exact ⟨h11I, h11F, ⟨_, rfl, by omega, by omega, by omega, by omega, by omega, by omega, by omega, by omega, by omega⟩⟩
  · intro hc24
    change ¬ (c14 ≤ (0 : Int)) at hc24
    refine pw_ld E (pc' := 46) (st' := [pw_i 1]) rfl (fun _ => rfl) ?_
    refine pw_goto E (pc' := 50) rfl (by decide) ?_
    have he25 : pw_gm h11 125 24 = pw_gm h5 125 24 := by rw [← h11w]; exact pw_gm_ne (by omega)
    have he26 : pw_gm h5 125 24 = ((pw_gm h 125 26) * (pw_gm h 125 29)) - ((pw_gm h 125 28) * (pw_gm h 125 27)) := by rw [← h5w]; exact pw_gm_eq (c := 125) (k := 24) I rfl rfl (by omega) (by omega)
    have he27 : pw_gm h11 125 26 = pw_gm h5 125 26 := by rw [← h11w]; exact pw_gm_ne (by omega)
    have he28 : pw_gm h5 125 26 = pw_gm h 125 26 := by rw [← h5w]; exact pw_gm_ne (by omega)
    have he29 : pw_gm h11 125 27 = pw_gm h5 125 27 := by rw [← h11w]; exact pw_gm_ne (by omega)
    have he30 : pw_gm h11 125 28 = pw_gm h5 125 28 := by rw [← h11w]; exact pw_gm_ne (by omega)
    have he31 : pw_gm h5 125 28 = pw_gm h 125 28 := by rw [← h5w]; exact pw_gm_ne (by omega)
    have he32 : pw_gm h11 125 29 = pw_gm h5 125 29 := by rw [← h11w]; exact pw_gm_ne (by omega)
    refine pw_zret E rfl (by omega) ?_
    exact ⟨h11I, h11F, ⟨_, rfl, by omega, by omega, by omega, by omega, by omega, by omega, by omega, by omega, by omega⟩⟩
set_option maxHeartbeats 4000000 in
theorem cm_218_s {X : List (Nat × List Value)} {d : Nat} {h : pm_H} (hd : 4 ≤ d) (I : pw_I h) (b : Int) (hb1 : 0 ≤ b) (hb2 : b ≤ 11) (e : Int) (he1 : 0 ≤ e) (he2 : e ≤ 11) (wo : Int) (hwo1 : (-2147483648) ≤ wo) (hwo2 : wo ≤ 2147483647) : pw X d h 218 0 [some (.ref 141), some (pw_i b), some (pw_i e), some (pw_i wo), none] [] (fun h' v => pw_I h' ∧ pw_E [125] h h' ∧ ∃ a : Int, v = .inl (some (pw_i a)) ∧ 0 ≤ a ∧ a ≤ 1 ∧ (((a = 1 ∧ pv_OK (pv_lo (pv_sdm h b e) wo)) ∨ (a = 0 ∧ ¬ pv_OK (pv_lo (pv_sdm h b e) wo))) ∧ pw_gm h' 125 24 = pv_U (pv_lo (pv_sdm h b e) wo) (pv_chm h b e) ∧ pw_gm h' 125 25 = pv_D (pv_lo (pv_sdm h b e) wo) ∧ pw_gm h' 125 26 = pv_S (pv_lo (pv_sdm h b e) wo) (pv_chm h b e) 0 24 ∧ pw_gm h' 125 27 = pv_N (pv_lo (pv_sdm h b e) wo) 0 24 ∧ pw_gm h' 125 28 = pv_S (pv_lo (pv_sdm h b e) wo) (pv_chm h b e) 1 24 ∧ pw_gm h' 125 29 = pv_N (pv_lo (pv_sdm h b e) wo) 1 24)) := by
  have E : pm_ent 218 = some (4, 5, 12, 1, pmc_218) := rfl
  have E0 : pw_E [125] h h := pw_E.rf _ _
  refine pw_ld E (pc' := 1) (st' := [.ref 141]) rfl (fun _ => rfl) ?_
  obtain ⟨f1l, f1h, -⟩ := pw_obj (c := 125) I rfl
  refine pw_call (m' := 219) (As := [.ref 141]) (rest := []) (ls'' := [some (.ref 141)]) (Nat.le_trans (by decide) hd) E rfl (fun _ => pw_iV rfl rfl rfl rfl (pw_cellI f1h rfl)) (rfl : pm_ent 219 = some (1, 1, 12, 4, pmc_219)) rfl rfl (cm_219_s (pw_dp hd (by decide)) I ) ?_
  rintro h2 v3 ⟨h2I, h2E, hqbeg, rfl⟩
  refine ⟨_, rfl, ?_⟩
  have h2F := E0.tr (h2E.wk (W' := [125]) (by first | rfl | simp))
  show pw X d h2 218 4 [some (.ref 141), some (pw_i b), some (pw_i e), some (pw_i wo), none] [] _
  refine pw_ld E (pc' := 5) (st' := [pw_i 0]) rfl (fun _ => rfl) ?_
  refine pw_ist E (pc' := 7) (ls' := [some (.ref 141), some (pw_i b), some (pw_i e), some (pw_i wo), some (pw_i 0)]) rfl rfl rfl rfl ?_
  have L7 : ∀ (n7 : Nat) (k7_4 : Int) (gh7 : pm_H), pw_I gh7 → pw_E [125] h gh7 → 0 ≤ k7_4 → k7_4 ≤ 24 → pw_gm gh7 125 26 = pv_S (pv_lo (pv_sdm h b e) wo) (pv_chm h b e) 0 (k7_4).toNat → pw_gm gh7 125 27 = pv_N (pv_lo (pv_sdm h b e) wo) 0 (k7_4).toNat → pw_gm gh7 125 28 = pv_S (pv_lo (pv_sdm h b e) wo) (pv_chm h b e) 1 (k7_4).toNat → pw_gm gh7 125 29 = pv_N (pv_lo (pv_sdm h b e) wo) 1 (k7_4).toNat → pw_gm gh7 125 27 + pw_gm gh7 125 29 ≤ k7_4 → 0 ≤ pw_gm gh7 125 27 → 0 ≤ pw_gm gh7 125 29 → (-2000) * k7_4 ≤ pw_gm gh7 125 26 → pw_gm gh7 125 26 ≤ 2000 * k7_4 → (-2000) * k7_4 ≤ pw_gm gh7 125 28 → pw_gm gh7 125 28 ≤ 2000 * k7_4 → (24 - k7_4).toNat = n7 → pw X d gh7 218 7 [some (.ref 141), some (pw_i b), some (pw_i e), some (pw_i wo), some (pw_i k7_4)] [] (fun h' v => pw_I h' ∧ pw_E [125] h h' ∧ ∃ a : Int, v = .inl (some (pw_i a)) ∧ 0 ≤ a ∧ a ≤ 1 ∧ (((a = 1 ∧ pv_OK (pv_lo (pv_sdm h b e) wo)) ∨ (a = 0 ∧ ¬ pv_OK (pv_lo (pv_sdm h b e) wo))) ∧ pw_gm h' 125 24 = pv_U (pv_lo (pv_sdm h b e) wo) (pv_chm h b e) ∧ pw_gm h' 125 25 = pv_D (pv_lo (pv_sdm h b e) wo) ∧ pw_gm h' 125 26 = pv_S (pv_lo (pv_sdm h b e) wo) (pv_chm h b e) 0 24 ∧ pw_gm h' 125 27 = pv_N (pv_lo (pv_sdm h b e) wo) 0 24 ∧ pw_gm h' 125 28 = pv_S (pv_lo (pv_sdm h b e) wo) (pv_chm h b e) 1 24 ∧ pw_gm h' 125 29 = pv_N (pv_lo (pv_sdm h b e) wo) 1 24)) := by
    intro n7
    induction n7 using Nat.strongRecOn with
    | ind n7 ih7 =>
      intro k7_4 gh7 I7 E7 k7_4a k7_4b hx7_0 hx7_1 hx7_2 hx7_3 hx7_4 hx7_5 hx7_6 hx7_7 hx7_8 hx7_9 hx7_10 hm7
      refine pw_ld E (pc' := 9) (st' := [pw_i k7_4]) rfl (fun _ => rfl) ?_
      refine pw_bip E (pc' := 11) rfl rfl (by decide) ?_
      refine pw_if2 E (pc' := 65) rfl (by decide) (by omega) (by omega) (by decide) (by decide) ?_ ?_
      · intro hc4
        change (24 : Int) ≤ k7_4 at hc4
        rw [show (k7_4).toNat = 24 by omega] at hx7_0 hx7_1 hx7_2 hx7_3
        refine pw_ld E (pc' := 66) (st' := [.ref 141]) rfl (fun _ => rfl) ?_
        obtain ⟨f5l, f5h, -⟩ := pw_obj (c := 125) I7 rfl
        refine pw_call (m' := 221) (As := [.ref 141]) (rest := []) (ls'' := [some (.ref 141)]) (Nat.le_trans (by decide) hd) E rfl (fun _ => pw_iV rfl rfl rfl rfl (pw_cellI f5h rfl)) (rfl : pm_ent 221 = some (1, 1, 12, 1, pmc_221)) rfl rfl (cm_221_s (pw_dp hd (by decide)) I7 (by omega) (by omega) (by omega) (by omega) (by omega) (by omega) (by omega) (by omega)) ?_
        rintro h6 v7 ⟨h6I, h6E, x8, rfl, hx8a, hx8b, hx8r⟩
        refine ⟨_, rfl, ?_⟩
        have h6F := E7.tr (h6E.wk (W' := [125]) (by first | rfl | simp))
        show pw X d h6 218 69 [some (.ref 141), some (pw_i b), some (pw_i e), some (pw_i wo), some (pw_i k7_4)] [pw_i x8] _
        change ((x8 = 1 ∧ 0 < pw_gm gh7 125 27 * pw_gm gh7 125 29) ∨ (x8 = 0 ∧ pw_gm gh7 125 27 * pw_gm gh7 125 29 ≤ 0)) ∧ pw_gm h6 125 24 = pw_gm gh7 125 26 * pw_gm gh7 125 29 - pw_gm gh7 125 28 * pw_gm gh7 125 27 ∧ pw_gm h6 125 25 = pw_gm gh7 125 27 * pw_gm gh7 125 29 ∧ pw_gm h6 125 26 = pw_gm gh7 125 26 ∧ pw_gm h6 125 27 = pw_gm gh7 125 27 ∧ pw_gm h6 125 28 = pw_gm gh7 125 28 ∧ pw_gm h6 125 29 = pw_gm gh7 125 29 at hx8r
        refine pw_zret E rfl (by omega) ?_
        rw [hx7_0, hx7_1, hx7_2, hx7_3] at hx8r
        obtain ⟨r1, r2, r3, r4, r5, r6, r7⟩ := hx8r
        exact ⟨h6I, h6F, ⟨_, rfl, by omega, by omega, pv_okD (pv_NB 24).1 (pv_NB 24).1 r1, r2, r3, r4, r5, r6, r7⟩⟩
      · intro hc9
        change ¬ ((24 : Int) ≤ k7_4) at hc9
        have oo := pv_loI (sd := pv_sdm h b e) (wo := wo) (k := k7_4) (by omega)
        have od := pv_sdmI (h := h) (b := b) (e := e) (k := k7_4) (by omega)
        have q1 : pw_g gh7 131 (k7_4).toNat = pw_g h 131 (k7_4).toNat := pw_Eg (c := 131) I E7 rfl rfl _
        have qb : pw_g gh7 138 (12 * k7_4 + b).toNat = pw_g h 138 (12 * k7_4 + b).toNat := pw_Eg (c := 138) I E7 rfl rfl _
        have qe : pw_g gh7 138 (12 * k7_4 + e).toNat = pw_g h 138 (12 * k7_4 + e).toNat := pw_Eg (c := 138) I E7 rfl rfl _
        have q4 : pw_g gh7 132 (k7_4).toNat = pw_g h 132 (k7_4).toNat := pw_Eg (c := 132) I E7 rfl rfl _
        have q15 : pw_g gh7 125 15 = pw_g h 125 15 := pw_Ef E7 (Or.inr (Or.inl rfl)) rfl
        have hkb : pv_hmk gh7 b (k7_4) = pv_hmk h b (k7_4) := by unfold pv_hmk; rw [q15, pw_Eg (c := 139) I E7 rfl rfl, pw_Eg (c := 140) I E7 rfl rfl]
        have hke : pv_hmk gh7 e (k7_4) = pv_hmk h e (k7_4) := by unfold pv_hmk; rw [q15, pw_Eg (c := 139) I E7 rfl rfl, pw_Eg (c := 140) I E7 rfl rfl]
        have hw4 := pw_gA (c := 132) (j := k7_4) I7 rfl (by decide) (by omega) (by omega)
        refine pw_ld E (pc' := 16) (st' := [pw_i k7_4]) rfl (fun _ => rfl) ?_
        refine pw_ld E (pc' := 17) (st' := [pw_i wo, pw_i k7_4]) rfl (fun _ => rfl) ?_
        refine pw_if2 E (pc' := 59) rfl (by decide) (by omega) (by omega) (by omega) (by omega) ?_ ?_
        · intro hc10
          change k7_4 = wo at hc10
          have hsd : (pv_lo (pv_sdm h b e) wo) (k7_4).toNat = -1 := by omega
          clear oo od
          obtain ⟨e0, e1, e2, e3⟩ := pv_stpm (sd := pv_lo (pv_sdm h b e) wo) (ch := pv_chm h b e) (k := k7_4) (by omega) hsd
          refine pw_inc E (pc' := 62) (ls' := [some (.ref 141), some (pw_i b), some (pw_i e), some (pw_i wo), some (pw_i (k7_4 + 1))]) rfl rfl rfl rfl ?_
          refine pw_goto E (pc' := 7) rfl (by decide) ?_
          exact ih7 _ (by omega) (k7_4 + 1) gh7 I7 E7 (by omega) (by omega) (by omega) (by omega) (by omega) (by omega) (by omega) (by omega) (by omega) (by omega) (by omega) (by omega) (by omega) rfl
        · intro hc11
          change ¬ (k7_4 = wo) at hc11
          refine pw_ld E (pc' := 21) (st' := [.ref 141]) rfl (fun _ => rfl) ?_
          refine pw_ld E (pc' := 23) (st' := [pw_i k7_4, .ref 141]) rfl (fun _ => rfl) ?_
          refine pw_ld E (pc' := 24) (st' := [pw_i b, pw_i k7_4, .ref 141]) rfl (fun _ => rfl) ?_
          refine pw_ld E (pc' := 25) (st' := [pw_i e, pw_i b, pw_i k7_4, .ref 141]) rfl (fun _ => rfl) ?_
          obtain ⟨f12l, f12h, -⟩ := pw_obj (c := 125) I7 rfl
          refine pw_call (m' := 214) (As := [.ref 141, pw_i k7_4, pw_i b, pw_i e]) (rest := []) (ls'' := [some (.ref 141), some (pw_i k7_4), some (pw_i b), some (pw_i e)]) (Nat.le_trans (by decide) hd) E rfl (fun _ => pw_iV rfl rfl rfl rfl (pw_cellI f12h rfl)) (rfl : pm_ent 214 = some (4, 4, 12, 1, pmc_214)) rfl rfl (cm_214_s (pw_dp hd (by decide)) I7 (k7_4) (by omega) (by omega) (b) (by omega) (by omega) (e) (by omega) (by omega)) ?_
          rintro u14 v13 ⟨rfl, x15, rfl, hx15a, hx15b, hx15r⟩
          refine ⟨_, rfl, ?_⟩
          show pw X d gh7 218 28 [some (.ref 141), some (pw_i b), some (pw_i e), some (pw_i wo), some (pw_i k7_4)] [pw_i x15] _
          change (x15 = 1 ∧ pw_g gh7 131 k7_4.toNat ≠ 0 ∧ pw_g gh7 138 (12 * k7_4 + b).toNat ≠ 0 ∧ pw_g gh7 138 (12 * k7_4 + e).toNat ≠ 0) ∨ (x15 = 0 ∧ ¬ (pw_g gh7 131 k7_4.toNat ≠ 0 ∧ pw_g gh7 138 (12 * k7_4 + b).toNat ≠ 0 ∧ pw_g gh7 138 (12 * k7_4 + e).toNat ≠ 0)) at hx15r
          rcases (by omega : x15 = 1 ∨ x15 = 0) with hb16 | hb16
          · skip
            refine pw_if E (pc' := 59) rfl (by decide) (by omega) (by omega) ?_ ?_
            · intro hc17
              change x15 = (0 : Int) at hc17
              exfalso; omega
            · intro hc18
              change ¬ (x15 = (0 : Int)) at hc18
              refine pw_ld E (pc' := 32) (st' := [.ref 141]) rfl (fun _ => rfl) ?_
              refine pw_ld E (pc' := 33) (st' := [.ref 141, .ref 141]) rfl (fun _ => rfl) ?_
              refine pw_getR (b := 148) I7 E (c := 125) (k := 11) (pc' := 36) rfl rfl rfl rfl rfl rfl rfl ?_
              refine pw_ld E (pc' := 38) (st' := [pw_i k7_4, .ref 148, .ref 141]) rfl (fun _ => rfl) ?_
              refine pw_ald2 I7 E (c := 132) (pc' := 39) rfl rfl rfl (by decide) rfl (by decide) (by omega) (by omega) rfl (fun hf19a hf19b => ?_)
              refine pw_if E (pc' := 46) rfl (by decide) (by omega) (by omega) ?_ ?_
              · intro hc20
                change pw_g gh7 132 (k7_4.toNat) ≠ (0 : Int) at hc20
                refine pw_ld E (pc' := 47) (st' := [pw_i 0, .ref 141]) rfl (fun _ => rfl) ?_
                refine pw_ld E (pc' := 48) (st' := [.ref 141, pw_i 0, .ref 141]) rfl (fun _ => rfl) ?_
                refine pw_ld E (pc' := 50) (st' := [pw_i k7_4, .ref 141, pw_i 0, .ref 141]) rfl (fun _ => rfl) ?_
                refine pw_ld E (pc' := 51) (st' := [pw_i b, pw_i k7_4, .ref 141, pw_i 0, .ref 141]) rfl (fun _ => rfl) ?_
                refine pw_ld E (pc' := 52) (st' := [pw_i e, pw_i b, pw_i k7_4, .ref 141, pw_i 0, .ref 141]) rfl (fun _ => rfl) ?_
                obtain ⟨f21l, f21h, -⟩ := pw_obj (c := 125) I7 rfl
                refine pw_call (m' := 215) (As := [.ref 141, pw_i k7_4, pw_i b, pw_i e]) (rest := [pw_i 0, .ref 141]) (ls'' := [some (.ref 141), some (pw_i k7_4), some (pw_i b), some (pw_i e)]) (Nat.le_trans (by decide) hd) E rfl (fun _ => pw_iV rfl rfl rfl rfl (pw_cellI f21h rfl)) (rfl : pm_ent 215 = some (4, 4, 12, 0, pmc_215)) rfl rfl (cm_215_s (pw_dp hd (by decide)) I7 (k7_4) (by omega) (by omega) (b) (by omega) (by omega) (e) (by omega) (by omega)) ?_
                rintro u23 v22 ⟨rfl, x24, rfl, hx24a, hx24b, hx24r⟩
                refine ⟨_, rfl, ?_⟩
                show pw X d gh7 218 55 [some (.ref 141), some (pw_i b), some (pw_i e), some (pw_i wo), some (pw_i k7_4)] [pw_i x24, pw_i 0, .ref 141] _
                change x24 = pv_hmk gh7 e k7_4 - pv_hmk gh7 b k7_4 at hx24r
                refine pw_i2l E (pc' := 56) rfl rfl (by omega) (by omega) ?_
                have hch : pv_chm h b e (k7_4).toNat = x24 := by rw [hx24r, hkb, hke]; exact pv_chmI (by omega)
                have hsd : (pv_lo (pv_sdm h b e) wo) (k7_4).toNat = 1 := by omega
                clear oo od
                obtain ⟨e0, e1, e2, e3⟩ := pv_stp1 (sd := pv_lo (pv_sdm h b e) wo) (ch := pv_chm h b e) (k := k7_4) (by omega) hsd
                rw [hch] at e3
                obtain ⟨f25l, f25h, -⟩ := pw_obj (c := 125) I7 rfl
                refine pw_call (m' := 220) (As := [.ref 141, pw_i 0, .long (Int64.ofInt x24)]) (rest := []) (ls'' := [some (.ref 141), some (pw_i 0), some (.long (Int64.ofInt x24)), none]) (Nat.le_trans (by decide) hd) E rfl (fun _ => pw_iV rfl rfl rfl rfl (pw_cellI f25h rfl)) (rfl : pm_ent 220 = some (3, 4, 12, 4, pmc_220)) rfl rfl (cm_220_s (pw_dp hd (by decide)) I7 (0) (by omega) (by omega) (x24) (by omega) (by omega) (by omega) (by omega) (by omega) (by omega) (by omega) (by omega) (by omega)) ?_
                rintro h26 v27 ⟨h26I, h26E, hqadd, rfl⟩
                refine ⟨_, rfl, ?_⟩
                have h26F := E7.tr (h26E.wk (W' := [125]) (by first | rfl | simp))
                show pw X d h26 218 59 [some (.ref 141), some (pw_i b), some (pw_i e), some (pw_i wo), some (pw_i k7_4)] [] _
                have hqa := hqadd.2 rfl
                clear hqadd
                refine pw_inc E (pc' := 62) (ls' := [some (.ref 141), some (pw_i b), some (pw_i e), some (pw_i wo), some (pw_i (k7_4 + 1))]) rfl rfl rfl rfl ?_
                refine pw_goto E (pc' := 7) rfl (by decide) ?_
                exact ih7 _ (by omega) (k7_4 + 1) h26 h26I h26F (by omega) (by omega) (by omega) (by omega) (by omega) (by omega) (by omega) (by omega) (by omega) (by omega) (by omega) (by omega) (by omega) rfl
              · intro hc28
                change ¬ (pw_g gh7 132 (k7_4.toNat) ≠ (0 : Int)) at hc28
                refine pw_ld E (pc' := 43) (st' := [pw_i 1, .ref 141]) rfl (fun _ => rfl) ?_
                refine pw_goto E (pc' := 47) rfl (by decide) ?_
                refine pw_ld E (pc' := 48) (st' := [.ref 141, pw_i 1, .ref 141]) rfl (fun _ => rfl) ?_
                refine pw_ld E (pc' := 50) (st' := [pw_i k7_4, .ref 141, pw_i 1, .ref 141]) rfl (fun _ => rfl) ?_
                refine pw_ld E (pc' := 51) (st' := [pw_i b, pw_i k7_4, .ref 141, pw_i 1, .ref 141]) rfl (fun _ => rfl) ?_
                refine pw_ld E (pc' := 52) (st' := [pw_i e, pw_i b, pw_i k7_4, .ref 141, pw_i 1, .ref 141]) rfl (fun _ => rfl) ?_
                obtain ⟨f29l, f29h, -⟩ := pw_obj (c := 125) I7 rfl
                refine pw_call (m' := 215) (As := [.ref 141, pw_i k7_4, pw_i b, pw_i e]) (rest := [pw_i 1, .ref 141]) (ls'' := [some (.ref 141), some (pw_i k7_4), some (pw_i b), some (pw_i e)]) (Nat.le_trans (by decide) hd) E rfl (fun _ => pw_iV rfl rfl rfl rfl (pw_cellI f29h rfl)) (rfl : pm_ent 215 = some (4, 4, 12, 0, pmc_215)) rfl rfl (cm_215_s (pw_dp hd (by decide)) I7 (k7_4) (by omega) (by omega) (b) (by omega) (by omega) (e) (by omega) (by omega)) ?_
                rintro u31 v30 ⟨rfl, x32, rfl, hx32a, hx32b, hx32r⟩
                refine ⟨_, rfl, ?_⟩
                show pw X d gh7 218 55 [some (.ref 141), some (pw_i b), some (pw_i e), some (pw_i wo), some (pw_i k7_4)] [pw_i x32, pw_i 1, .ref 141] _
                change x32 = pv_hmk gh7 e k7_4 - pv_hmk gh7 b k7_4 at hx32r
                refine pw_i2l E (pc' := 56) rfl rfl (by omega) (by omega) ?_
                have hch : pv_chm h b e (k7_4).toNat = x32 := by rw [hx32r, hkb, hke]; exact pv_chmI (by omega)
                have hsd : (pv_lo (pv_sdm h b e) wo) (k7_4).toNat = 0 := by omega
                clear oo od
                obtain ⟨e0, e1, e2, e3⟩ := pv_stp0 (sd := pv_lo (pv_sdm h b e) wo) (ch := pv_chm h b e) (k := k7_4) (by omega) hsd
                rw [hch] at e2
                obtain ⟨f33l, f33h, -⟩ := pw_obj (c := 125) I7 rfl
                refine pw_call (m' := 220) (As := [.ref 141, pw_i 1, .long (Int64.ofInt x32)]) (rest := []) (ls'' := [some (.ref 141), some (pw_i 1), some (.long (Int64.ofInt x32)), none]) (Nat.le_trans (by decide) hd) E rfl (fun _ => pw_iV rfl rfl rfl rfl (pw_cellI f33h rfl)) (rfl : pm_ent 220 = some (3, 4, 12, 4, pmc_220)) rfl rfl (cm_220_s (pw_dp hd (by decide)) I7 (1) (by omega) (by omega) (x32) (by omega) (by omega) (by omega) (by omega) (by omega) (by omega) (by omega) (by omega) (by omega)) ?_
                rintro h34 v35 ⟨h34I, h34E, hqadd, rfl⟩
                refine ⟨_, rfl, ?_⟩
                have h34F := E7.tr (h34E.wk (W' := [125]) (by first | rfl | simp))
                show pw X d h34 218 59 [some (.ref 141), some (pw_i b), some (pw_i e), some (pw_i wo), some (pw_i k7_4)] [] _
                have hqa := hqadd.1 rfl
                clear hqadd
                refine pw_inc E (pc' := 62) (ls' := [some (.ref 141), some (pw_i b), some (pw_i e), some (pw_i wo), some (pw_i (k7_4 + 1))]) rfl rfl rfl rfl ?_
                refine pw_goto E (pc' := 7) rfl (by decide) ?_
                exact ih7 _ (by omega) (k7_4 + 1) h34 h34I h34F (by omega) (by omega) (by omega) (by omega) (by omega) (by omega) (by omega) (by omega) (by omega) (by omega) (by omega) (by omega) (by omega) rfl
          · skip
            refine pw_if E (pc' := 59) rfl (by decide) (by omega) (by omega) ?_ ?_
            · intro hc37
              change x15 = (0 : Int) at hc37
              have hsd : (pv_lo (pv_sdm h b e) wo) (k7_4).toNat = -1 := by omega
              clear oo od
              obtain ⟨e0, e1, e2, e3⟩ := pv_stpm (sd := pv_lo (pv_sdm h b e) wo) (ch := pv_chm h b e) (k := k7_4) (by omega) hsd
              refine pw_inc E (pc' := 62) (ls' := [some (.ref 141), some (pw_i b), some (pw_i e), some (pw_i wo), some (pw_i (k7_4 + 1))]) rfl rfl rfl rfl ?_
              refine pw_goto E (pc' := 7) rfl (by decide) ?_
              exact ih7 _ (by omega) (k7_4 + 1) gh7 I7 E7 (by omega) (by omega) (by omega) (by omega) (by omega) (by omega) (by omega) (by omega) (by omega) (by omega) (by omega) (by omega) (by omega) rfl
            · intro hc38
              change ¬ (x15 = (0 : Int)) at hc38
              exfalso; omega
  exact L7 _ (0) h2 h2I h2F (by omega) (by omega) (by show _ = (0 : Int); omega) (by show _ = (0 : Int); omega) (by show _ = (0 : Int); omega) (by show _ = (0 : Int); omega) (by omega) (by omega) (by omega) (by omega) (by omega) (by omega) (by omega) rfl
end
section
/-! river, exactly (printed by wip/tool/mriver.py) -/
/-- what pick says of a fraction laid in lowest terms -/
theorem pv_pick {U D wt x g0 g1 : Int} (e0 : g0 = Int.tdiv U (pw_gd U D)) (e1 : g1 = Int.tdiv D (pw_gd U D)) (r : (wt = 0 → x = g0) ∧ (wt ≠ 0 → x = g1)) : x = pv_LW U D wt := by
  by_cases q : wt = 0
  · rw [pv_LW0 q, r.1 q, e0]
  · rw [pv_LW1 q, r.2 q, e1]
theorem pv_low {U D wt x : Int} (r : (wt = 0 → x = Int.tdiv U (pw_gd U D)) ∧ (wt ≠ 0 → x = Int.tdiv D (pw_gd U D))) : x = pv_LW U D wt := pv_pick rfl rfl r
end
section
/-! bounds: what they are (printed by wip/tool/mbnd.py) -/
theorem pv_hmkE {W : List Nat} {h h' : pm_H} {k mo : Int} (I : pw_I h) (E : pw_E W h h') (hn : (W.contains 1015 || (W.contains 139 || W.contains 140)) = false) : pv_hmk h' mo k = pv_hmk h mo k := by
  obtain ⟨h1, h2⟩ := Bool.or_eq_false_iff.mp hn
  obtain ⟨h2, h3⟩ := Bool.or_eq_false_iff.mp h2
  unfold pv_hmk
  rw [pw_Ef E (Or.inr (Or.inl rfl)) h1, pw_Eg (c := 139) I E rfl h2, pw_Eg (c := 140) I E rfl h3]
end
section
/-! odds: bits, ways, rows (printed by wip/tool/modd.py) -/
/-- bit k of s, how many bits, the sum of what they mark -/
def pb_b (s k : Nat) : Nat := s / 2 ^ k % 2
def pb_n (s : Nat) : Nat → Nat
  | 0 => 0
  | k + 1 => pb_n s k + pb_b s k
def pb_S (r : Nat → Int) (s : Nat) : Nat → Int
  | 0 => 0
  | k + 1 => pb_S r s k + (if pb_b s k = 1 then r k else 0)
theorem pb_nI (n : Nat) : nI n = Int32.ofInt (n : Int) := rfl
theorem pb_tI {n : Nat} (h : n < 2147483648) : (nI n).toInt = (n : Int) := pw_toInt (a := (n : Int)) (by omega) (by omega)
theorem pb_31 : ∀ q : Fin 31, ((Int32.ofInt (q.val : Int) &&& 31).toBitVec.smod 32).toNat = q.val := by decide +kernel
theorem pb_bit {s k : Int} (h0 : 0 ≤ s) (h1 : s ≤ 2147483647) (k0 : 0 ≤ k) (k1 : k ≤ 30) : pw_an (pw_sr s k) 1 = (pb_b s.toNat k.toNat : Int) := by
  have hk := pb_31 ⟨k.toNat, by omega⟩
  dsimp only at hk
  rw [show ((k.toNat : Nat) : Int) = k by omega] at hk
  have hm : s.toNat / 2 ^ k.toNat ≤ s.toNat := Nat.div_le_self _ _
  have e1 : pw_sr s k = ((s.toNat / 2 ^ k.toNat : Nat) : Int) := by
    have e := pk_shrN (n := s.toNat) (by omega) (Int32.ofInt k &&& 31) k.toNat hk
    rw [pb_nI s.toNat, show ((s.toNat : Nat) : Int) = s by omega] at e
    unfold pw_sr
    rw [e, pb_tI (by omega)]
  have e2 := pk_andN (n := s.toNat / 2 ^ k.toNat) (by omega) (m := 1) 1 rfl
  have hr : s.toNat / 2 ^ k.toNat % 2 ^ 1 < 2 ^ 1 := Nat.mod_lt _ (by decide)
  have h21 : 2 ^ 1 = 2 := rfl
  have e3 : (nI (s.toNat / 2 ^ k.toNat) &&& 1).toInt = ((s.toNat / 2 ^ k.toNat % 2 ^ 1 : Nat) : Int) := by rw [e2, pb_tI (by omega)]
  rw [e1]
  exact e3
theorem pb_b2 (s k : Nat) : pb_b s k < 2 := Nat.mod_lt _ (by decide)
theorem pb_bhi {s n k : Nat} (h : s < 2 ^ n) (hk : n ≤ k) : pb_b s k = 0 := by
  unfold pb_b
  rw [Nat.div_eq_of_lt (Nat.lt_of_lt_of_le h (Nat.pow_le_pow_right (by decide) hk))]
theorem pb_nhi {s n : Nat} (h : s < 2 ^ n) : ∀ d : Nat, pb_n s (n + d) = pb_n s n := by
  intro d
  induction d with
  | zero => rfl
  | succ d ih =>
    show pb_n s (n + d) + pb_b s (n + d) = _
    have a := pb_bhi h (show n ≤ n + d by omega)
    omega
theorem pb_Shi {r : Nat → Int} {s n : Nat} (h : s < 2 ^ n) : ∀ d : Nat, pb_S r s (n + d) = pb_S r s n := by
  intro d
  induction d with
  | zero => rfl
  | succ d ih =>
    show pb_S r s (n + d) + (if pb_b s (n + d) = 1 then r (n + d) else 0) = _
    have a := pb_bhi h (show n ≤ n + d by omega)
    rw [if_neg (by omega), ih]
    omega
theorem pb_SC {r r' : Nat → Int} {s : Nat} : ∀ n : Nat, (∀ k : Nat, k < n → pb_b s k = 1 → r k = r' k) → pb_S r s n = pb_S r' s n := by
  intro n
  induction n with
  | zero => intro _; rfl
  | succ n ih =>
    intro H
    have e : pb_S r s (n + 1) = pb_S r s n + (if pb_b s n = 1 then r n else 0) := rfl
    have e' : pb_S r' s (n + 1) = pb_S r' s n + (if pb_b s n = 1 then r' n else 0) := rfl
    rw [e, e', ih (fun k hk => H k (by omega))]
    by_cases q : pb_b s n = 1
    · rw [if_pos q, if_pos q, H n (Nat.lt_succ_self n) q]
    · rw [if_neg q, if_neg q]
theorem pb_nB (s : Nat) : ∀ n : Nat, pb_n s n ≤ n := by
  intro n
  induction n with
  | zero => exact Nat.le_refl _
  | succ n ih =>
    have e : pb_n s (n + 1) = pb_n s n + pb_b s n := rfl
    have b := pb_b2 s n
    omega
theorem pb_np : ∀ q : Fin 15, ∀ n : Fin 15, q.val ≤ n.val → pb_n (2 ^ q.val - 1) n.val = q.val := by decide +kernel
theorem pb_SS {r : Nat → Int} {s : Nat} {k : Int} (hk : 0 ≤ k) : (pb_b s k.toNat = 1 → pb_S r s (k + 1).toNat = pb_S r s k.toNat + r k.toNat) ∧ (pb_b s k.toNat ≠ 1 → pb_S r s (k + 1).toNat = pb_S r s k.toNat) := by
  rw [show (k + 1).toNat = k.toNat + 1 by omega]
  have e : pb_S r s (k.toNat + 1) = pb_S r s k.toNat + (if pb_b s k.toNat = 1 then r k.toNat else 0) := rfl
  rw [e]
  exact ⟨fun q => by rw [if_pos q], fun q => by rw [if_neg q]; omega⟩
theorem pb_nS {s : Nat} {k : Int} (hk : 0 ≤ k) : pb_n s (k + 1).toNat = pb_n s k.toNat + pb_b s k.toNat := by
  rw [show (k + 1).toNat = k.toNat + 1 by omega]
  rfl
/-- and with a mask -/
def pb_an (a m : Int) : Int := ((a.toNat &&& m.toNat : Nat) : Int)
theorem pb_anB {a m : Int} (h0 : 0 ≤ a) (h1 : 0 ≤ m) : 0 ≤ pb_an a m ∧ pb_an a m ≤ a ∧ pb_an a m ≤ m := by
  unfold pb_an
  have l1 : a.toNat &&& m.toNat ≤ a.toNat := Nat.and_le_left
  have l2 : a.toNat &&& m.toNat ≤ m.toNat := Nat.and_le_right
  omega
theorem pb_anE {a m : Int} (h0 : 0 ≤ a) (h1 : a ≤ 2147483647) (h2 : 0 ≤ m) (h3 : m ≤ 2147483647) : (Int32.ofInt a &&& Int32.ofInt m).toInt = pb_an a m := by
  have l1 : a.toNat &&& m.toNat ≤ a.toNat := Nat.and_le_left
  have e : nI (a.toNat &&& m.toNat) = nI a.toNat &&& nI m.toNat := Int32.toBitVec_inj.mp BitVec.ofNat_and
  rw [pb_nI a.toNat, pb_nI m.toNat, show ((a.toNat : Nat) : Int) = a by omega, show ((m.toNat : Nat) : Int) = m by omega] at e
  rw [← e, pb_tI (by omega)]
  rfl
theorem pb_16 : ∀ q : Fin 17, (((Int32.ofInt (q.val : Int)).toUInt32 &&& Int32.toUInt32 31).toBitVec % 32).toNat = q.val := by decide +kernel
theorem pb_usE {a k : Int} (h0 : 0 ≤ a) (h1 : a ≤ 2147483647) (k0 : 0 ≤ k) (k1 : k ≤ 16) : ((Int32.ofInt a).toUInt32 >>> ((Int32.ofInt k).toUInt32 &&& Int32.toUInt32 31)).toInt32.toInt = a / ((2 ^ k.toNat : Nat) : Int) := by
  have hk := pb_16 ⟨k.toNat, by omega⟩
  dsimp only at hk
  rw [show ((k.toNat : Nat) : Int) = k by omega] at hk
  have hm : a.toNat / 2 ^ k.toNat ≤ a.toNat := Nat.div_le_self _ _
  have e := pk_ushrN (n := a.toNat) (by omega) (Int32.ofInt k) k.toNat hk
  rw [pb_nI a.toNat, show ((a.toNat : Nat) : Int) = a by omega] at e
  rw [e, pb_tI (by omega)]
  show ((a.toNat : Nat) : Int) / ((2 ^ k.toNat : Nat) : Int) = _
  rw [show ((a.toNat : Nat) : Int) = a by omega]
/-- the JDK's count of bits, by its steps -/
def pb_bc1 (x : Int) : Int := x - pb_an (x / 2) 1431655765
def pb_bc2 (x : Int) : Int := pb_an x 858993459 + pb_an (x / 4) 858993459
def pb_bc3 (x : Int) : Int := pb_an (x + x / 16) 252645135
def pb_bc4 (x : Int) : Int := x + x / 256
def pb_bc5 (x : Int) : Int := pb_an (x + x / 65536) 63
def pb_bc (x : Int) : Int := pb_bc5 (pb_bc4 (pb_bc3 (pb_bc2 (pb_bc1 x))))
def pb_n14 (s : Nat) : Nat := pb_b s 0 + pb_b s 1 + pb_b s 2 + pb_b s 3 + pb_b s 4 + pb_b s 5 + pb_b s 6 + pb_b s 7 + pb_b s 8 + pb_b s 9 + pb_b s 10 + pb_b s 11 + pb_b s 12 + pb_b s 13
theorem pb_n14E (s : Nat) : pb_n s 14 = pb_n14 s := by
  have h0 : pb_n s 1 = pb_n s 0 + pb_b s 0 := rfl
  have h1 : pb_n s 2 = pb_n s 1 + pb_b s 1 := rfl
  have h2 : pb_n s 3 = pb_n s 2 + pb_b s 2 := rfl
  have h3 : pb_n s 4 = pb_n s 3 + pb_b s 3 := rfl
  have h4 : pb_n s 5 = pb_n s 4 + pb_b s 4 := rfl
  have h5 : pb_n s 6 = pb_n s 5 + pb_b s 5 := rfl
  have h6 : pb_n s 7 = pb_n s 6 + pb_b s 6 := rfl
  have h7 : pb_n s 8 = pb_n s 7 + pb_b s 7 := rfl
  have h8 : pb_n s 9 = pb_n s 8 + pb_b s 8 := rfl
  have h9 : pb_n s 10 = pb_n s 9 + pb_b s 9 := rfl
  have h10 : pb_n s 11 = pb_n s 10 + pb_b s 10 := rfl
  have h11 : pb_n s 12 = pb_n s 11 + pb_b s 11 := rfl
  have h12 : pb_n s 13 = pb_n s 12 + pb_b s 12 := rfl
  have h13 : pb_n s 14 = pb_n s 13 + pb_b s 13 := rfl
  have z : pb_n s 0 = 0 := rfl
  unfold pb_n14
  omega
def pb_all (n : Nat) : Bool := Nat.rec true (fun k ih => cond (decide (pb_bc (Int.ofNat k) = Int.ofNat (pb_n14 k))) ih false) n
theorem pb_all_S (n : Nat) : pb_all (n + 1) = cond (decide (pb_bc (Int.ofNat n) = Int.ofNat (pb_n14 n))) (pb_all n) false := rfl
theorem pb_all_of : ∀ n : Nat, pb_all n = true → ∀ k : Nat, k < n → pb_bc (k : Int) = (pb_n14 k : Int) := by
  intro n
  induction n with
  | zero => intro _ k hk; exact absurd hk (Nat.not_lt_zero k)
  | succ n ih =>
    intro H k hk
    rw [pb_all_S] at H
    by_cases q : pb_bc (Int.ofNat n) = Int.ofNat (pb_n14 n)
    · rw [decide_eq_true q] at H
      rcases (by omega : k < n ∨ k = n) with e | e
      · exact ih H k e
      · rw [e]; exact q
    · rw [decide_eq_false q] at H
      exact absurd H Bool.false_ne_true
theorem pb_bcE {x : Int} (h0 : 0 ≤ x) (h1 : x ≤ 16383) : pb_bc x = (pb_n x.toNat 14 : Int) := by
  have e := pb_all_of 16384 (by decide +kernel) x.toNat (by omega)
  rw [show ((x.toNat : Nat) : Int) = x by omega, ← pb_n14E] at e
  exact e
/-- how many ways, and how many of them as far -/
def po_W (q : Int) (m : Nat) : Nat → Int
  | 0 => 0
  | s + 1 => po_W q m s + (if (pb_n s m : Int) = q then 1 else 0)
def po_F (r : Nat → Int) (al tf ow q : Int) (m : Nat) : Nat → Int
  | 0 => 0
  | s + 1 => po_F r al tf ow q m s + (if (pb_n s m : Int) = q ∧ (ow ≤ pb_S r s m * al - tf ∨ ow ≤ -(pb_S r s m * al - tf)) then 1 else 0)
theorem po_B {r : Nat → Int} {al tf ow q : Int} {m : Nat} : ∀ n : Nat, 0 ≤ po_F r al tf ow q m n ∧ po_F r al tf ow q m n ≤ po_W q m n ∧ po_W q m n ≤ n := by
  intro n
  induction n with
  | zero => exact ⟨Int.le_refl _, Int.le_refl _, Int.le_refl _⟩
  | succ n ih =>
    have e : po_W q m (n + 1) = po_W q m n + (if (pb_n n m : Int) = q then 1 else 0) := rfl
    have e' : po_F r al tf ow q m (n + 1) = po_F r al tf ow q m n + (if (pb_n n m : Int) = q ∧ (ow ≤ pb_S r n m * al - tf ∨ ow ≤ -(pb_S r n m * al - tf)) then 1 else 0) := rfl
    rw [e, e']
    by_cases z : (pb_n n m : Int) = q
    · rw [if_pos z]
      split <;> omega
    · rw [if_neg z, if_neg (fun w => z w.1)]
      omega
theorem po_Ws {q s : Int} {m : Nat} (hs : 0 ≤ s) : ((pb_n s.toNat m : Int) = q → po_W q m (s + 1).toNat = po_W q m s.toNat + 1) ∧ (¬ ((pb_n s.toNat m : Int) = q) → po_W q m (s + 1).toNat = po_W q m s.toNat) := by
  rw [show (s + 1).toNat = s.toNat + 1 by omega]
  have e : po_W q m (s.toNat + 1) = po_W q m s.toNat + (if (pb_n s.toNat m : Int) = q then 1 else 0) := rfl
  rw [e]
  exact ⟨fun z => by rw [if_pos z], fun z => by rw [if_neg z]; omega⟩
theorem po_Fs {r : Nat → Int} {al tf ow q s : Int} {m : Nat} (hs : 0 ≤ s) : ((pb_n s.toNat m : Int) = q → (ow ≤ pb_S r s.toNat m * al - tf ∨ ow ≤ -(pb_S r s.toNat m * al - tf)) → po_F r al tf ow q m (s + 1).toNat = po_F r al tf ow q m s.toNat + 1) ∧ ((¬ (ow ≤ pb_S r s.toNat m * al - tf ∨ ow ≤ -(pb_S r s.toNat m * al - tf))) → po_F r al tf ow q m (s + 1).toNat = po_F r al tf ow q m s.toNat) ∧ ((¬ ((pb_n s.toNat m : Int) = q)) → po_F r al tf ow q m (s + 1).toNat = po_F r al tf ow q m s.toNat) := by
  rw [show (s + 1).toNat = s.toNat + 1 by omega]
  have e : po_F r al tf ow q m (s.toNat + 1) = po_F r al tf ow q m s.toNat + (if (pb_n s.toNat m : Int) = q ∧ (ow ≤ pb_S r s.toNat m * al - tf ∨ ow ≤ -(pb_S r s.toNat m * al - tf)) then 1 else 0) := rfl
  rw [e]
  exact ⟨fun z w => by rw [if_pos ⟨z, w⟩], fun w => by rw [if_neg (fun z => w z.2)]; omega, fun w => by rw [if_neg (fun z => w z.1)]; omega⟩
theorem po_Wp {q : Int} {m : Nat} (q0 : 0 ≤ q) (hq : q ≤ m) (hm : m ≤ 14) : ∀ n : Nat, 2 ^ q.toNat ≤ n → 1 ≤ po_W q m n := by
  intro n
  induction n with
  | zero =>
    intro hn
    have := Nat.one_le_two_pow (n := q.toNat)
    omega
  | succ n ih =>
    intro hn
    have e : po_W q m (n + 1) = po_W q m n + (if (pb_n n m : Int) = q then 1 else 0) := rfl
    have b := po_B (r := fun _ => 0) (al := 0) (tf := 0) (ow := 0) (q := q) (m := m) n
    rcases (by omega : 2 ^ q.toNat ≤ n ∨ n = 2 ^ q.toNat - 1) with z | z
    · have := ih z
      rw [e]
      split <;> omega
    · have w := pb_np ⟨q.toNat, by omega⟩ ⟨m, by omega⟩ (by show q.toNat ≤ m; omega)
      dsimp only at w
      rw [← z] at w
      rw [e, if_pos (by omega)]
      omega
theorem po_WC {q : Int} {m m' : Nat} : ∀ n : Nat, (∀ s : Nat, s < n → pb_n s m = pb_n s m') → po_W q m n = po_W q m' n := by
  intro n
  induction n with
  | zero => intro _; rfl
  | succ n ih =>
    intro H
    show po_W q m n + (if (pb_n n m : Int) = q then 1 else 0) = po_W q m' n + (if (pb_n n m' : Int) = q then 1 else 0)
    rw [ih (fun s hs => H s (by omega)), H n (Nat.lt_succ_self n)]
theorem po_FC {r r' : Nat → Int} {al tf ow q : Int} {m m' : Nat} : ∀ n : Nat, (∀ s : Nat, s < n → pb_n s m = pb_n s m' ∧ pb_S r s m = pb_S r' s m') → po_F r al tf ow q m n = po_F r' al tf ow q m' n := by
  intro n
  induction n with
  | zero => intro _; rfl
  | succ n ih =>
    intro H
    show po_F r al tf ow q m n + (if (pb_n n m : Int) = q ∧ (ow ≤ pb_S r n m * al - tf ∨ ow ≤ -(pb_S r n m * al - tf)) then 1 else 0) = po_F r' al tf ow q m' n + (if (pb_n n m' : Int) = q ∧ (ow ≤ pb_S r' n m' * al - tf ∨ ow ≤ -(pb_S r' n m' * al - tf)) then 1 else 0)
    rw [ih (fun s hs => H s (by omega)), (H n (Nat.lt_succ_self n)).1, (H n (Nat.lt_succ_self n)).2]
/-- those on a side, in their order -/
def pc_M (sd : Nat → Int) : Nat → Int
  | 0 => 0
  | k + 1 => pc_M sd k + (if sd k ≠ -1 then 1 else 0)
def pc_B (sd ch : Nat → Int) : Nat → Nat → Int
  | 0 => fun _ => 0
  | k + 1 => fun j => if sd k ≠ -1 ∧ (j : Int) = pc_M sd k then ch k else pc_B sd ch k j
theorem pc_BS {sd ch : Nat → Int} {k j : Nat} : pc_B sd ch (k + 1) j = if sd k ≠ -1 ∧ (j : Int) = pc_M sd k then ch k else pc_B sd ch k j := rfl
theorem pc_MB {sd : Nat → Int} : ∀ n : Nat, 0 ≤ pc_M sd n ∧ pc_M sd n ≤ n := by
  intro n
  induction n with
  | zero => exact ⟨Int.le_refl _, Int.le_refl _⟩
  | succ n ih =>
    have e : pc_M sd (n + 1) = pc_M sd n + (if sd n ≠ -1 then 1 else 0) := rfl
    rw [e]
    split <;> omega
theorem pc_Ms {sd : Nat → Int} {k : Int} (hk : 0 ≤ k) : (sd k.toNat ≠ -1 → pc_M sd (k + 1).toNat = pc_M sd k.toNat + 1) ∧ (sd k.toNat = -1 → pc_M sd (k + 1).toNat = pc_M sd k.toNat) := by
  rw [show (k + 1).toNat = k.toNat + 1 by omega]
  have e : pc_M sd (k.toNat + 1) = pc_M sd k.toNat + (if sd k.toNat ≠ -1 then 1 else 0) := rfl
  rw [e]
  exact ⟨fun q => by rw [if_pos q], fun q => by rw [if_neg (fun z => z q)]; omega⟩
theorem pc_MN {sd : Nat → Int} : ∀ n : Nat, (∀ k : Nat, k < n → sd k = -1 ∨ sd k = 0 ∨ sd k = 1) → pc_M sd n = pv_N sd 0 n + pv_N sd 1 n := by
  intro n
  induction n with
  | zero => intro _; rfl
  | succ n ih =>
    intro H
    have e : pc_M sd (n + 1) = pc_M sd n + (if sd n ≠ -1 then 1 else 0) := rfl
    have e0 : pv_N sd 0 (n + 1) = pv_N sd 0 n + (if sd n = 0 then 1 else 0) := rfl
    have e1 : pv_N sd 1 (n + 1) = pv_N sd 1 n + (if sd n = 1 then 1 else 0) := rfl
    rw [e, e0, e1, ih (fun k hk => H k (by omega))]
    rcases H n (Nat.lt_succ_self n) with q | q | q
    · rw [if_neg (fun z => z q), if_neg (by omega), if_neg (by omega)]; omega
    · rw [if_pos (by omega), if_pos q, if_neg (by omega)]; omega
    · rw [if_pos (by omega), if_neg (by omega), if_pos q]; omega
theorem pc_BB {sd ch : Nat → Int} : ∀ n : Nat, (∀ k : Nat, k < n → sd k ≠ -1 → -2000 ≤ ch k ∧ ch k ≤ 2000) → ∀ j : Nat, (j : Int) < pc_M sd n → -2000 ≤ pc_B sd ch n j ∧ pc_B sd ch n j ≤ 2000 := by
  intro n
  induction n with
  | zero =>
    intro _ j hj
    have e : pc_M sd 0 = 0 := rfl
    omega
  | succ n ih =>
    intro H j hj
    have e : pc_M sd (n + 1) = pc_M sd n + (if sd n ≠ -1 then 1 else 0) := rfl
    rw [pc_BS]
    by_cases q : sd n ≠ -1 ∧ (j : Int) = pc_M sd n
    · rw [if_pos q]; exact H n (Nat.lt_succ_self n) q.1
    · rw [if_neg q]
      refine ih (fun k hk => H k (by omega)) j ?_
      rw [e] at hj
      by_cases w : sd n ≠ -1
      · rw [if_pos w] at hj
        have : ¬ ((j : Int) = pc_M sd n) := fun z => q ⟨w, z⟩
        omega
      · rw [if_neg w] at hj
        omega
theorem pc_BC {sd sd' ch ch' : Nat → Int} : ∀ n : Nat, (∀ k : Nat, k < n → sd k = sd' k ∧ (sd k ≠ -1 → ch k = ch' k)) → pc_M sd n = pc_M sd' n ∧ pc_B sd ch n = pc_B sd' ch' n := by
  intro n
  induction n with
  | zero => intro _; exact ⟨rfl, rfl⟩
  | succ n ih =>
    intro H
    obtain ⟨i1, i2⟩ := ih (fun k hk => H k (by omega))
    obtain ⟨a, b⟩ := H n (Nat.lt_succ_self n)
    refine ⟨?_, funext (fun j => ?_)⟩
    · show pc_M sd n + (if sd n ≠ -1 then 1 else 0) = pc_M sd' n + (if sd' n ≠ -1 then 1 else 0)
      rw [i1, a]
    · rw [pc_BS, pc_BS, i1, i2, ← a]
      by_cases q : sd n ≠ -1
      · rw [b q]
      · rw [if_neg (fun z => q z.1), if_neg (fun z => q z.1)]
/-- the row is filled from the first k -/
def pc_BA (sd ch g : Nat → Int) (k : Int) : Prop := ∀ j : Nat, (j : Int) < pc_M sd k.toNat → g j = pc_B sd ch k.toNat j
theorem pc_BA.z {sd ch g : Nat → Int} : pc_BA sd ch g 0 := fun j hj => by
  have e : pc_M sd (Int.toNat 0) = 0 := rfl
  omega
theorem pc_BA.no {sd ch g : Nat → Int} {k : Int} (H : pc_BA sd ch g k) (h0 : 0 ≤ k) (q : sd k.toNat = -1) : pc_BA sd ch g (k + 1) := fun j hj => by
  rw [(pc_Ms h0).2 q] at hj
  rw [show (k + 1).toNat = k.toNat + 1 by omega, pc_BS, if_neg (fun z => z.1 q)]
  exact H j hj
theorem pc_BA.yes {sd ch : Nat → Int} {c : Nat} {lo hi k n x : Int} {g g' : pm_H} (H : pc_BA sd ch (pw_g g c) k) (hs : pw_T[c]? = some (.inl (0, 24, lo, hi))) (h0 : 0 ≤ k) (h1 : n ≤ 23) (hn : n = pc_M sd k.toNat) (q : sd k.toNat ≠ -1) (hx : x = ch k.toNat) (x1 : -2147483648 ≤ x) (x2 : x ≤ 2147483647) (I : pw_I g) (w : pw_w g c n.toNat (pw_i x) = g') : pc_BA sd ch (pw_g g' c) (k + 1) := fun j hj => by
  have nb := pc_MB (sd := sd) k.toNat
  rw [(pc_Ms h0).1 q] at hj
  rw [show (k + 1).toNat = k.toNat + 1 by omega, pc_BS]
  rcases (by omega : j = n.toNat ∨ (j : Int) < n) with r | r
  · rw [if_pos ⟨q, by omega⟩, r, ← w, ← hx]
    exact pw_g_eqA I hs (by omega) x1 x2
  · rw [if_neg (fun z => by have := z.2; omega), ← w, pw_g_ne (fun z => by have := z.2; omega)]
    exact H j (by omega)
/-- odds: how many are dealt, the sums, how far, how many ways -/
def po_A (sd : Nat → Int) : Int := pv_N sd 0 24 + pv_N sd 1 24
def po_T (sd ch : Nat → Int) : Int := (pv_S sd ch 0 24 + pv_S sd ch 1 24) * pv_N sd 0 24
def po_O (sd ch : Nat → Int) : Int := pw_lab (pv_S sd ch 0 24 * po_A sd - po_T sd ch)
def po_X (sd ch : Nat → Int) : Int := po_F (pc_B sd ch 24) (po_A sd) (po_T sd ch) (po_O sd ch) (pv_N sd 0 24) (po_A sd).toNat (2 ^ (po_A sd).toNat)
def po_Y (sd : Nat → Int) : Int := po_W (pv_N sd 0 24) (po_A sd).toNat (2 ^ (po_A sd).toNat)
theorem po_cg {sd sd' ch ch' : Nat → Int} (H : ∀ k : Nat, k < 24 → sd k = sd' k ∧ (sd k ≠ -1 → ch k = ch' k)) : po_A sd = po_A sd' ∧ po_X sd ch = po_X sd' ch' ∧ po_Y sd = po_Y sd' := by
  obtain ⟨a1, a2⟩ := pv_cg (sd := sd) (sd' := sd') (ch := ch) (ch' := ch') (s := 0) 24 (fun k hk => ⟨(H k hk).1, fun e => (H k hk).2 (by omega)⟩)
  obtain ⟨b1, b2⟩ := pv_cg (sd := sd) (sd' := sd') (ch := ch) (ch' := ch') (s := 1) 24 (fun k hk => ⟨(H k hk).1, fun e => (H k hk).2 (by omega)⟩)
  have r := (pc_BC 24 H).2
  unfold po_X po_Y po_O po_T po_A
  rw [a1, a2, b1, b2, r]
  exact ⟨rfl, rfl, rfl⟩
theorem po_XB {sd ch : Nat → Int} (ok : pv_OK sd) (h : po_A sd ≤ 14) : 0 ≤ po_X sd ch ∧ po_X sd ch ≤ po_Y sd ∧ 1 ≤ po_Y sd ∧ po_Y sd ≤ 16384 ∧ 2 ≤ po_A sd := by
  have n0 := pv_NB (sd := sd) (s := 0) 24
  have n1 := pv_NB (sd := sd) (s := 1) 24
  have o1 := ok.1
  have o2 := ok.2
  have eA : po_A sd = pv_N sd 0 24 + pv_N sd 1 24 := rfl
  have b := po_B (r := pc_B sd ch 24) (al := po_A sd) (tf := po_T sd ch) (ow := po_O sd ch) (q := pv_N sd 0 24) (m := (po_A sd).toNat) (2 ^ (po_A sd).toNat)
  have p : 2 ^ (po_A sd).toNat ≤ 2 ^ 14 := Nat.pow_le_pow_right (by decide) (by omega)
  have e14 : 2 ^ 14 = 16384 := rfl
  have w := po_Wp (q := pv_N sd 0 24) (m := (po_A sd).toNat) (by omega) (by omega) (by omega) (2 ^ (po_A sd).toNat) (Nat.pow_le_pow_right (by decide) (by omega))
  unfold po_X po_Y
  omega
/-- the class counts over 14 places -/
theorem po_14 {r r' : Nat → Int} {al tf ow q : Int} {a : Nat} (ha : a ≤ 14) (H : ∀ j : Nat, j < a → r j = r' j) : po_F r al tf ow q 14 (2 ^ a) = po_F r' al tf ow q a (2 ^ a) ∧ po_W q 14 (2 ^ a) = po_W q a (2 ^ a) := by
  have e : 14 = a + (14 - a) := by omega
  refine ⟨?_, ?_⟩
  · refine po_FC _ (fun s hs => ⟨?_, ?_⟩)
    · have := pb_nhi hs (14 - a)
      rw [← e] at this
      exact this
    · have h := pb_Shi (r := r) hs (14 - a)
      rw [← e] at h
      rw [h]
      exact pb_SC _ (fun k hk _ => H k hk)
  · refine po_WC _ (fun s hs => ?_)
    have := pb_nhi hs (14 - a)
    rw [← e] at this
    exact this
theorem po_p2 {s a : Int} (h0 : 0 ≤ s) (ha : 0 ≤ a) (h : s < pw_p2 a) : s.toNat < 2 ^ a.toNat := by
  unfold pw_p2 at h
  omega
theorem po_p2E {s a : Int} (h0 : 0 ≤ s) (h : s = pw_p2 a) : s.toNat = 2 ^ a.toNat := by
  unfold pw_p2 at h
  omega
theorem po_vE {s n0 n1 t : Int} : s * n1 - (t - s) * n0 = s * (n0 + n1) - t * n0 := by
  rw [Int.sub_mul, Int.mul_add]
  omega
theorem po_rowB {sd ch g : Nat → Int} {s : Nat} {a : Int} (H : pc_BA sd ch g 24) (ha : pc_M sd 24 = a) (hs : s < 2 ^ a.toNat) (hb : ∀ k : Nat, k < 24 → sd k ≠ -1 → -2000 ≤ ch k ∧ ch k ≤ 2000) : ∀ j : Nat, pb_b s j = 1 → -2000 ≤ g j ∧ g j ≤ 2000 := by
  intro j hj
  have nb := pc_MB (sd := sd) 24
  have e24 : (24 : Int).toNat = 24 := rfl
  unfold pc_BA at H
  rw [e24] at H
  rcases (by omega : a.toNat ≤ j ∨ j < a.toNat) with q | q
  · have := pb_bhi hs q
    omega
  · rw [H j (by omega)]
    exact pc_BB 24 hb j (by omega)
theorem po_UO {sd ch : Nat → Int} : po_O sd ch = pw_lab (pv_U sd ch) := by
  unfold po_O po_T po_A pv_U
  rw [Int.mul_add, Int.add_mul]
  congr 1
  omega
theorem po_vF {p a t s n0 n1 tt : Int} (e1 : p = s) (eA : a = n0 + n1) (eT : t = tt * n0) : p * a - t = s * n1 - (tt - s) * n0 := by
  rw [e1, eA, eT, po_vE]
theorem po_sdmE {W : List Nat} {h h' : pm_H} {b e : Int} (I : pw_I h) (E : pw_E W h h') (hn : ((W.contains 131 || (W.contains 132 || W.contains 138)) || (W.contains 1015 || (W.contains 139 || W.contains 140))) = false) : pv_sdm h' b e = pv_sdm h b e ∧ pv_chm h' b e = pv_chm h b e := by
  obtain ⟨h1, h3⟩ := Bool.or_eq_false_iff.mp hn
  obtain ⟨h1, h2⟩ := Bool.or_eq_false_iff.mp h1
  obtain ⟨h2, h4⟩ := Bool.or_eq_false_iff.mp h2
  refine ⟨funext (fun k => ?_), funext (fun k => ?_)⟩
  · unfold pv_sdm
    rw [pw_Eg (c := 131) I E rfl h1, pw_Eg (c := 132) I E rfl h2, pw_Eg (c := 138) I E rfl h4, pw_Eg (c := 138) I E rfl h4]
  · unfold pv_chm
    rw [pv_hmkE I E h3, pv_hmkE I E h3]
theorem po_sdm3 {h : pm_H} {b e : Int} (I : pw_I h) : ∀ k : Nat, k < 24 → pv_sdm h b e k = -1 ∨ pv_sdm h b e k = 0 ∨ pv_sdm h b e k = 1 := by
  intro k hk
  have w := pw_gA (c := 132) (j := (k : Int)) I rfl (by decide) (by omega) (by omega)
  rw [show ((k : Nat) : Int).toNat = k by omega] at w
  unfold pv_sdm
  split <;> omega
theorem po_side3 {h : pm_H} (I : pw_I h) : ∀ k : Nat, k < 24 → pw_g h 17 k = -1 ∨ pw_g h 17 k = 0 ∨ pw_g h 17 k = 1 := by
  intro k hk
  have w := pw_gA (c := 17) (j := (k : Int)) I rfl (by decide) (by omega) (by omega)
  rw [show ((k : Nat) : Int).toNat = k by omega] at w
  omega
theorem pb_us1 {a : Int} (h0 : 0 ≤ a) (h1 : a ≤ 2147483647) : ((Int32.ofInt a).toUInt32 >>> ((Int32.ofInt 1).toUInt32 &&& Int32.toUInt32 31)).toInt32.toInt = a / 2 := pb_usE h0 h1 (by decide) (by decide)
theorem pb_us2 {a : Int} (h0 : 0 ≤ a) (h1 : a ≤ 2147483647) : ((Int32.ofInt a).toUInt32 >>> ((Int32.ofInt 2).toUInt32 &&& Int32.toUInt32 31)).toInt32.toInt = a / 4 := pb_usE h0 h1 (by decide) (by decide)
theorem pb_us4 {a : Int} (h0 : 0 ≤ a) (h1 : a ≤ 2147483647) : ((Int32.ofInt a).toUInt32 >>> ((Int32.ofInt 4).toUInt32 &&& Int32.toUInt32 31)).toInt32.toInt = a / 16 := pb_usE h0 h1 (by decide) (by decide)
theorem pb_us8 {a : Int} (h0 : 0 ≤ a) (h1 : a ≤ 2147483647) : ((Int32.ofInt a).toUInt32 >>> ((Int32.ofInt 8).toUInt32 &&& Int32.toUInt32 31)).toInt32.toInt = a / 256 := pb_usE h0 h1 (by decide) (by decide)
theorem pb_us16 {a : Int} (h0 : 0 ≤ a) (h1 : a ≤ 2147483647) : ((Int32.ofInt a).toUInt32 >>> ((Int32.ofInt 16).toUInt32 &&& Int32.toUInt32 31)).toInt32.toInt = a / 65536 := pb_usE h0 h1 (by decide) (by decide)
end
section
/-! odds of the class, exactly -/
set_option maxHeartbeats 4000000 in
theorem cm_326_s {X : List (Nat × List Value)} {d : Nat} {h : pm_H} (hd : 1 ≤ d) (I : pw_I h) (x : Int) (hx1 : 0 ≤ x) (hx2 : x ≤ 16383) : pw X d h 326 0 [some (pw_i x)] [] (fun h' v => h = h' ∧ ∃ a : Int, v = .inl (some (pw_i a)) ∧ 0 ≤ a ∧ a ≤ 14 ∧ (a = (pb_n x.toNat 14 : Int))) := by
  have E : pm_ent 326 = some (1, 1, 15, 0, pmc_326) := rfl
  refine pw_ld E (pc' := 1) (st' := [pw_i x]) rfl (fun _ => rfl) ?_
  refine pw_ld E (pc' := 2) (st' := [pw_i x, pw_i x]) rfl (fun _ => rfl) ?_
  refine pw_ld E (pc' := 3) (st' := [pw_i 1, pw_i x, pw_i x]) rfl (fun _ => rfl) ?_
  refine pw_iiE (f := fun x y => (x.toUInt32 >>> (y.toUInt32 &&& Int32.toUInt32 31)).toInt32) (c := x / 2) E (pc' := 4) rfl (fun _ => rfl) (pb_us1 (by omega) (by omega)) ?_
  refine pw_ldcw (a := 1431655765) E (pc' := 7) rfl rfl rfl (by decide) ?_
  refine pw_iiE (f := fun x y => x &&& y) (c := pb_an (x / 2) 1431655765) E (pc' := 8) rfl (fun _ => rfl) (pb_anE (by omega) (by omega) (by decide) (by decide)) ?_
  have hp1 := pb_anB (a := x / 2) (m := 1431655765) (by omega) (by decide)
  refine pw_sub E (pc' := 9) rfl rfl ?_
  refine pw_istn E (pc' := 10) (ls' := [some (pw_i (x - (pb_an (x / 2) 1431655765)))]) rfl rfl rfl rfl ?_
  refine pw_ld E (pc' := 11) (st' := [pw_i (x - (pb_an (x / 2) 1431655765))]) rfl (fun _ => rfl) ?_
  refine pw_ldcw (a := 858993459) E (pc' := 14) rfl rfl rfl (by decide) ?_
  refine pw_iiE (f := fun x y => x &&& y) (c := pb_an (x - (pb_an (x / 2) 1431655765)) 858993459) E (pc' := 15) rfl (fun _ => rfl) (pb_anE (by omega) (by omega) (by decide) (by decide)) ?_
  have hp2 := pb_anB (a := x - (pb_an (x / 2) 1431655765)) (m := 858993459) (by omega) (by decide)
  refine pw_ld E (pc' := 16) (st' := [pw_i (x - (pb_an (x / 2) 1431655765)), pw_i (pb_an (x - (pb_an (x / 2) 1431655765)) 858993459)]) rfl (fun _ => rfl) ?_
  refine pw_ld E (pc' := 17) (st' := [pw_i 2, pw_i (x - (pb_an (x / 2) 1431655765)), pw_i (pb_an (x - (pb_an (x / 2) 1431655765)) 858993459)]) rfl (fun _ => rfl) ?_
  refine pw_iiE (f := fun x y => (x.toUInt32 >>> (y.toUInt32 &&& Int32.toUInt32 31)).toInt32) (c := (x - (pb_an (x / 2) 1431655765)) / 4) E (pc' := 18) rfl (fun _ => rfl) (pb_us2 (by omega) (by omega)) ?_
  refine pw_ldcw (a := 858993459) E (pc' := 21) rfl rfl rfl (by decide) ?_
  refine pw_iiE (f := fun x y => x &&& y) (c := pb_an ((x - (pb_an (x / 2) 1431655765)) / 4) 858993459) E (pc' := 22) rfl (fun _ => rfl) (pb_anE (by omega) (by omega) (by decide) (by decide)) ?_
  have hp3 := pb_anB (a := (x - (pb_an (x / 2) 1431655765)) / 4) (m := 858993459) (by omega) (by decide)
  refine pw_add E (pc' := 23) rfl rfl ?_
  refine pw_istn E (pc' := 24) (ls' := [some (pw_i ((pb_an (x - (pb_an (x / 2) 1431655765)) 858993459) + (pb_an ((x - (pb_an (x / 2) 1431655765)) / 4) 858993459)))]) rfl rfl rfl rfl ?_
  refine pw_ld E (pc' := 25) (st' := [pw_i ((pb_an (x - (pb_an (x / 2) 1431655765)) 858993459) + (pb_an ((x - (pb_an (x / 2) 1431655765)) / 4) 858993459))]) rfl (fun _ => rfl) ?_
  refine pw_ld E (pc' := 26) (st' := [pw_i ((pb_an (x - (pb_an (x / 2) 1431655765)) 858993459) + (pb_an ((x - (pb_an (x / 2) 1431655765)) / 4) 858993459)), pw_i ((pb_an (x - (pb_an (x / 2) 1431655765)) 858993459) + (pb_an ((x - (pb_an (x / 2) 1431655765)) / 4) 858993459))]) rfl (fun _ => rfl) ?_
  refine pw_ld E (pc' := 27) (st' := [pw_i 4, pw_i ((pb_an (x - (pb_an (x / 2) 1431655765)) 858993459) + (pb_an ((x - (pb_an (x / 2) 1431655765)) / 4) 858993459)), pw_i ((pb_an (x - (pb_an (x / 2) 1431655765)) 858993459) + (pb_an ((x - (pb_an (x / 2) 1431655765)) / 4) 858993459))]) rfl (fun _ => rfl) ?_
  refine pw_iiE (f := fun x y => (x.toUInt32 >>> (y.toUInt32 &&& Int32.toUInt32 31)).toInt32) (c := ((pb_an (x - (pb_an (x / 2) 1431655765)) 858993459) + (pb_an ((x - (pb_an (x / 2) 1431655765)) / 4) 858993459)) / 16) E (pc' := 28) rfl (fun _ => rfl) (pb_us4 (by omega) (by omega)) ?_
  refine pw_add E (pc' := 29) rfl rfl ?_
  refine pw_ldcw (a := 252645135) E (pc' := 32) rfl rfl rfl (by decide) ?_
  refine pw_iiE (f := fun x y => x &&& y) (c := pb_an (((pb_an (x - (pb_an (x / 2) 1431655765)) 858993459) + (pb_an ((x - (pb_an (x / 2) 1431655765)) / 4) 858993459)) + (((pb_an (x - (pb_an (x / 2) 1431655765)) 858993459) + (pb_an ((x - (pb_an (x / 2) 1431655765)) / 4) 858993459)) / 16)) 252645135) E (pc' := 33) rfl (fun _ => rfl) (pb_anE (by omega) (by omega) (by decide) (by decide)) ?_
  have hp4 := pb_anB (a := ((pb_an (x - (pb_an (x / 2) 1431655765)) 858993459) + (pb_an ((x - (pb_an (x / 2) 1431655765)) / 4) 858993459)) + (((pb_an (x - (pb_an (x / 2) 1431655765)) 858993459) + (pb_an ((x - (pb_an (x / 2) 1431655765)) / 4) 858993459)) / 16)) (m := 252645135) (by omega) (by decide)
  refine pw_istn E (pc' := 34) (ls' := [some (pw_i (pb_an (((pb_an (x - (pb_an (x / 2) 1431655765)) 858993459) + (pb_an ((x - (pb_an (x / 2) 1431655765)) / 4) 858993459)) + (((pb_an (x - (pb_an (x / 2) 1431655765)) 858993459) + (pb_an ((x - (pb_an (x / 2) 1431655765)) / 4) 858993459)) / 16)) 252645135))]) rfl rfl rfl rfl ?_
  refine pw_ld E (pc' := 35) (st' := [pw_i (pb_an (((pb_an (x - (pb_an (x / 2) 1431655765)) 858993459) + (pb_an ((x - (pb_an (x / 2) 1431655765)) / 4) 858993459)) + (((pb_an (x - (pb_an (x / 2) 1431655765)) 858993459) + (pb_an ((x - (pb_an (x / 2) 1431655765)) / 4) 858993459)) / 16)) 252645135)]) rfl (fun _ => rfl) ?_
  refine pw_ld E (pc' := 36) (st' := [pw_i (pb_an (((pb_an (x - (pb_an (x / 2) 1431655765)) 858993459) + (pb_an ((x - (pb_an (x / 2) 1431655765)) / 4) 858993459)) + (((pb_an (x - (pb_an (x / 2) 1431655765)) 858993459) + (pb_an ((x - (pb_an (x / 2) 1431655765)) / 4) 858993459)) / 16)) 252645135), pw_i (pb_an (((pb_an (x - (pb_an (x / 2) 1431655765)) 858993459) + (pb_an ((x - (pb_an (x / 2) 1431655765)) / 4) 858993459)) + (((pb_an (x - (pb_an (x / 2) 1431655765)) 858993459) + (pb_an ((x - (pb_an (x / 2) 1431655765)) / 4) 858993459)) / 16)) 252645135)]) rfl (fun _ => rfl) ?_
  refine pw_bip E (pc' := 38) rfl rfl (by decide) ?_
  refine pw_iiE (f := fun x y => (x.toUInt32 >>> (y.toUInt32 &&& Int32.toUInt32 31)).toInt32) (c := (pb_an (((pb_an (x - (pb_an (x / 2) 1431655765)) 858993459) + (pb_an ((x - (pb_an (x / 2) 1431655765)) / 4) 858993459)) + (((pb_an (x - (pb_an (x / 2) 1431655765)) 858993459) + (pb_an ((x - (pb_an (x / 2) 1431655765)) / 4) 858993459)) / 16)) 252645135) / 256) E (pc' := 39) rfl (fun _ => rfl) (pb_us8 (by omega) (by omega)) ?_
  refine pw_add E (pc' := 40) rfl rfl ?_
  refine pw_istn E (pc' := 41) (ls' := [some (pw_i ((pb_an (((pb_an (x - (pb_an (x / 2) 1431655765)) 858993459) + (pb_an ((x - (pb_an (x / 2) 1431655765)) / 4) 858993459)) + (((pb_an (x - (pb_an (x / 2) 1431655765)) 858993459) + (pb_an ((x - (pb_an (x / 2) 1431655765)) / 4) 858993459)) / 16)) 252645135) + ((pb_an (((pb_an (x - (pb_an (x / 2) 1431655765)) 858993459) + (pb_an ((x - (pb_an (x / 2) 1431655765)) / 4) 858993459)) + (((pb_an (x - (pb_an (x / 2) 1431655765)) 858993459) + (pb_an ((x - (pb_an (x / 2) 1431655765)) / 4) 858993459)) / 16)) 252645135) / 256)))]) rfl rfl rfl rfl ?_
  refine pw_ld E (pc' := 42) (st' := [pw_i ((pb_an (((pb_an (x - (pb_an (x / 2) 1431655765)) 858993459) + (pb_an ((x - (pb_an (x / 2) 1431655765)) / 4) 858993459)) + (((pb_an (x - (pb_an (x / 2) 1431655765)) 858993459) + (pb_an ((x - (pb_an (x / 2) 1431655765)) / 4) 858993459)) / 16)) 252645135) + ((pb_an (((pb_an (x - (pb_an (x / 2) 1431655765)) 858993459) + (pb_an ((x - (pb_an (x / 2) 1431655765)) / 4) 858993459)) + (((pb_an (x - (pb_an (x / 2) 1431655765)) 858993459) + (pb_an ((x - (pb_an (x / 2) 1431655765)) / 4) 858993459)) / 16)) 252645135) / 256))]) rfl (fun _ => rfl) ?_
  refine pw_ld E (pc' := 43) (st' := [pw_i ((pb_an (((pb_an (x - (pb_an (x / 2) 1431655765)) 858993459) + (pb_an ((x - (pb_an (x / 2) 1431655765)) / 4) 858993459)) + (((pb_an (x - (pb_an (x / 2) 1431655765)) 858993459) + (pb_an ((x - (pb_an (x / 2) 1431655765)) / 4) 858993459)) / 16)) 252645135) + ((pb_an (((pb_an (x - (pb_an (x / 2) 1431655765)) 858993459) + (pb_an ((x - (pb_an (x / 2) 1431655765)) / 4) 858993459)) + (((pb_an (x - (pb_an (x / 2) 1431655765)) 858993459) + (pb_an ((x - (pb_an (x / 2) 1431655765)) / 4) 858993459)) / 16)) 252645135) / 256)), pw_i ((pb_an (((pb_an (x - (pb_an (x / 2) 1431655765)) 858993459) + (pb_an ((x - (pb_an (x / 2) 1431655765)) / 4) 858993459)) + (((pb_an (x - (pb_an (x / 2) 1431655765)) 858993459) + (pb_an ((x - (pb_an (x / 2) 1431655765)) / 4) 858993459)) / 16)) 252645135) + ((pb_an (((pb_an (x - (pb_an (x / 2) 1431655765)) 858993459) + (pb_an ((x - (pb_an (x / 2) 1431655765)) / 4) 858993459)) + (((pb_an (x - (pb_an (x / 2) 1431655765)) 858993459) + (pb_an ((x - (pb_an (x / 2) 1431655765)) / 4) 858993459)) / 16)) 252645135) / 256))]) rfl (fun _ => rfl) ?_
  refine pw_bip E (pc' := 45) rfl rfl (by decide) ?_
  refine pw_iiE (f := fun x y => (x.toUInt32 >>> (y.toUInt32 &&& Int32.toUInt32 31)).toInt32) (c := ((pb_an (((pb_an (x - (pb_an (x / 2) 1431655765)) 858993459) + (pb_an ((x - (pb_an (x / 2) 1431655765)) / 4) 858993459)) + (((pb_an (x - (pb_an (x / 2) 1431655765)) 858993459) + (pb_an ((x - (pb_an (x / 2) 1431655765)) / 4) 858993459)) / 16)) 252645135) + ((pb_an (((pb_an (x - (pb_an (x / 2) 1431655765)) 858993459) + (pb_an ((x - (pb_an (x / 2) 1431655765)) / 4) 858993459)) + (((pb_an (x - (pb_an (x / 2) 1431655765)) 858993459) + (pb_an ((x - (pb_an (x / 2) 1431655765)) / 4) 858993459)) / 16)) 252645135) / 256)) / 65536) E (pc' := 46) rfl (fun _ => rfl) (pb_us16 (by omega) (by omega)) ?_
  refine pw_add E (pc' := 47) rfl rfl ?_
  refine pw_istn E (pc' := 48) (ls' := [some (pw_i (((pb_an (((pb_an (x - (pb_an (x / 2) 1431655765)) 858993459) + (pb_an ((x - (pb_an (x / 2) 1431655765)) / 4) 858993459)) + (((pb_an (x - (pb_an (x / 2) 1431655765)) 858993459) + (pb_an ((x - (pb_an (x / 2) 1431655765)) / 4) 858993459)) / 16)) 252645135) + ((pb_an (((pb_an (x - (pb_an (x / 2) 1431655765)) 858993459) + (pb_an ((x - (pb_an (x / 2) 1431655765)) / 4) 858993459)) + (((pb_an (x - (pb_an (x / 2) 1431655765)) 858993459) + (pb_an ((x - (pb_an (x / 2) 1431655765)) / 4) 858993459)) / 16)) 252645135) / 256)) + (((pb_an (((pb_an (x - (pb_an (x / 2) 1431655765)) 858993459) + (pb_an ((x - (pb_an (x / 2) 1431655765)) / 4) 858993459)) + (((pb_an (x - (pb_an (x / 2) 1431655765)) 858993459) + (pb_an ((x - (pb_an (x / 2) 1431655765)) / 4) 858993459)) / 16)) 252645135) + ((pb_an (((pb_an (x - (pb_an (x / 2) 1431655765)) 858993459) + (pb_an ((x - (pb_an (x / 2) 1431655765)) / 4) 858993459)) + (((pb_an (x - (pb_an (x / 2) 1431655765)) 858993459) + (pb_an ((x - (pb_an (x / 2) 1431655765)) / 4) 858993459)) / 16)) 252645135) / 256)) / 65536)))]) rfl rfl rfl rfl ?_
  refine pw_ld E (pc' := 49) (st' := [pw_i (((pb_an (((pb_an (x - (pb_an (x / 2) 1431655765)) 858993459) + (pb_an ((x - (pb_an (x / 2) 1431655765)) / 4) 858993459)) + (((pb_an (x - (pb_an (x / 2) 1431655765)) 858993459) + (pb_an ((x - (pb_an (x / 2) 1431655765)) / 4) 858993459)) / 16)) 252645135) + ((pb_an (((pb_an (x - (pb_an (x / 2) 1431655765)) 858993459) + (pb_an ((x - (pb_an (x / 2) 1431655765)) / 4) 858993459)) + (((pb_an (x - (pb_an (x / 2) 1431655765)) 858993459) + (pb_an ((x - (pb_an (x / 2) 1431655765)) / 4) 858993459)) / 16)) 252645135) / 256)) + (((pb_an (((pb_an (x - (pb_an (x / 2) 1431655765)) 858993459) + (pb_an ((x - (pb_an (x / 2) 1431655765)) / 4) 858993459)) + (((pb_an (x - (pb_an (x / 2) 1431655765)) 858993459) + (pb_an ((x - (pb_an (x / 2) 1431655765)) / 4) 858993459)) / 16)) 252645135) + ((pb_an (((pb_an (x - (pb_an (x / 2) 1431655765)) 858993459) + (pb_an ((x - (pb_an (x / 2) 1431655765)) / 4) 858993459)) + (((pb_an (x - (pb_an (x / 2) 1431655765)) 858993459) + (pb_an ((x - (pb_an (x / 2) 1431655765)) / 4) 858993459)) / 16)) 252645135) / 256)) / 65536))]) rfl (fun _ => rfl) ?_
  refine pw_bip E (pc' := 51) rfl rfl (by decide) ?_
  refine pw_iiE (f := fun x y => x &&& y) (c := pb_an (((pb_an (((pb_an (x - (pb_an (x / 2) 1431655765)) 858993459) + (pb_an ((x - (pb_an (x / 2) 1431655765)) / 4) 858993459)) + (((pb_an (x - (pb_an (x / 2) 1431655765)) 858993459) + (pb_an ((x - (pb_an (x / 2) 1431655765)) / 4) 858993459)) / 16)) 252645135) + ((pb_an (((pb_an (x - (pb_an (x / 2) 1431655765)) 858993459) + (pb_an ((x - (pb_an (x / 2) 1431655765)) / 4) 858993459)) + (((pb_an (x - (pb_an (x / 2) 1431655765)) 858993459) + (pb_an ((x - (pb_an (x / 2) 1431655765)) / 4) 858993459)) / 16)) 252645135) / 256)) + (((pb_an (((pb_an (x - (pb_an (x / 2) 1431655765)) 858993459) + (pb_an ((x - (pb_an (x / 2) 1431655765)) / 4) 858993459)) + (((pb_an (x - (pb_an (x / 2) 1431655765)) 858993459) + (pb_an ((x - (pb_an (x / 2) 1431655765)) / 4) 858993459)) / 16)) 252645135) + ((pb_an (((pb_an (x - (pb_an (x / 2) 1431655765)) 858993459) + (pb_an ((x - (pb_an (x / 2) 1431655765)) / 4) 858993459)) + (((pb_an (x - (pb_an (x / 2) 1431655765)) 858993459) + (pb_an ((x - (pb_an (x / 2) 1431655765)) / 4) 858993459)) / 16)) 252645135) / 256)) / 65536)) 63) E (pc' := 52) rfl (fun _ => rfl) (pb_anE (by omega) (by omega) (by decide) (by decide)) ?_
  have hp5 := pb_anB (a := ((pb_an (((pb_an (x - (pb_an (x / 2) 1431655765)) 858993459) + (pb_an ((x - (pb_an (x / 2) 1431655765)) / 4) 858993459)) + (((pb_an (x - (pb_an (x / 2) 1431655765)) 858993459) + (pb_an ((x - (pb_an (x / 2) 1431655765)) / 4) 858993459)) / 16)) 252645135) + ((pb_an (((pb_an (x - (pb_an (x / 2) 1431655765)) 858993459) + (pb_an ((x - (pb_an (x / 2) 1431655765)) / 4) 858993459)) + (((pb_an (x - (pb_an (x / 2) 1431655765)) 858993459) + (pb_an ((x - (pb_an (x / 2) 1431655765)) / 4) 858993459)) / 16)) 252645135) / 256)) + (((pb_an (((pb_an (x - (pb_an (x / 2) 1431655765)) 858993459) + (pb_an ((x - (pb_an (x / 2) 1431655765)) / 4) 858993459)) + (((pb_an (x - (pb_an (x / 2) 1431655765)) 858993459) + (pb_an ((x - (pb_an (x / 2) 1431655765)) / 4) 858993459)) / 16)) 252645135) + ((pb_an (((pb_an (x - (pb_an (x / 2) 1431655765)) 858993459) + (pb_an ((x - (pb_an (x / 2) 1431655765)) / 4) 858993459)) + (((pb_an (x - (pb_an (x / 2) 1431655765)) 858993459) + (pb_an ((x - (pb_an (x / 2) 1431655765)) / 4) 858993459)) / 16)) 252645135) / 256)) / 65536)) (m := 63) (by omega) (by decide)
  refine pw_iret E rfl ?_
  have hbc : pb_an (((pb_an (((pb_an (x - (pb_an (x / 2) 1431655765)) 858993459) + (pb_an ((x - (pb_an (x / 2) 1431655765)) / 4) 858993459)) + (((pb_an (x - (pb_an (x / 2) 1431655765)) 858993459) + (pb_an ((x - (pb_an (x / 2) 1431655765)) / 4) 858993459)) / 16)) 252645135) + ((pb_an (((pb_an (x - (pb_an (x / 2) 1431655765)) 858993459) + (pb_an ((x - (pb_an (x / 2) 1431655765)) / 4) 858993459)) + (((pb_an (x - (pb_an (x / 2) 1431655765)) 858993459) + (pb_an ((x - (pb_an (x / 2) 1431655765)) / 4) 858993459)) / 16)) 252645135) / 256)) + (((pb_an (((pb_an (x - (pb_an (x / 2) 1431655765)) 858993459) + (pb_an ((x - (pb_an (x / 2) 1431655765)) / 4) 858993459)) + (((pb_an (x - (pb_an (x / 2) 1431655765)) 858993459) + (pb_an ((x - (pb_an (x / 2) 1431655765)) / 4) 858993459)) / 16)) 252645135) + ((pb_an (((pb_an (x - (pb_an (x / 2) 1431655765)) 858993459) + (pb_an ((x - (pb_an (x / 2) 1431655765)) / 4) 858993459)) + (((pb_an (x - (pb_an (x / 2) 1431655765)) 858993459) + (pb_an ((x - (pb_an (x / 2) 1431655765)) / 4) 858993459)) / 16)) 252645135) / 256)) / 65536)) 63 = (pb_n x.toNat 14 : Int) := pb_bcE hx1 hx2
  have hb14 := pb_nB x.toNat 14
  exact ⟨rfl, ⟨_, rfl, by omega, by omega, hbc⟩⟩
set_option maxHeartbeats 4000000 in
theorem cm_86_s {X : List (Nat × List Value)} {d : Nat} {h : pm_H} (hd : 2 ≤ d) (I : pw_I h)  : pw X d h 86 0 [some (.ref 32)] [] (fun h' v => h = h' ∧ ∃ a : Int, v = .inl (some (pw_i a)) ∧ 0 ≤ a ∧ a ≤ 1 ∧ ((a = 1 ∧ ¬ pv_OK (pw_g h 17)) ∨ (a = 0 ∧ pv_OK (pw_g h 17)))) := by
  have E : pm_ent 86 = some (1, 1, 8, 1, pmc_86) := rfl
  refine pw_ld E (pc' := 1) (st' := [.ref 32]) rfl (fun _ => rfl) ?_
  refine pw_ld E (pc' := 2) (st' := [pw_i 0, .ref 32]) rfl (fun _ => rfl) ?_
  obtain ⟨f1l, f1h, -⟩ := pw_obj (c := 16) I rfl
  refine pw_call (m' := 84) (As := [.ref 32, pw_i 0]) (rest := []) (ls'' := [some (.ref 32), some (pw_i 0), none, none]) (Nat.le_trans (by decide) hd) E rfl (fun _ => pw_iV rfl rfl rfl rfl (pw_cellI f1h rfl)) (rfl : pm_ent 84 = some (2, 4, 8, 0, pmc_84)) rfl rfl (cm_84_s (pw_dp hd (by decide)) I (0) (by omega) (by omega)) ?_
  rintro u3 v2 ⟨rfl, x4, rfl, hx4a, hx4b, hx4r⟩
  refine ⟨_, rfl, ?_⟩
  show pw X d h 86 5 [some (.ref 32)] [pw_i x4] _
  change x4 = pv_N (pw_g h 17) 0 24 at hx4r
  refine pw_if E (pc' := 16) rfl (by decide) (by omega) (by omega) ?_ ?_
  · intro hc5
    change x4 = (0 : Int) at hc5
    refine pw_ld E (pc' := 17) (st' := [pw_i 1]) rfl (fun _ => rfl) ?_
    refine pw_goto E (pc' := 21) rfl (by decide) ?_
    have n0 := pv_NB (sd := pw_g h 17) (s := 0) 24
    have n1 := pv_NB (sd := pw_g h 17) (s := 1) 24
    refine pw_zret E rfl (by omega) ?_
    exact ⟨rfl, ⟨_, rfl, by omega, by omega, Or.inl ⟨rfl, fun q => by have q1 := q.1; have q2 := q.2; omega⟩⟩⟩
  · intro hc6
    change ¬ (x4 = (0 : Int)) at hc6
    refine pw_ld E (pc' := 9) (st' := [.ref 32]) rfl (fun _ => rfl) ?_
    refine pw_ld E (pc' := 10) (st' := [pw_i 1, .ref 32]) rfl (fun _ => rfl) ?_
    obtain ⟨f7l, f7h, -⟩ := pw_obj (c := 16) I rfl
    refine pw_call (m' := 84) (As := [.ref 32, pw_i 1]) (rest := []) (ls'' := [some (.ref 32), some (pw_i 1), none, none]) (Nat.le_trans (by decide) hd) E rfl (fun _ => pw_iV rfl rfl rfl rfl (pw_cellI f7h rfl)) (rfl : pm_ent 84 = some (2, 4, 8, 0, pmc_84)) rfl rfl (cm_84_s (pw_dp hd (by decide)) I (1) (by omega) (by omega)) ?_
    rintro u9 v8 ⟨rfl, x10, rfl, hx10a, hx10b, hx10r⟩
    refine ⟨_, rfl, ?_⟩
    show pw X d h 86 13 [some (.ref 32)] [pw_i x10] _
    change x10 = pv_N (pw_g h 17) 1 24 at hx10r
    refine pw_if E (pc' := 20) rfl (by decide) (by omega) (by omega) ?_ ?_
    · intro hc11
      change x10 ≠ (0 : Int) at hc11
      refine pw_ld E (pc' := 21) (st' := [pw_i 0]) rfl (fun _ => rfl) ?_
      have n0 := pv_NB (sd := pw_g h 17) (s := 0) 24
      have n1 := pv_NB (sd := pw_g h 17) (s := 1) 24
      refine pw_zret E rfl (by omega) ?_
      exact ⟨rfl, ⟨_, rfl, by omega, by omega, Or.inr ⟨rfl, ⟨by omega, by omega⟩⟩⟩⟩
    · intro hc12
      change ¬ (x10 ≠ (0 : Int)) at hc12
      refine pw_ld E (pc' := 17) (st' := [pw_i 1]) rfl (fun _ => rfl) ?_
      refine pw_goto E (pc' := 21) rfl (by decide) ?_
      have n0 := pv_NB (sd := pw_g h 17) (s := 0) 24
      have n1 := pv_NB (sd := pw_g h 17) (s := 1) 24
      refine pw_zret E rfl (by omega) ?_
      exact ⟨rfl, ⟨_, rfl, by omega, by omega, Or.inl ⟨rfl, fun q => by have q1 := q.1; have q2 := q.2; omega⟩⟩⟩
set_option maxHeartbeats 4000000 in
theorem cm_88_s {X : List (Nat × List Value)} {d : Nat} {h : pm_H} (hd : 1 ≤ d) (I : pw_I h)  : pw X d h 88 0 [some (.ref 32), none, none] [] (fun h' v => pw_I h' ∧ pw_E [19] h h' ∧ (pc_BA (pw_g h 17) (pw_g h 18) (pw_g h' 19) 24) ∧ (v = .inl none)) := by
  have E : pm_ent 88 = some (1, 3, 8, 4, pmc_88) := rfl
  have E0 : pw_E [19] h h := pw_E.rf _ _
  refine pw_ld E (pc' := 1) (st' := [pw_i 0]) rfl (fun _ => rfl) ?_
  refine pw_istn E (pc' := 2) (ls' := [some (.ref 32), some (pw_i 0), none]) rfl rfl rfl rfl ?_
  refine pw_ld E (pc' := 3) (st' := [pw_i 0]) rfl (fun _ => rfl) ?_
  refine pw_istn E (pc' := 4) (ls' := [some (.ref 32), some (pw_i 0), some (pw_i 0)]) rfl rfl rfl rfl ?_
  have L4 : ∀ (n4 : Nat) (k4_1 : Int) (k4_2 : Int) (gh4 : pm_H), pw_I gh4 → pw_E [19] h gh4 → 0 ≤ k4_1 → k4_1 ≤ 24 → 0 ≤ k4_2 → k4_2 ≤ 24 → k4_1 ≤ k4_2 → k4_1 = pc_M (pw_g h 17) (k4_2).toNat → pc_BA (pw_g h 17) (pw_g h 18) (pw_g gh4 19) k4_2 → (24 - k4_2).toNat = n4 → pw X d gh4 88 4 [some (.ref 32), some (pw_i k4_1), some (pw_i k4_2)] [] (fun h' v => pw_I h' ∧ pw_E [19] h h' ∧ (pc_BA (pw_g h 17) (pw_g h 18) (pw_g h' 19) 24) ∧ (v = .inl none)) := by
    intro n4
    induction n4 using Nat.strongRecOn with
    | ind n4 ih4 =>
      intro k4_1 k4_2 gh4 I4 E4 k4_1a k4_1b k4_2a k4_2b hx4_0 hx4_1 hx4_2 hm4
      refine pw_ld E (pc' := 5) (st' := [pw_i k4_2]) rfl (fun _ => rfl) ?_
      refine pw_bip E (pc' := 7) rfl rfl (by decide) ?_
      refine pw_if2 E (pc' := 41) rfl (by decide) (by omega) (by omega) (by decide) (by decide) ?_ ?_
      · intro hc1
        change (24 : Int) ≤ k4_2 at hc1
        refine pw_vret E rfl ?_
        exact ⟨I4, E4, ⟨(by rw [show (24 : Int) = k4_2 by omega]; exact hx4_2), rfl⟩⟩
      · intro hc2
        change ¬ ((24 : Int) ≤ k4_2) at hc2
        have o1 := pc_Ms (sd := pw_g h 17) (k := k4_2) (by omega)
        have q7 : pw_g gh4 17 (k4_2).toNat = pw_g h 17 (k4_2).toNat := pw_Eg (c := 17) I E4 rfl rfl _
        have q8 : pw_g h 18 (k4_2).toNat = pw_g gh4 18 (k4_2).toNat := (pw_Eg (c := 18) I E4 rfl rfl _).symm
        refine pw_ld E (pc' := 11) (st' := [.ref 32]) rfl (fun _ => rfl) ?_
        refine pw_getR (b := 33) I4 E (c := 16) (k := 0) (pc' := 14) rfl rfl rfl rfl rfl rfl rfl ?_
        refine pw_ld E (pc' := 15) (st' := [pw_i k4_2, .ref 33]) rfl (fun _ => rfl) ?_
        refine pw_ald2 I4 E (c := 17) (pc' := 16) rfl rfl rfl (by decide) rfl (by decide) (by omega) (by omega) rfl (fun hf3a hf3b => ?_)
        refine pw_ld E (pc' := 17) (st' := [pw_i ((-1)), pw_i (pw_g gh4 17 (k4_2.toNat))]) rfl (fun _ => rfl) ?_
        refine pw_if2 E (pc' := 35) rfl (by decide) (by omega) (by omega) (by decide) (by decide) ?_ ?_
        · intro hc4
          change pw_g gh4 17 (k4_2.toNat) = ((-1) : Int) at hc4
          refine pw_inc E (pc' := 38) (ls' := [some (.ref 32), some (pw_i k4_1), some (pw_i (k4_2 + 1))]) rfl rfl rfl rfl ?_
          refine pw_goto E (pc' := 4) rfl (by decide) ?_
          exact ih4 _ (by omega) (k4_1) (k4_2 + 1) gh4 I4 E4 (by omega) (by omega) (by omega) (by omega) (by omega) (by omega) (by first | exact pc_BA.yes hx4_2 rfl (by omega) (by omega) hx4_1 (by omega) (q8.symm) (by omega) (by omega) I4 (by assumption) | exact pc_BA.no hx4_2 (by omega) (by omega)) rfl
        · intro hc5
          change ¬ (pw_g gh4 17 (k4_2.toNat) = ((-1) : Int)) at hc5
          refine pw_ld E (pc' := 21) (st' := [.ref 32]) rfl (fun _ => rfl) ?_
          refine pw_getR (b := 35) I4 E (c := 16) (k := 2) (pc' := 24) rfl rfl rfl rfl rfl rfl rfl ?_
          refine pw_ld E (pc' := 25) (st' := [pw_i k4_1, .ref 35]) rfl (fun _ => rfl) ?_
          refine pw_ld E (pc' := 26) (st' := [.ref 32, pw_i k4_1, .ref 35]) rfl (fun _ => rfl) ?_
          refine pw_getR (b := 34) I4 E (c := 16) (k := 1) (pc' := 29) rfl rfl rfl rfl rfl rfl rfl ?_
          refine pw_ld E (pc' := 30) (st' := [pw_i k4_2, .ref 34, pw_i k4_1, .ref 35]) rfl (fun _ => rfl) ?_
          refine pw_ald2 I4 E (c := 18) (pc' := 31) rfl rfl rfl (by decide) rfl (by decide) (by omega) (by omega) rfl (fun hf6a hf6b => ?_)
          refine pw_ast0 I4 E (c := 19) (pc' := 32) rfl rfl rfl (by decide) rfl (by decide) (by omega) (by omega) rfl (by omega) (by omega) (by omega) (by omega) rfl ?_
          intro h7I h7E
          generalize h7w : pw_w gh4 19 (k4_1.toNat) (pw_i (pw_g gh4 18 (k4_2.toNat))) = h7 at h7I h7E ⊢
          have h7F := E4.tr (h7E.wk (W' := [19]) (by first | rfl | simp))
          refine pw_inc E (pc' := 35) (ls' := [some (.ref 32), some (pw_i (k4_1 + 1)), some (pw_i k4_2)]) rfl rfl rfl rfl ?_
          refine pw_inc E (pc' := 38) (ls' := [some (.ref 32), some (pw_i (k4_1 + 1)), some (pw_i (k4_2 + 1))]) rfl rfl rfl rfl ?_
          refine pw_goto E (pc' := 4) rfl (by decide) ?_
          exact ih4 _ (by omega) (k4_1 + 1) (k4_2 + 1) h7 h7I h7F (by omega) (by omega) (by omega) (by omega) (by omega) (by omega) (by first | exact pc_BA.yes hx4_2 rfl (by omega) (by omega) hx4_1 (by omega) (q8.symm) (by omega) (by omega) I4 (by assumption) | exact pc_BA.no hx4_2 (by omega) (by omega)) rfl
  exact L4 _ (0) (0) h I E0 (by omega) (by omega) (by omega) (by omega) (by omega) rfl pc_BA.z rfl
set_option maxHeartbeats 4000000 in
theorem cm_89_s {X : List (Nat × List Value)} {d : Nat} {h : pm_H} (hd : 1 ≤ d) (I : pw_I h) (mb : Int) (hmb1 : 0 ≤ mb) (hmb2 : mb ≤ 16383) (hp0 : ∀ j : Nat, pb_b mb.toNat j = 1 → -2000 ≤ pw_g h 19 j ∧ pw_g h 19 j ≤ 2000) : pw X d h 89 0 [some (.ref 32), some (pw_i mb), none, none] [] (fun h' v => h = h' ∧ ∃ a : Int, v = .inl (some (pw_i a)) ∧ (-28000) ≤ a ∧ a ≤ 28000 ∧ (a = pb_S (pw_g h 19) mb.toNat 14)) := by
  have E : pm_ent 89 = some (2, 4, 8, 0, pmc_89) := rfl
  refine pw_ld E (pc' := 1) (st' := [pw_i 0]) rfl (fun _ => rfl) ?_
  refine pw_istn E (pc' := 2) (ls' := [some (.ref 32), some (pw_i mb), some (pw_i 0), none]) rfl rfl rfl rfl ?_
  refine pw_ld E (pc' := 3) (st' := [pw_i 0]) rfl (fun _ => rfl) ?_
  refine pw_istn E (pc' := 4) (ls' := [some (.ref 32), some (pw_i mb), some (pw_i 0), some (pw_i 0)]) rfl rfl rfl rfl ?_
  have L4 : ∀ (n4 : Nat) (k4_2 : Int) (k4_3 : Int), (-28000) ≤ k4_2 → k4_2 ≤ 28000 → 0 ≤ k4_3 → k4_3 ≤ 14 → k4_2 = pb_S (pw_g h 19) mb.toNat (k4_3).toNat → (-2000) * k4_3 ≤ k4_2 → k4_2 ≤ 2000 * k4_3 → (14 - k4_3).toNat = n4 → pw X d h 89 4 [some (.ref 32), some (pw_i mb), some (pw_i k4_2), some (pw_i k4_3)] [] (fun h' v => h = h' ∧ ∃ a : Int, v = .inl (some (pw_i a)) ∧ (-28000) ≤ a ∧ a ≤ 28000 ∧ (a = pb_S (pw_g h 19) mb.toNat 14)) := by
    intro n4
    induction n4 using Nat.strongRecOn with
    | ind n4 ih4 =>
      intro k4_2 k4_3 k4_2a k4_2b k4_3a k4_3b hx4_0 hx4_1 hx4_2 hm4
      refine pw_ld E (pc' := 5) (st' := [pw_i k4_3]) rfl (fun _ => rfl) ?_
      refine pw_bip E (pc' := 7) rfl rfl (by decide) ?_
      refine pw_if2 E (pc' := 37) rfl (by decide) (by omega) (by omega) (by decide) (by decide) ?_ ?_
      · intro hc1
        change (14 : Int) ≤ k4_3 at hc1
        rw [show (k4_3).toNat = 14 by omega] at hx4_0
        refine pw_ld E (pc' := 38) (st' := [pw_i k4_2]) rfl (fun _ => rfl) ?_
        refine pw_iret E rfl ?_
        exact ⟨rfl, ⟨_, rfl, by omega, by omega, by omega⟩⟩
      · intro hc2
        change ¬ ((14 : Int) ≤ k4_3) at hc2
        have o1 := pb_SS (r := pw_g h 19) (s := mb.toNat) (k := k4_3) (by omega)
        have hbit := pb_bit (s := mb) (k := k4_3) (by omega) (by omega) (by omega) (by omega)
        have hb2 := pb_b2 (mb).toNat (k4_3).toNat
        refine pw_ld E (pc' := 11) (st' := [pw_i k4_2]) rfl (fun _ => rfl) ?_
        refine pw_ld E (pc' := 12) (st' := [pw_i mb, pw_i k4_2]) rfl (fun _ => rfl) ?_
        refine pw_ld E (pc' := 13) (st' := [pw_i k4_3, pw_i mb, pw_i k4_2]) rfl (fun _ => rfl) ?_
        refine pw_iiE (f := fun x y => x >>> (y &&& 31)) (c := pw_sr mb k4_3) E (pc' := 14) rfl (fun _ => rfl) rfl ?_
        have hp3 := pw_sr_r mb k4_3
        refine pw_ld E (pc' := 15) (st' := [pw_i 1, pw_i (pw_sr mb k4_3), pw_i k4_2]) rfl (fun _ => rfl) ?_
        refine pw_iiE (f := fun x y => x &&& y) (c := pw_an (pw_sr mb k4_3) 1) E (pc' := 16) rfl (fun _ => rfl) rfl ?_
        have hp4 := pw_an_r (pw_sr mb k4_3)
        refine pw_if E (pc' := 28) rfl (by decide) (by omega) (by omega) ?_ ?_
        · intro hc5
          change pw_an (pw_sr mb k4_3) 1 = (0 : Int) at hc5
          refine pw_ld E (pc' := 29) (st' := [pw_i 0, pw_i k4_2]) rfl (fun _ => rfl) ?_
          refine pw_add E (pc' := 30) rfl rfl ?_
          refine pw_istn E (pc' := 31) (ls' := [some (.ref 32), some (pw_i mb), some (pw_i (k4_2 + 0)), some (pw_i k4_3)]) rfl rfl rfl rfl ?_
          refine pw_inc E (pc' := 34) (ls' := [some (.ref 32), some (pw_i mb), some (pw_i (k4_2 + 0)), some (pw_i (k4_3 + 1))]) rfl rfl rfl rfl ?_
          refine pw_goto E (pc' := 4) rfl (by decide) ?_
          exact ih4 _ (by omega) (k4_2 + 0) (k4_3 + 1)  (by omega) (by omega) (by omega) (by omega) (by omega) (by omega) (by omega) rfl
        · intro hc6
          change ¬ (pw_an (pw_sr mb k4_3) 1 = (0 : Int)) at hc6
          refine pw_ld E (pc' := 20) (st' := [.ref 32, pw_i k4_2]) rfl (fun _ => rfl) ?_
          refine pw_getR (b := 35) I E (c := 16) (k := 2) (pc' := 23) rfl rfl rfl rfl rfl rfl rfl ?_
          refine pw_ld E (pc' := 24) (st' := [pw_i k4_3, .ref 35, pw_i k4_2]) rfl (fun _ => rfl) ?_
          refine pw_ald2 I E (c := 19) (pc' := 25) rfl rfl rfl (by decide) rfl (by decide) (by omega) (by omega) rfl (fun hf7a hf7b => ?_)
          have o2 := hp0 (k4_3).toNat (by omega)
          refine pw_goto E (pc' := 29) rfl (by decide) ?_
          refine pw_add E (pc' := 30) rfl rfl ?_
          refine pw_istn E (pc' := 31) (ls' := [some (.ref 32), some (pw_i mb), some (pw_i (k4_2 + (pw_g h 19 (k4_3.toNat)))), some (pw_i k4_3)]) rfl rfl rfl rfl ?_
          refine pw_inc E (pc' := 34) (ls' := [some (.ref 32), some (pw_i mb), some (pw_i (k4_2 + (pw_g h 19 (k4_3.toNat)))), some (pw_i (k4_3 + 1))]) rfl rfl rfl rfl ?_
          refine pw_goto E (pc' := 4) rfl (by decide) ?_
          exact ih4 _ (by omega) (k4_2 + (pw_g h 19 (k4_3.toNat))) (k4_3 + 1)  (by omega) (by omega) (by omega) (by omega) (by omega) (by omega) (by omega) rfl
  exact L4 _ (0) (0)  (by omega) (by omega) (by omega) (by omega) rfl (by omega) (by omega) rfl
set_option maxHeartbeats 4000000 in
theorem cm_87_s {X : List (Nat × List Value)} {d : Nat} {h : pm_H} (hd : 3 ≤ d) (I : pw_I h) (hp0 : pv_Bd h) (hp1 : pv_OK (pw_g h 17)) (hp2 : po_A (pw_g h 17) ≤ 14) : pw X d h 87 0 [some (.ref 32), some (.ref 38), none, none, none, none, none, none, none, none, none] [] (fun h' v => pw_I h' ∧ pw_E [19, 22] h h' ∧ (pw_gm h' 22 0 = Int.tdiv (po_X (pw_g h 17) (pw_g h 18)) (pw_gd (po_X (pw_g h 17) (pw_g h 18)) (po_Y (pw_g h 17))) ∧ pw_gm h' 22 1 = Int.tdiv (po_Y (pw_g h 17)) (pw_gd (po_X (pw_g h 17) (pw_g h 18)) (po_Y (pw_g h 17)))) ∧ (v = .inl none)) := by
  have E : pm_ent 87 = some (2, 11, 8, 4, pmc_87) := rfl
  have E0 : pw_E [19, 22] h h := pw_E.rf _ _
  have hB := hp0
  have ho1 := hp1.1
  have ho2 := hp1.2
  refine pw_ld E (pc' := 1) (st' := [.ref 32]) rfl (fun _ => rfl) ?_
  refine pw_ld E (pc' := 2) (st' := [pw_i 0, .ref 32]) rfl (fun _ => rfl) ?_
  obtain ⟨f1l, f1h, -⟩ := pw_obj (c := 16) I rfl
  refine pw_call (m' := 84) (As := [.ref 32, pw_i 0]) (rest := []) (ls'' := [some (.ref 32), some (pw_i 0), none, none]) (Nat.le_trans (by decide) hd) E rfl (fun _ => pw_iV rfl rfl rfl rfl (pw_cellI f1h rfl)) (rfl : pm_ent 84 = some (2, 4, 8, 0, pmc_84)) rfl rfl (cm_84_s (pw_dp hd (by decide)) I (0) (by omega) (by omega)) ?_
  rintro u3 v2 ⟨rfl, x4, rfl, hx4a, hx4b, hx4r⟩
  refine ⟨_, rfl, ?_⟩
  show pw X d h 87 5 [some (.ref 32), some (.ref 38), none, none, none, none, none, none, none, none, none] [pw_i x4] _
  change x4 = pv_N (pw_g h 17) 0 24 at hx4r
  refine pw_istn E (pc' := 6) (ls' := [some (.ref 32), some (.ref 38), some (pw_i x4), none, none, none, none, none, none, none, none]) rfl rfl rfl rfl ?_
  refine pw_ld E (pc' := 7) (st' := [pw_i x4]) rfl (fun _ => rfl) ?_
  refine pw_ld E (pc' := 8) (st' := [.ref 32, pw_i x4]) rfl (fun _ => rfl) ?_
  refine pw_ld E (pc' := 9) (st' := [pw_i 1, .ref 32, pw_i x4]) rfl (fun _ => rfl) ?_
  obtain ⟨f5l, f5h, -⟩ := pw_obj (c := 16) I rfl
  refine pw_call (m' := 84) (As := [.ref 32, pw_i 1]) (rest := [pw_i x4]) (ls'' := [some (.ref 32), some (pw_i 1), none, none]) (Nat.le_trans (by decide) hd) E rfl (fun _ => pw_iV rfl rfl rfl rfl (pw_cellI f5h rfl)) (rfl : pm_ent 84 = some (2, 4, 8, 0, pmc_84)) rfl rfl (cm_84_s (pw_dp hd (by decide)) I (1) (by omega) (by omega)) ?_
  rintro u7 v6 ⟨rfl, x8, rfl, hx8a, hx8b, hx8r⟩
  refine ⟨_, rfl, ?_⟩
  show pw X d h 87 12 [some (.ref 32), some (.ref 38), some (pw_i x4), none, none, none, none, none, none, none, none] [pw_i x8, pw_i x4] _
  change x8 = pv_N (pw_g h 17) 1 24 at hx8r
  refine pw_add E (pc' := 13) rfl rfl ?_
  refine pw_istn E (pc' := 14) (ls' := [some (.ref 32), some (.ref 38), some (pw_i x4), some (pw_i (x4 + x8)), none, none, none, none, none, none, none]) rfl rfl rfl rfl ?_
  refine pw_ld E (pc' := 15) (st' := [.ref 32]) rfl (fun _ => rfl) ?_
  refine pw_ld E (pc' := 16) (st' := [pw_i 0, .ref 32]) rfl (fun _ => rfl) ?_
  obtain ⟨f9l, f9h, -⟩ := pw_obj (c := 16) I rfl
  refine pw_call (m' := 85) (As := [.ref 32, pw_i 0]) (rest := []) (ls'' := [some (.ref 32), some (pw_i 0), none, none]) (Nat.le_trans (by decide) hd) E rfl (fun _ => pw_iV rfl rfl rfl rfl (pw_cellI f9h rfl)) (rfl : pm_ent 85 = some (2, 4, 8, 0, pmc_85)) rfl rfl (cm_85_s (pw_dp hd (by decide)) I (0) (by omega) (by omega) hB) ?_
  rintro u11 v10 ⟨rfl, x12, rfl, hx12a, hx12b, hx12r⟩
  refine ⟨_, rfl, ?_⟩
  show pw X d h 87 19 [some (.ref 32), some (.ref 38), some (pw_i x4), some (pw_i (x4 + x8)), none, none, none, none, none, none, none] [pw_i x12] _
  change x12 = pv_S (pw_g h 17) (pw_g h 18) 0 24 at hx12r
  refine pw_ld E (pc' := 20) (st' := [.ref 32, pw_i x12]) rfl (fun _ => rfl) ?_
  refine pw_ld E (pc' := 21) (st' := [pw_i 1, .ref 32, pw_i x12]) rfl (fun _ => rfl) ?_
  obtain ⟨f13l, f13h, -⟩ := pw_obj (c := 16) I rfl
  refine pw_call (m' := 85) (As := [.ref 32, pw_i 1]) (rest := [pw_i x12]) (ls'' := [some (.ref 32), some (pw_i 1), none, none]) (Nat.le_trans (by decide) hd) E rfl (fun _ => pw_iV rfl rfl rfl rfl (pw_cellI f13h rfl)) (rfl : pm_ent 85 = some (2, 4, 8, 0, pmc_85)) rfl rfl (cm_85_s (pw_dp hd (by decide)) I (1) (by omega) (by omega) hB) ?_
  rintro u15 v14 ⟨rfl, x16, rfl, hx16a, hx16b, hx16r⟩
  refine ⟨_, rfl, ?_⟩
  show pw X d h 87 24 [some (.ref 32), some (.ref 38), some (pw_i x4), some (pw_i (x4 + x8)), none, none, none, none, none, none, none] [pw_i x16, pw_i x12] _
  change x16 = pv_S (pw_g h 17) (pw_g h 18) 1 24 at hx16r
  refine pw_add E (pc' := 25) rfl rfl ?_
  refine pw_ist E (pc' := 27) (ls' := [some (.ref 32), some (.ref 38), some (pw_i x4), some (pw_i (x4 + x8)), some (pw_i (x12 + x16)), none, none, none, none, none, none]) rfl rfl rfl rfl ?_
  refine pw_ld E (pc' := 28) (st' := [.ref 32]) rfl (fun _ => rfl) ?_
  refine pw_ld E (pc' := 29) (st' := [pw_i 0, .ref 32]) rfl (fun _ => rfl) ?_
  obtain ⟨f17l, f17h, -⟩ := pw_obj (c := 16) I rfl
  refine pw_call (m' := 85) (As := [.ref 32, pw_i 0]) (rest := []) (ls'' := [some (.ref 32), some (pw_i 0), none, none]) (Nat.le_trans (by decide) hd) E rfl (fun _ => pw_iV rfl rfl rfl rfl (pw_cellI f17h rfl)) (rfl : pm_ent 85 = some (2, 4, 8, 0, pmc_85)) rfl rfl (cm_85_s (pw_dp hd (by decide)) I (0) (by omega) (by omega) hB) ?_
  rintro u19 v18 ⟨rfl, x20, rfl, hx20a, hx20b, hx20r⟩
  refine ⟨_, rfl, ?_⟩
  show pw X d h 87 32 [some (.ref 32), some (.ref 38), some (pw_i x4), some (pw_i (x4 + x8)), some (pw_i (x12 + x16)), none, none, none, none, none, none] [pw_i x20] _
  change x20 = pv_S (pw_g h 17) (pw_g h 18) 0 24 at hx20r
  refine pw_ld E (pc' := 33) (st' := [pw_i (x4 + x8), pw_i x20]) rfl (fun _ => rfl) ?_
  have hm21 := pw_mulG (a := x20) (b := x4 + x8) (A := 48000) (B := 48) (by omega) (by omega) (by omega) (by omega)
  refine pw_mul E (pc' := 34) rfl rfl ?_
  refine pw_ld E (pc' := 36) (st' := [pw_i (x12 + x16), pw_i (x20 * (x4 + x8))]) rfl (fun _ => rfl) ?_
  refine pw_ld E (pc' := 37) (st' := [pw_i x4, pw_i (x12 + x16), pw_i (x20 * (x4 + x8))]) rfl (fun _ => rfl) ?_
  have hm22 := pw_mulG (a := x12 + x16) (b := x4) (A := 96000) (B := 24) (by omega) (by omega) (by omega) (by omega)
  refine pw_mul E (pc' := 38) rfl rfl ?_
  refine pw_sub E (pc' := 39) rfl rfl ?_
  have eT : po_T (pw_g h 17) (pw_g h 18) = (x12 + x16) * x4 := by unfold po_T; rw [← hx12r, ← hx16r, ← hx4r]
  have eA : po_A (pw_g h 17) = x4 + x8 := by unfold po_A; rw [← hx4r, ← hx8r]
  have eO : po_O (pw_g h 17) (pw_g h 18) = pw_lab (x20 * (x4 + x8) - (x12 + x16) * x4) := by unfold po_O; rw [eT, eA, ← hx20r]
  have lbO := pw_labB (a := x20 * (x4 + x8) - (x12 + x16) * x4) (A := 5000000) (by omega) (by omega)
  refine pw_abs E rfl rfl rfl (fun x23 hx23a hx23b hx23c hx23d => ?_)
  have hown : x23 = po_O (pw_g h 17) (pw_g h 18) := by rw [eO]; omega
  refine pw_ist E (pc' := 44) (ls' := [some (.ref 32), some (.ref 38), some (pw_i x4), some (pw_i (x4 + x8)), some (pw_i (x12 + x16)), some (pw_i x23), none, none, none, none, none]) rfl rfl rfl rfl ?_
  refine pw_ld E (pc' := 45) (st' := [.ref 32]) rfl (fun _ => rfl) ?_
  obtain ⟨f24l, f24h, -⟩ := pw_obj (c := 16) I rfl
  refine pw_call (m' := 88) (As := [.ref 32]) (rest := []) (ls'' := [some (.ref 32), none, none]) (Nat.le_trans (by decide) hd) E rfl (fun _ => pw_iV rfl rfl rfl rfl (pw_cellI f24h rfl)) (rfl : pm_ent 88 = some (1, 3, 8, 4, pmc_88)) rfl rfl (cm_88_s (pw_dp hd (by decide)) I ) ?_
  rintro h25 v26 ⟨h25I, h25E, hqgb, rfl⟩
  refine ⟨_, rfl, ?_⟩
  have h25F := E0.tr (h25E.wk (W' := [19, 22]) (by first | rfl | simp))
  show pw X d h25 87 48 [some (.ref 32), some (.ref 38), some (pw_i x4), some (pw_i (x4 + x8)), some (pw_i (x12 + x16)), some (pw_i x23), none, none, none, none, none] [] _
  have hMA : pc_M (pw_g h 17) 24 = po_A (pw_g h 17) := pc_MN 24 (po_side3 I)
  have hp2A := pw_p2_r (a := po_A (pw_g h 17)) (by omega) (by omega)
  refine pw_ld E (pc' := 49) (st' := [.long (Int64.ofInt 0)]) rfl (fun _ => rfl) ?_
  refine pw_lst E (pc' := 51) (ls' := [some (.ref 32), some (.ref 38), some (pw_i x4), some (pw_i (x4 + x8)), some (pw_i (x12 + x16)), some (pw_i x23), some (.long (Int64.ofInt 0)), none, none, none, none]) rfl rfl rfl rfl ?_
  refine pw_ld E (pc' := 52) (st' := [.long (Int64.ofInt 0)]) rfl (fun _ => rfl) ?_
  refine pw_lst E (pc' := 54) (ls' := [some (.ref 32), some (.ref 38), some (pw_i x4), some (pw_i (x4 + x8)), some (pw_i (x12 + x16)), some (pw_i x23), some (.long (Int64.ofInt 0)), none, some (.long (Int64.ofInt 0)), none, none]) rfl rfl rfl rfl ?_
  refine pw_ld E (pc' := 55) (st' := [pw_i 0]) rfl (fun _ => rfl) ?_
  refine pw_ist E (pc' := 57) (ls' := [some (.ref 32), some (.ref 38), some (pw_i x4), some (pw_i (x4 + x8)), some (pw_i (x12 + x16)), some (pw_i x23), some (.long (Int64.ofInt 0)), none, some (.long (Int64.ofInt 0)), none, some (pw_i 0)]) rfl rfl rfl rfl ?_
  have L57 : ∀ (n57 : Nat) (k57_6 : Int) (k57_8 : Int) (k57_10 : Int), 0 ≤ k57_6 → k57_6 ≤ 16384 → 0 ≤ k57_8 → k57_8 ≤ 16384 → 0 ≤ k57_10 → k57_10 ≤ 16384 → k57_6 = po_W (pv_N (pw_g h 17) 0 24) 14 (k57_10).toNat → k57_8 = po_F (pw_g h25 19) (po_A (pw_g h 17)) (po_T (pw_g h 17) (pw_g h 18)) (po_O (pw_g h 17) (pw_g h 18)) (pv_N (pw_g h 17) 0 24) 14 (k57_10).toNat → k57_8 ≤ k57_6 → k57_6 ≤ k57_10 → k57_10 ≤ pw_p2 (po_A (pw_g h 17)) → (16384 - k57_10).toNat = n57 → pw X d h25 87 57 [some (.ref 32), some (.ref 38), some (pw_i x4), some (pw_i (x4 + x8)), some (pw_i (x12 + x16)), some (pw_i x23), some (.long (Int64.ofInt k57_6)), none, some (.long (Int64.ofInt k57_8)), none, some (pw_i k57_10)] [] (fun h' v => pw_I h' ∧ pw_E [19, 22] h h' ∧ (pw_gm h' 22 0 = Int.tdiv (po_X (pw_g h 17) (pw_g h 18)) (pw_gd (po_X (pw_g h 17) (pw_g h 18)) (po_Y (pw_g h 17))) ∧ pw_gm h' 22 1 = Int.tdiv (po_Y (pw_g h 17)) (pw_gd (po_X (pw_g h 17) (pw_g h 18)) (po_Y (pw_g h 17)))) ∧ (v = .inl none)) := by
    intro n57
    induction n57 using Nat.strongRecOn with
    | ind n57 ih57 =>
      intro k57_6 k57_8 k57_10 k57_6a k57_6b k57_8a k57_8b k57_10a k57_10b hx57_0 hx57_1 hx57_2 hx57_3 hx57_4 hm57
      refine pw_ld E (pc' := 59) (st' := [pw_i k57_10]) rfl (fun _ => rfl) ?_
      refine pw_ld E (pc' := 60) (st' := [pw_i 1, pw_i k57_10]) rfl (fun _ => rfl) ?_
      refine pw_ld E (pc' := 61) (st' := [pw_i (x4 + x8), pw_i 1, pw_i k57_10]) rfl (fun _ => rfl) ?_
      refine pw_bip E (pc' := 63) rfl rfl (by decide) ?_
      refine pw_min E rfl rfl (by omega) (by omega) (by decide) (by decide) rfl ?_
      refine pw_shlE E (pc' := 67) rfl rfl (by omega) (by omega) ?_
      have hp27 := pw_p2_r (a := min (x4 + x8) 14) (by omega) (by omega)
      have hpm : pw_p2 (min (x4 + x8) 14) = pw_p2 (po_A (pw_g h 17)) := by rw [show min (x4 + x8) 14 = po_A (pw_g h 17) by omega]
      refine pw_if2 E (pc' := 122) rfl (by decide) (by omega) (by omega) (by omega) (by omega) ?_ ?_
      · intro hc28
        change pw_p2 (min (x4 + x8) 14) ≤ k57_10 at hc28
        have hK : (k57_10).toNat = 2 ^ (po_A (pw_g h 17)).toNat := po_p2E (by omega) (by omega)
        obtain ⟨c1, c2⟩ := po_14 (r := pw_g h25 19) (r' := pc_B (pw_g h 17) (pw_g h 18) 24) (al := po_A (pw_g h 17)) (tf := po_T (pw_g h 17) (pw_g h 18)) (ow := po_O (pw_g h 17) (pw_g h 18)) (q := pv_N (pw_g h 17) 0 24) (a := (po_A (pw_g h 17)).toNat) (by omega) (fun j hj => hqgb j (by show (j : Int) < pc_M (pw_g h 17) 24; omega))
        rw [hK] at hx57_0 hx57_1
        have eY : k57_6 = po_Y (pw_g h 17) := hx57_0.trans c2
        have eX : k57_8 = po_X (pw_g h 17) (pw_g h 18) := hx57_1.trans c1
        have hXB := po_XB (sd := (pw_g h 17)) (ch := (pw_g h 18)) hp1 hp2
        refine pw_ld E (pc' := 123) (st' := [.ref 38]) rfl (fun _ => rfl) ?_
        refine pw_ld E (pc' := 125) (st' := [.long (Int64.ofInt k57_8), .ref 38]) rfl (fun _ => rfl) ?_
        refine pw_ld E (pc' := 127) (st' := [.long (Int64.ofInt k57_6), .long (Int64.ofInt k57_8), .ref 38]) rfl (fun _ => rfl) ?_
        obtain ⟨f29l, f29h, -⟩ := pw_obj (c := 22) h25I rfl
        refine pw_call (m' := 6) (As := [.ref 38, .long (Int64.ofInt k57_8), .long (Int64.ofInt k57_6)]) (rest := []) (ls'' := [some (.ref 38), some (.long (Int64.ofInt k57_8)), none, some (.long (Int64.ofInt k57_6)), none, none, none]) (Nat.le_trans (by decide) hd) E rfl (fun _ => pw_iV rfl rfl rfl rfl (pw_cellI f29h rfl)) (rfl : pm_ent 6 = some (3, 7, 1, 4, pmc_6)) rfl rfl (cm_6_22g (pw_dp hd (by decide)) h25I (k57_8) (by omega) (by omega) (k57_6) (by omega) (by omega)) ?_
        rintro h30 v31 ⟨h30I, h30E, hqfr, rfl⟩
        refine ⟨_, rfl, ?_⟩
        have h30F := h25F.tr (h30E.wk (W' := [19, 22]) (by first | rfl | simp))
        show pw X d h30 87 130 [some (.ref 32), some (.ref 38), some (pw_i x4), some (pw_i (x4 + x8)), some (pw_i (x12 + x16)), some (pw_i x23), some (.long (Int64.ofInt k57_6)), none, some (.long (Int64.ofInt k57_8)), none, some (pw_i k57_10)] [] _
        refine pw_vret E rfl ?_
        rw [eX, eY] at hqfr
        exact ⟨h30I, h30F, ⟨hqfr.1, hqfr.2⟩, rfl⟩
      · intro hc32
        change ¬ (pw_p2 (min (x4 + x8) 14) ≤ k57_10) at hc32
        refine pw_ld E (pc' := 72) (st' := [pw_i k57_10]) rfl (fun _ => rfl) ?_
        refine pw_call (m' := 326) (As := [pw_i k57_10]) (rest := []) (ls'' := [some (pw_i k57_10)]) (Nat.le_trans (by decide) hd) E rfl (fun _ => pw_iS rfl rfl rfl) (rfl : pm_ent 326 = some (1, 1, 15, 0, pmc_326)) rfl rfl (cm_326_s (pw_dp hd (by decide)) h25I (k57_10) (by omega) (by omega)) ?_
        rintro u34 v33 ⟨rfl, x35, rfl, hx35a, hx35b, hx35r⟩
        refine ⟨_, rfl, ?_⟩
        show pw X d h25 87 75 [some (.ref 32), some (.ref 38), some (pw_i x4), some (pw_i (x4 + x8)), some (pw_i (x12 + x16)), some (pw_i x23), some (.long (Int64.ofInt k57_6)), none, some (.long (Int64.ofInt k57_8)), none, some (pw_i k57_10)] [pw_i x35] _
        change x35 = (pb_n k57_10.toNat 14 : Int) at hx35r
        refine pw_ld E (pc' := 76) (st' := [pw_i x4, pw_i x35]) rfl (fun _ => rfl) ?_
        refine pw_if2 E (pc' := 116) rfl (by decide) (by omega) (by omega) (by omega) (by omega) ?_ ?_
        · intro hc36
          change x35 ≠ x4 at hc36
          have w1 := po_Ws (q := pv_N (pw_g h 17) 0 24) (m := 14) (s := k57_10) (by omega)
          have f1 := po_Fs (r := pw_g h25 19) (al := po_A (pw_g h 17)) (tf := po_T (pw_g h 17) (pw_g h 18)) (ow := po_O (pw_g h 17) (pw_g h 18)) (q := pv_N (pw_g h 17) 0 24) (m := 14) (s := k57_10) (by omega)
          have w2 := w1.2 (by omega)
          have f2 := f1.2.2 (by omega)
          refine pw_inc E (pc' := 119) (ls' := [some (.ref 32), some (.ref 38), some (pw_i x4), some (pw_i (x4 + x8)), some (pw_i (x12 + x16)), some (pw_i x23), some (.long (Int64.ofInt k57_6)), none, some (.long (Int64.ofInt k57_8)), none, some (pw_i (k57_10 + 1))]) rfl rfl rfl rfl ?_
          refine pw_goto E (pc' := 57) rfl (by decide) ?_
          exact ih57 _ (by omega) (k57_6) (k57_8) (k57_10 + 1)  (by omega) (by omega) (by omega) (by omega) (by omega) (by omega) (by omega) (by omega) (by omega) (by omega) (by omega) rfl
        · intro hc37
          change ¬ (x35 ≠ x4) at hc37
          refine pw_ld E (pc' := 81) (st' := [.long (Int64.ofInt k57_6)]) rfl (fun _ => rfl) ?_
          refine pw_ld E (pc' := 82) (st' := [.long (Int64.ofInt 1), .long (Int64.ofInt k57_6)]) rfl (fun _ => rfl) ?_
          refine pw_ladd E (pc' := 83) rfl rfl ?_
          refine pw_lst E (pc' := 85) (ls' := [some (.ref 32), some (.ref 38), some (pw_i x4), some (pw_i (x4 + x8)), some (pw_i (x12 + x16)), some (pw_i x23), some (.long (Int64.ofInt (k57_6 + 1))), none, some (.long (Int64.ofInt k57_8)), none, some (pw_i k57_10)]) rfl rfl rfl rfl ?_
          refine pw_ld E (pc' := 87) (st' := [.long (Int64.ofInt k57_8)]) rfl (fun _ => rfl) ?_
          refine pw_ld E (pc' := 88) (st' := [.ref 32, .long (Int64.ofInt k57_8)]) rfl (fun _ => rfl) ?_
          refine pw_ld E (pc' := 90) (st' := [pw_i k57_10, .ref 32, .long (Int64.ofInt k57_8)]) rfl (fun _ => rfl) ?_
          obtain ⟨f38l, f38h, -⟩ := pw_obj (c := 16) h25I rfl
          refine pw_call (m' := 89) (As := [.ref 32, pw_i k57_10]) (rest := [.long (Int64.ofInt k57_8)]) (ls'' := [some (.ref 32), some (pw_i k57_10), none, none]) (Nat.le_trans (by decide) hd) E rfl (fun _ => pw_iV rfl rfl rfl rfl (pw_cellI f38h rfl)) (rfl : pm_ent 89 = some (2, 4, 8, 0, pmc_89)) rfl rfl (cm_89_s (pw_dp hd (by decide)) h25I (k57_10) (by omega) (by omega) (po_rowB hqgb hMA (po_p2 (by omega) (by omega) (by omega)) hp0)) ?_
          rintro u40 v39 ⟨rfl, x41, rfl, hx41a, hx41b, hx41r⟩
          refine ⟨_, rfl, ?_⟩
          show pw X d h25 87 93 [some (.ref 32), some (.ref 38), some (pw_i x4), some (pw_i (x4 + x8)), some (pw_i (x12 + x16)), some (pw_i x23), some (.long (Int64.ofInt (k57_6 + 1))), none, some (.long (Int64.ofInt k57_8)), none, some (pw_i k57_10)] [pw_i x41, .long (Int64.ofInt k57_8)] _
          change x41 = pb_S (pw_g h25 19) k57_10.toNat 14 at hx41r
          refine pw_ld E (pc' := 94) (st' := [pw_i (x4 + x8), pw_i x41, .long (Int64.ofInt k57_8)]) rfl (fun _ => rfl) ?_
          have hm42 := pw_mulG (a := x41) (b := x4 + x8) (A := 28000) (B := 38) (by omega) (by omega) (by omega) (by omega)
          refine pw_mul E (pc' := 95) rfl rfl ?_
          refine pw_ld E (pc' := 97) (st' := [pw_i (x12 + x16), pw_i (x41 * (x4 + x8)), .long (Int64.ofInt k57_8)]) rfl (fun _ => rfl) ?_
          refine pw_ld E (pc' := 98) (st' := [pw_i x4, pw_i (x12 + x16), pw_i (x41 * (x4 + x8)), .long (Int64.ofInt k57_8)]) rfl (fun _ => rfl) ?_
          have hm43 := pw_mulG (a := x12 + x16) (b := x4) (A := 96000) (B := 14) (by omega) (by omega) (by omega) (by omega)
          refine pw_mul E (pc' := 99) rfl rfl ?_
          refine pw_sub E (pc' := 100) rfl rfl ?_
          refine pw_abs E rfl rfl rfl (fun x44 hx44a hx44b hx44c hx44d => ?_)
          refine pw_ld E (pc' := 105) (st' := [pw_i x23, pw_i x44, .long (Int64.ofInt k57_8)]) rfl (fun _ => rfl) ?_
          refine pw_if2 E (pc' := 112) rfl (by decide) (by omega) (by omega) (by omega) (by omega) ?_ ?_
          · intro hc45
            change x44 < x23 at hc45
            refine pw_ld E (pc' := 113) (st' := [.long (Int64.ofInt 0), .long (Int64.ofInt k57_8)]) rfl (fun _ => rfl) ?_
            refine pw_ladd E (pc' := 114) rfl rfl ?_
            refine pw_lst E (pc' := 116) (ls' := [some (.ref 32), some (.ref 38), some (pw_i x4), some (pw_i (x4 + x8)), some (pw_i (x12 + x16)), some (pw_i x23), some (.long (Int64.ofInt (k57_6 + 1))), none, some (.long (Int64.ofInt (k57_8 + 0))), none, some (pw_i k57_10)]) rfl rfl rfl rfl ?_
            have w1 := po_Ws (q := pv_N (pw_g h 17) 0 24) (m := 14) (s := k57_10) (by omega)
            have f1 := po_Fs (r := pw_g h25 19) (al := po_A (pw_g h 17)) (tf := po_T (pw_g h 17) (pw_g h 18)) (ow := po_O (pw_g h 17) (pw_g h 18)) (q := pv_N (pw_g h 17) 0 24) (m := 14) (s := k57_10) (by omega)
            have ev : pb_S (pw_g h25 19) (k57_10).toNat 14 * po_A (pw_g h 17) - po_T (pw_g h 17) (pw_g h 18) = x41 * (x4 + x8) - (x12 + x16) * x4 := by rw [eT, eA, ← hx41r]
            have w2 := w1.1 (by omega)
            have f2 := f1.2.1 (by rw [ev]; omega)
            refine pw_inc E (pc' := 119) (ls' := [some (.ref 32), some (.ref 38), some (pw_i x4), some (pw_i (x4 + x8)), some (pw_i (x12 + x16)), some (pw_i x23), some (.long (Int64.ofInt (k57_6 + 1))), none, some (.long (Int64.ofInt (k57_8 + 0))), none, some (pw_i (k57_10 + 1))]) rfl rfl rfl rfl ?_
            refine pw_goto E (pc' := 57) rfl (by decide) ?_
            exact ih57 _ (by omega) (k57_6 + 1) (k57_8 + 0) (k57_10 + 1)  (by omega) (by omega) (by omega) (by omega) (by omega) (by omega) (by omega) (by omega) (by omega) (by omega) (by omega) rfl
          · intro hc46
            change ¬ (x44 < x23) at hc46
            refine pw_ld E (pc' := 109) (st' := [.long (Int64.ofInt 1), .long (Int64.ofInt k57_8)]) rfl (fun _ => rfl) ?_
            refine pw_goto E (pc' := 113) rfl (by decide) ?_
            refine pw_ladd E (pc' := 114) rfl rfl ?_
            refine pw_lst E (pc' := 116) (ls' := [some (.ref 32), some (.ref 38), some (pw_i x4), some (pw_i (x4 + x8)), some (pw_i (x12 + x16)), some (pw_i x23), some (.long (Int64.ofInt (k57_6 + 1))), none, some (.long (Int64.ofInt (k57_8 + 1))), none, some (pw_i k57_10)]) rfl rfl rfl rfl ?_
            have w1 := po_Ws (q := pv_N (pw_g h 17) 0 24) (m := 14) (s := k57_10) (by omega)
            have f1 := po_Fs (r := pw_g h25 19) (al := po_A (pw_g h 17)) (tf := po_T (pw_g h 17) (pw_g h 18)) (ow := po_O (pw_g h 17) (pw_g h 18)) (q := pv_N (pw_g h 17) 0 24) (m := 14) (s := k57_10) (by omega)
            have ev : pb_S (pw_g h25 19) (k57_10).toNat 14 * po_A (pw_g h 17) - po_T (pw_g h 17) (pw_g h 18) = x41 * (x4 + x8) - (x12 + x16) * x4 := by rw [eT, eA, ← hx41r]
            have w2 := w1.1 (by omega)
            have f2 := f1.1 (by omega) (by rw [ev]; omega)
            refine pw_inc E (pc' := 119) (ls' := [some (.ref 32), some (.ref 38), some (pw_i x4), some (pw_i (x4 + x8)), some (pw_i (x12 + x16)), some (pw_i x23), some (.long (Int64.ofInt (k57_6 + 1))), none, some (.long (Int64.ofInt (k57_8 + 1))), none, some (pw_i (k57_10 + 1))]) rfl rfl rfl rfl ?_
            refine pw_goto E (pc' := 57) rfl (by decide) ?_
            exact ih57 _ (by omega) (k57_6 + 1) (k57_8 + 1) (k57_10 + 1)  (by omega) (by omega) (by omega) (by omega) (by omega) (by omega) (by omega) (by omega) (by omega) (by omega) (by omega) rfl
  exact L57 _ (0) (0) (0)  (by omega) (by omega) (by omega) (by omega) (by omega) (by omega) rfl rfl (by omega) (by omega) (by omega) rfl
set_option maxHeartbeats 4000000 in
theorem cm_136_s {X : List (Nat × List Value)} {d : Nat} {h : pm_H} (hd : 5 ≤ d) (I : pw_I h) (b : Int) (hb1 : (-2147483648) ≤ b) (hb2 : b ≤ 2147483647) (e : Int) (he1 : (-2147483648) ≤ e) (he2 : e ≤ 2147483647) (wt : Int) (hwt1 : (-2147483648) ≤ wt) (hwt2 : wt ≤ 2147483647) : pw X d h 136 0 [some (.ref 16), some (pw_i b), some (pw_i e), some (pw_i wt)] [] (fun h' v => pw_I h' ∧ pw_E [17, 18, 19, 22] h h' ∧ ∃ a : Int, v = .inl (some (.long (Int64.ofInt a))) ∧ (-1099511627776) ≤ a ∧ a ≤ 1099511627776 ∧ ((((0 ≤ b ∧ b ≤ 11 ∧ 0 ≤ e ∧ e ≤ 11 ∧ b ≠ e ∧ 0 ≤ wt ∧ wt ≤ 1) ∧ pv_OK (pv_sdc h b e) ∧ po_A (pv_sdc h b e) ≤ 14) ∧ a = pv_LW (po_X (pv_sdc h b e) (pv_chc h b e)) (po_Y (pv_sdc h b e)) wt) ∨ (¬ ((0 ≤ b ∧ b ≤ 11 ∧ 0 ≤ e ∧ e ≤ 11 ∧ b ≠ e ∧ 0 ≤ wt ∧ wt ≤ 1) ∧ pv_OK (pv_sdc h b e) ∧ po_A (pv_sdc h b e) ≤ 14) ∧ a = -1))) := by
  have E : pm_ent 136 = some (4, 4, 11, 2, pmc_136) := rfl
  have E0 : pw_E [17, 18, 19, 22] h h := pw_E.rf _ _
  refine pw_ld E (pc' := 1) (st' := [pw_i b]) rfl (fun _ => rfl) ?_
  refine pw_ld E (pc' := 2) (st' := [pw_i e, pw_i b]) rfl (fun _ => rfl) ?_
  refine pw_call (m' := 131) (As := [pw_i b, pw_i e]) (rest := []) (ls'' := [some (pw_i b), some (pw_i e)]) (Nat.le_trans (by decide) hd) E rfl (fun _ => pw_iS rfl rfl rfl) (rfl : pm_ent 131 = some (2, 2, 11, 1, pmc_131)) rfl rfl (cm_131_s (pw_dp hd (by decide)) I (b) (by omega) (by omega) (e) (by omega) (by omega)) ?_
  rintro u2 v1 ⟨rfl, x3, rfl, hx3a, hx3b, hx3r⟩
  refine ⟨_, rfl, ?_⟩
  show pw X d h 136 5 [some (.ref 16), some (pw_i b), some (pw_i e), some (pw_i wt)] [pw_i x3] _
  change (x3 = 1 ∧ 0 ≤ b ∧ b ≤ 11 ∧ 0 ≤ e ∧ e ≤ 11 ∧ b ≠ e) ∨ (x3 = 0 ∧ ¬ (0 ≤ b ∧ b ≤ 11 ∧ 0 ≤ e ∧ e ≤ 11 ∧ b ≠ e)) at hx3r
  rcases (by omega : x3 = 1 ∨ x3 = 0) with hb4 | hb4
  · skip
    refine pw_if E (pc' := 15) rfl (by decide) (by omega) (by omega) ?_ ?_
    · intro hc5
      change x3 = (0 : Int) at hc5
      exfalso; omega
    · intro hc6
      change ¬ (x3 = (0 : Int)) at hc6
      refine pw_ld E (pc' := 9) (st' := [pw_i wt]) rfl (fun _ => rfl) ?_
      refine pw_call (m' := 137) (As := [pw_i wt]) (rest := []) (ls'' := [some (pw_i wt)]) (Nat.le_trans (by decide) hd) E rfl (fun _ => pw_iS rfl rfl rfl) (rfl : pm_ent 137 = some (1, 1, 11, 1, pmc_137)) rfl rfl (cm_137 (pw_dp hd (by decide)) I (wt) (by omega) (by omega)) ?_
      rintro u8 v7 ⟨rfl, x9, rfl, hx9a, hx9b, hx9r⟩
      refine ⟨_, rfl, ?_⟩
      show pw X d h 136 12 [some (.ref 16), some (pw_i b), some (pw_i e), some (pw_i wt)] [pw_i x9] _
      change (x9 = 1 ∧ 0 ≤ wt ∧ wt ≤ 1) ∨ (x9 = 0 ∧ ¬ (0 ≤ wt ∧ wt ≤ 1)) at hx9r
      rcases (by omega : x9 = 1 ∨ x9 = 0) with hb10 | hb10
      · skip
        refine pw_if E (pc' := 19) rfl (by decide) (by omega) (by omega) ?_ ?_
        · intro hc11
          change x9 ≠ (0 : Int) at hc11
          refine pw_ld E (pc' := 20) (st' := [.ref 16]) rfl (fun _ => rfl) ?_
          refine pw_ld E (pc' := 21) (st' := [pw_i b, .ref 16]) rfl (fun _ => rfl) ?_
          refine pw_ld E (pc' := 22) (st' := [pw_i e, pw_i b, .ref 16]) rfl (fun _ => rfl) ?_
          obtain ⟨f12l, f12h, -⟩ := pw_obj (c := 0) I rfl
          refine pw_call (m' := 138) (As := [.ref 16, pw_i b, pw_i e]) (rest := []) (ls'' := [some (.ref 16), some (pw_i b), some (pw_i e), none]) (Nat.le_trans (by decide) hd) E rfl (fun _ => pw_iV rfl rfl rfl rfl (pw_cellI f12h rfl)) (rfl : pm_ent 138 = some (3, 4, 11, 4, pmc_138)) rfl rfl (cm_138_s (pw_dp hd (by decide)) I (b) (by omega) (by omega) (e) (by omega) (by omega)) ?_
          rintro h13 v14 ⟨h13I, h13E, hqfill, rfl⟩
          refine ⟨_, rfl, ?_⟩
          have h13F := E0.tr (h13E.wk (W' := [17, 18, 19, 22]) (by first | rfl | simp))
          show pw X d h13 136 25 [some (.ref 16), some (pw_i b), some (pw_i e), some (pw_i wt)] [] _
          have hB : pv_Bd h13 := hqfill.bd (pv_chcB I (by omega) (by omega) (by omega) (by omega))
          obtain ⟨-, -, eOK, eN0, eN1⟩ := hqfill.eq
          have hcg := po_cg (sd := pw_g h13 17) (sd' := pv_sdc h b e) (ch := pw_g h13 18) (ch' := pv_chc h b e) (fun k hk => by
            obtain ⟨z1, z2⟩ := (hqfill k hk).1 (by omega)
            exact ⟨z1, fun z => z2 (by rw [← z1]; exact z)⟩)
          refine pw_ld E (pc' := 26) (st' := [.ref 16]) rfl (fun _ => rfl) ?_
          refine pw_getR (b := 32) h13I E (c := 0) (k := 7) (pc' := 29) rfl rfl rfl rfl rfl rfl rfl ?_
          obtain ⟨f15l, f15h, -⟩ := pw_obj (c := 16) h13I rfl
          refine pw_call (m' := 86) (As := [.ref 32]) (rest := []) (ls'' := [some (.ref 32)]) (Nat.le_trans (by decide) hd) E rfl (fun _ => pw_iV rfl rfl rfl rfl (pw_cellI f15h rfl)) (rfl : pm_ent 86 = some (1, 1, 8, 1, pmc_86)) rfl rfl (cm_86_s (pw_dp hd (by decide)) h13I ) ?_
          rintro u17 v16 ⟨rfl, x18, rfl, hx18a, hx18b, hx18r⟩
          refine ⟨_, rfl, ?_⟩
          show pw X d h13 136 32 [some (.ref 16), some (pw_i b), some (pw_i e), some (pw_i wt)] [pw_i x18] _
          change (x18 = 1 ∧ ¬ pv_OK (pw_g h13 17)) ∨ (x18 = 0 ∧ pv_OK (pw_g h13 17)) at hx18r
          rcases (by omega : x18 = 1 ∨ x18 = 0) with hb19 | hb19
          · skip
            refine pw_if E (pc' := 57) rfl (by decide) (by omega) (by omega) ?_ ?_
            · intro hc20
              change x18 ≠ (0 : Int) at hc20
              refine pw_ld E (pc' := 60) (st' := [.long (Int64.ofInt ((-1)))]) rfl (fun _ => rfl) ?_
              refine pw_lret E rfl ?_
              exact ⟨h13I, h13F, ⟨_, rfl, by omega, by omega, Or.inr ⟨fun q => (hx18r.resolve_right (fun q => by have := q.1; omega)).2 (eOK.mpr q.2.1), rfl⟩⟩⟩
            · intro hc21
              change ¬ (x18 ≠ (0 : Int)) at hc21
              exfalso; omega
          · skip
            refine pw_if E (pc' := 57) rfl (by decide) (by omega) (by omega) ?_ ?_
            · intro hc23
              change x18 ≠ (0 : Int) at hc23
              exfalso; omega
            · intro hc24
              change ¬ (x18 ≠ (0 : Int)) at hc24
              refine pw_ld E (pc' := 36) (st' := [.ref 16]) rfl (fun _ => rfl) ?_
              refine pw_getR (b := 32) h13I E (c := 0) (k := 7) (pc' := 39) rfl rfl rfl rfl rfl rfl rfl ?_
              refine pw_ld E (pc' := 40) (st' := [pw_i 0, .ref 32]) rfl (fun _ => rfl) ?_
              obtain ⟨f25l, f25h, -⟩ := pw_obj (c := 16) h13I rfl
              refine pw_call (m' := 84) (As := [.ref 32, pw_i 0]) (rest := []) (ls'' := [some (.ref 32), some (pw_i 0), none, none]) (Nat.le_trans (by decide) hd) E rfl (fun _ => pw_iV rfl rfl rfl rfl (pw_cellI f25h rfl)) (rfl : pm_ent 84 = some (2, 4, 8, 0, pmc_84)) rfl rfl (cm_84_s (pw_dp hd (by decide)) h13I (0) (by omega) (by omega)) ?_
              rintro u27 v26 ⟨rfl, x28, rfl, hx28a, hx28b, hx28r⟩
              refine ⟨_, rfl, ?_⟩
              show pw X d h13 136 43 [some (.ref 16), some (pw_i b), some (pw_i e), some (pw_i wt)] [pw_i x28] _
              change x28 = pv_N (pw_g h13 17) 0 24 at hx28r
              refine pw_ld E (pc' := 44) (st' := [.ref 16, pw_i x28]) rfl (fun _ => rfl) ?_
              refine pw_getR (b := 32) h13I E (c := 0) (k := 7) (pc' := 47) rfl rfl rfl rfl rfl rfl rfl ?_
              refine pw_ld E (pc' := 48) (st' := [pw_i 1, .ref 32, pw_i x28]) rfl (fun _ => rfl) ?_
              obtain ⟨f29l, f29h, -⟩ := pw_obj (c := 16) h13I rfl
              refine pw_call (m' := 84) (As := [.ref 32, pw_i 1]) (rest := [pw_i x28]) (ls'' := [some (.ref 32), some (pw_i 1), none, none]) (Nat.le_trans (by decide) hd) E rfl (fun _ => pw_iV rfl rfl rfl rfl (pw_cellI f29h rfl)) (rfl : pm_ent 84 = some (2, 4, 8, 0, pmc_84)) rfl rfl (cm_84_s (pw_dp hd (by decide)) h13I (1) (by omega) (by omega)) ?_
              rintro u31 v30 ⟨rfl, x32, rfl, hx32a, hx32b, hx32r⟩
              refine ⟨_, rfl, ?_⟩
              show pw X d h13 136 51 [some (.ref 16), some (pw_i b), some (pw_i e), some (pw_i wt)] [pw_i x32, pw_i x28] _
              change x32 = pv_N (pw_g h13 17) 1 24 at hx32r
              refine pw_add E (pc' := 52) rfl rfl ?_
              refine pw_bip E (pc' := 54) rfl rfl (by decide) ?_
              refine pw_if2 E (pc' := 61) rfl (by decide) (by omega) (by omega) (by decide) (by decide) ?_ ?_
              · intro hc33
                change x28 + x32 ≤ (14 : Int) at hc33
                refine pw_ld E (pc' := 62) (st' := [.ref 16]) rfl (fun _ => rfl) ?_
                refine pw_getR (b := 32) h13I E (c := 0) (k := 7) (pc' := 65) rfl rfl rfl rfl rfl rfl rfl ?_
                refine pw_ld E (pc' := 66) (st' := [.ref 16, .ref 32]) rfl (fun _ => rfl) ?_
                refine pw_getR (b := 38) h13I E (c := 0) (k := 8) (pc' := 69) rfl rfl rfl rfl rfl rfl rfl ?_
                obtain ⟨f34l, f34h, -⟩ := pw_obj (c := 16) h13I rfl
                refine pw_call (m' := 87) (As := [.ref 32, .ref 38]) (rest := []) (ls'' := [some (.ref 32), some (.ref 38), none, none, none, none, none, none, none, none, none]) (Nat.le_trans (by decide) hd) E rfl (fun _ => pw_iV rfl rfl rfl rfl (pw_cellI f34h rfl)) (rfl : pm_ent 87 = some (2, 11, 8, 4, pmc_87)) rfl rfl (cm_87_s (pw_dp hd (by decide)) h13I hB (hx18r.resolve_left (fun q => by have := q.1; omega)).2 (by unfold po_A; omega)) ?_
                rintro h35 v36 ⟨h35I, h35E, hqde, rfl⟩
                refine ⟨_, rfl, ?_⟩
                have h35F := h13F.tr (h35E.wk (W' := [17, 18, 19, 22]) (by first | rfl | simp))
                show pw X d h35 136 72 [some (.ref 16), some (pw_i b), some (pw_i e), some (pw_i wt)] [] _
                have hXB := po_XB (sd := pw_g h13 17) (ch := pw_g h13 18) (hx18r.resolve_left (fun q => by have := q.1; omega)).2 (by unfold po_A; omega)
                have gp := pw_gd_pos (x := po_X (pw_g h13 17) (pw_g h13 18)) (y := po_Y (pw_g h13 17)) (by omega)
                have t1 := pw_tdB (a := po_X (pw_g h13 17) (pw_g h13 18)) (b := pw_gd (po_X (pw_g h13 17) (pw_g h13 18)) (po_Y (pw_g h13 17))) (A := 16384) (by omega) (by omega) (by omega)
                have t2 := pw_tdB (a := po_Y (pw_g h13 17)) (b := pw_gd (po_X (pw_g h13 17) (pw_g h13 18)) (po_Y (pw_g h13 17))) (A := 16384) (by omega) (by omega) (by omega)
                have d0 := hqde.1
                have d1 := hqde.2
                refine pw_ld E (pc' := 73) (st' := [.ref 16]) rfl (fun _ => rfl) ?_
                refine pw_getR (b := 38) h35I E (c := 0) (k := 8) (pc' := 76) rfl rfl rfl rfl rfl rfl rfl ?_
                refine pw_ld E (pc' := 77) (st' := [pw_i wt, .ref 38]) rfl (fun _ => rfl) ?_
                obtain ⟨f37l, f37h, -⟩ := pw_obj (c := 22) h35I rfl
                refine pw_call (m' := 9) (As := [.ref 38, pw_i wt]) (rest := []) (ls'' := [some (.ref 38), some (pw_i wt)]) (Nat.le_trans (by decide) hd) E rfl (fun _ => pw_iV rfl rfl rfl rfl (pw_cellI f37h rfl)) (rfl : pm_ent 9 = some (2, 2, 1, 2, pmc_9)) rfl rfl (cm_9_22g (pw_dp hd (by decide)) h35I (wt) (by omega) (by omega) (by omega) (by omega) (by omega) (by omega)) ?_
                rintro u39 v38 ⟨rfl, x40, rfl, hx40a, hx40b, hx40r⟩
                refine ⟨_, rfl, ?_⟩
                show pw X d h35 136 80 [some (.ref 16), some (pw_i b), some (pw_i e), some (pw_i wt)] [.long (Int64.ofInt x40)] _
                change (wt = 0 → x40 = pw_gm h35 22 0) ∧ (wt ≠ 0 → x40 = pw_gm h35 22 1) at hx40r
                refine pw_lret E rfl ?_
                have hp9 := pv_pick d0 d1 hx40r
                rw [hcg.2.1, hcg.2.2] at hp9
                exact ⟨h35I, h35F, ⟨_, rfl, by omega, by omega, Or.inl ⟨⟨by omega, eOK.mp (hx18r.resolve_left (fun q => by have := q.1; omega)).2, by rw [← hcg.1]; unfold po_A; omega⟩, hp9⟩⟩⟩
              · intro hc41
                change ¬ (x28 + x32 ≤ (14 : Int)) at hc41
                refine pw_ld E (pc' := 60) (st' := [.long (Int64.ofInt ((-1)))]) rfl (fun _ => rfl) ?_
                refine pw_lret E rfl ?_
                exact ⟨h13I, h13F, ⟨_, rfl, by omega, by omega, Or.inr ⟨fun q => by have q3 := q.2.2; rw [← hcg.1] at q3; unfold po_A at q3; omega, rfl⟩⟩⟩
        · intro hc42
          change ¬ (x9 ≠ (0 : Int)) at hc42
          exfalso; omega
      · skip
        refine pw_if E (pc' := 19) rfl (by decide) (by omega) (by omega) ?_ ?_
        · intro hc44
          change x9 ≠ (0 : Int) at hc44
          exfalso; omega
        · intro hc45
          change ¬ (x9 ≠ (0 : Int)) at hc45
          refine pw_ld E (pc' := 18) (st' := [.long (Int64.ofInt ((-1)))]) rfl (fun _ => rfl) ?_
          refine pw_lret E rfl ?_
          exact ⟨I, E0, ⟨_, rfl, by omega, by omega, Or.inr ⟨fun q => by have q1 := q.1; omega, rfl⟩⟩⟩
  · skip
    refine pw_if E (pc' := 15) rfl (by decide) (by omega) (by omega) ?_ ?_
    · intro hc47
      change x3 = (0 : Int) at hc47
      refine pw_ld E (pc' := 18) (st' := [.long (Int64.ofInt ((-1)))]) rfl (fun _ => rfl) ?_
      refine pw_lret E rfl ?_
      exact ⟨I, E0, ⟨_, rfl, by omega, by omega, Or.inr ⟨fun q => by have q1 := q.1; omega, rfl⟩⟩⟩
    · intro hc48
      change ¬ (x3 = (0 : Int)) at hc48
      exfalso; omega
end
