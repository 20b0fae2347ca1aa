section
/-! the model's sums, exactly (printed by wip/tool/mmsum.py) -/
theorem pv_okD {n0 n1 a : Int} (h0 : 0 ≤ n0) (h1 : 0 ≤ n1) (r : (a = 1 ∧ 0 < n0 * n1) ∨ (a = 0 ∧ n0 * n1 ≤ 0)) : (a = 1 ∧ (1 ≤ n0 ∧ 1 ≤ n1)) ∨ (a = 0 ∧ ¬ (1 ≤ n0 ∧ 1 ≤ n1)) := by
  rcases r with ⟨r1, r2⟩ | ⟨r1, r2⟩
  · refine Or.inl ⟨r1, ?_⟩
    rcases (by omega : n0 = 0 ∨ n1 = 0 ∨ (1 ≤ n0 ∧ 1 ≤ n1)) with q | q | q
    · rw [q, Int.zero_mul] at r2; omega
    · rw [q, Int.mul_zero] at r2; omega
    · exact q
  · refine Or.inr ⟨r1, fun q => ?_⟩
    have := pw_mulB (a := n0) (b := n1) (A := n0) (B := n1) h0 (Int.le_refl _) h1 (Int.le_refl _)
    have := this.2.2 q.1 q.2
    omega
theorem pv_loI {sd : Nat → Int} {wo k : Int} (hk : 0 ≤ k) : (k = wo → pv_lo sd wo k.toNat = -1) ∧ (k ≠ wo → pv_lo sd wo k.toNat = sd k.toNat) := by
  unfold pv_lo
  rw [show ((k.toNat : Nat) : Int) = k by omega]
  exact ⟨fun q => if_pos q, fun q => if_neg q⟩
theorem pv_hmB {w g t : Int} (h1 : 0 ≤ w) (h2 : w ≤ 99) (h3 : 0 ≤ g) (h4 : g ≤ 99) (h5 : 0 ≤ t) (h6 : t ≤ 10) : 0 ≤ pw_hm w g t ∧ pw_hm w g t ≤ 2000 := by
  unfold pw_hm
  have := pw_mulB (a := t) (b := g) (A := 10) (B := 99) h5 h6 h3 h4
  omega
/-- the sides by calls, of the model -/
def pv_sdm (h : pm_H) (b e : Int) (k : Nat) : Int := if pw_g h 131 k ≠ 0 ∧ pw_g h 138 (12 * (k : Int) + b).toNat ≠ 0 ∧ pw_g h 138 (12 * (k : Int) + e).toNat ≠ 0 then pw_g h 132 k else -1
def pv_hmk (h : pm_H) (mo : Int) (k : Int) : Int := pw_hm (pw_g h 139 (12 * k + mo).toNat) (pw_g h 140 (12 * k + mo).toNat) (pw_g h 125 15)
def pv_chm (h : pm_H) (b e : Int) (k : Nat) : Int := pv_hmk h e k - pv_hmk h b k
theorem pv_sdmI {h : pm_H} {b e k : Int} (hk : 0 ≤ k) : ((pw_g h 131 k.toNat ≠ 0 ∧ pw_g h 138 (12 * k + b).toNat ≠ 0 ∧ pw_g h 138 (12 * k + e).toNat ≠ 0) → pv_sdm h b e k.toNat = pw_g h 132 k.toNat) ∧ (¬ (pw_g h 131 k.toNat ≠ 0 ∧ pw_g h 138 (12 * k + b).toNat ≠ 0 ∧ pw_g h 138 (12 * k + e).toNat ≠ 0) → pv_sdm h b e k.toNat = -1) := by
  unfold pv_sdm
  rw [show ((k.toNat : Nat) : Int) = k by omega]
  exact ⟨fun q => if_pos q, fun q => if_neg q⟩
theorem pv_chmI {h : pm_H} {b e k : Int} (hk : 0 ≤ k) : pv_chm h b e k.toNat = pv_hmk h e k - pv_hmk h b k := by
  unfold pv_chm
  rw [show ((k.toNat : Nat) : Int) = k by omega]
theorem pv_hmkB {h : pm_H} {mo k : Int} (I : pw_I h) (h0 : 0 ≤ mo) (h1 : mo ≤ 11) (h2 : 0 ≤ k) (h3 : k ≤ 23) : 0 ≤ pv_hmk h mo k ∧ pv_hmk h mo k ≤ 2000 := by
  have t := pw_gI (c := 125) (k := 15) I rfl rfl
  have v1 := pw_gA (c := 139) (j := 12 * k + mo) I rfl (by decide) (by omega) (by omega)
  have v2 := pw_gA (c := 140) (j := 12 * k + mo) I rfl (by decide) (by omega) (by omega)
  exact pv_hmB (by omega) (by omega) (by omega) (by omega) (by omega) (by omega)
theorem pv_chmB {h : pm_H} {b e : Int} (I : pw_I h) (hb0 : 0 ≤ b) (hb1 : b ≤ 11) (he0 : 0 ≤ e) (he1 : e ≤ 11) : ∀ k : Nat, k < 24 → -2000 ≤ pv_chm h b e k ∧ pv_chm h b e k ≤ 2000 := by
  intro k hk
  unfold pv_chm
  have w1 := pv_hmkB (k := k) I hb0 hb1 (by omega) (by omega)
  have w2 := pv_hmkB (k := k) I he0 he1 (by omega) (by omega)
  omega
theorem pv_UB {sd ch : Nat → Int} (hb : ∀ k : Nat, k < 24 → -2000 ≤ ch k ∧ ch k ≤ 2000) : -2304000 ≤ pv_U sd ch ∧ pv_U sd ch ≤ 2304000 ∧ 0 ≤ pv_D sd ∧ pv_D sd ≤ 576 ∧ (pv_OK sd → 1 ≤ pv_D sd) := by
  have n0 := pv_NB (sd := sd) (s := 0) 24
  have n1 := pv_NB (sd := sd) (s := 1) 24
  have s0 := pv_SB (sd := sd) (ch := ch) (s := 0) 24 (fun k hk _ => hb k hk)
  have s1 := pv_SB (sd := sd) (ch := ch) (s := 1) 24 (fun k hk _ => hb k hk)
  have m0 := pw_mulS (a := pv_S sd ch 0 24) (b := pv_N sd 1 24) (A := 48000) (B := 24) (by omega) (by omega) (by omega) (by omega)
  have m1 := pw_mulS (a := pv_S sd ch 1 24) (b := pv_N sd 0 24) (A := 48000) (B := 24) (by omega) (by omega) (by omega) (by omega)
  have m2 := pw_mulB (a := pv_N sd 0 24) (b := pv_N sd 1 24) (A := 24) (B := 24) (by omega) (by omega) (by omega) (by omega)
  unfold pv_U pv_D pv_OK
  exact ⟨by omega, by omega, by omega, by omega, fun q => m2.2.2 q.1 q.2⟩

set_option maxHeartbeats 4000000 in
theorem cm_131_s {X : List (Nat × List Value)} {d : Nat} {h : pm_H} (hd : 3 ≤ d) (I : pw_I h) (b : Int) (hb1 : (-2147483648) ≤ b) (hb2 : b ≤ 2147483647) (e : Int) (he1 : (-2147483648) ≤ e) (he2 : e ≤ 2147483647) : pw X d h 131 0 [some (pw_i b), some (pw_i e)] [] (fun h' v => h = h' ∧ ∃ a : Int, v = .inl (some (pw_i a)) ∧ 0 ≤ a ∧ a ≤ 1 ∧ ((a = 1 ∧ 0 ≤ b ∧ b ≤ 11 ∧ 0 ≤ e ∧ e ≤ 11 ∧ b ≠ e) ∨ (a = 0 ∧ ¬ (0 ≤ b ∧ b ≤ 11 ∧ 0 ≤ e ∧ e ≤ 11 ∧ b ≠ e)))) := by
  have E : pm_ent 131 = some (2, 2, 11, 1, pmc_131) := rfl
  refine pw_ld E (pc' := 1) (st' := [pw_i b]) rfl (fun _ => rfl) ?_
  refine pw_call (m' := 125) (As := [pw_i b]) (rest := []) (ls'' := [some (pw_i b)]) (Nat.le_trans (by decide) hd) E rfl (fun _ => pw_iS rfl rfl rfl) (rfl : pm_ent 125 = some (1, 1, 11, 1, pmc_125)) rfl rfl (cm_125 (pw_dp hd (by decide)) I (b) (by omega) (by omega)) ?_
  rintro u2 v1 ⟨rfl, x3, rfl, hx3a, hx3b, hx3r⟩
  refine ⟨_, rfl, ?_⟩
  show pw X d h 131 4 [some (pw_i b), some (pw_i e)] [pw_i x3] _
  change (x3 = 1 ∧ 0 ≤ b ∧ b ≤ 11) ∨ (x3 = 0 ∧ ¬ (0 ≤ b ∧ b ≤ 11)) at hx3r
  rcases (by omega : x3 = 1 ∨ x3 = 0) with hb4 | hb4
  · skip
    refine pw_if E (pc' := 23) rfl (by decide) (by omega) (by omega) ?_ ?_
    · intro hc5
      change x3 = (0 : Int) at hc5
      exfalso; omega
    · intro hc6
      change ¬ (x3 = (0 : Int)) at hc6
      refine pw_ld E (pc' := 8) (st' := [pw_i e]) rfl (fun _ => rfl) ?_
      refine pw_call (m' := 125) (As := [pw_i e]) (rest := []) (ls'' := [some (pw_i e)]) (Nat.le_trans (by decide) hd) E rfl (fun _ => pw_iS rfl rfl rfl) (rfl : pm_ent 125 = some (1, 1, 11, 1, pmc_125)) rfl rfl (cm_125 (pw_dp hd (by decide)) I (e) (by omega) (by omega)) ?_
      rintro u8 v7 ⟨rfl, x9, rfl, hx9a, hx9b, hx9r⟩
      refine ⟨_, rfl, ?_⟩
      show pw X d h 131 11 [some (pw_i b), some (pw_i e)] [pw_i x9] _
      change (x9 = 1 ∧ 0 ≤ e ∧ e ≤ 11) ∨ (x9 = 0 ∧ ¬ (0 ≤ e ∧ e ≤ 11)) at hx9r
      rcases (by omega : x9 = 1 ∨ x9 = 0) with hb10 | hb10
      · skip
        refine pw_if E (pc' := 23) rfl (by decide) (by omega) (by omega) ?_ ?_
        · intro hc11
          change x9 = (0 : Int) at hc11
          exfalso; omega
        · intro hc12
          change ¬ (x9 = (0 : Int)) at hc12
          refine pw_ld E (pc' := 15) (st' := [pw_i b]) rfl (fun _ => rfl) ?_
          refine pw_ld E (pc' := 16) (st' := [pw_i e, pw_i b]) rfl (fun _ => rfl) ?_
          refine pw_if2 E (pc' := 23) rfl (by decide) (by omega) (by omega) (by omega) (by omega) ?_ ?_
          · intro hc13
            change b = e at hc13
            refine pw_ld E (pc' := 24) (st' := [pw_i 0]) rfl (fun _ => rfl) ?_
            refine pw_zret E rfl (by omega) ?_
            exact ⟨rfl, ⟨_, rfl, by omega, by omega, by omega⟩⟩
          · intro hc14
            change ¬ (b = e) at hc14
            refine pw_ld E (pc' := 20) (st' := [pw_i 1]) rfl (fun _ => rfl) ?_
            refine pw_goto E (pc' := 24) rfl (by decide) ?_
            refine pw_zret E rfl (by omega) ?_
            exact ⟨rfl, ⟨_, rfl, by omega, by omega, by omega⟩⟩
      · skip
        refine pw_if E (pc' := 23) rfl (by decide) (by omega) (by omega) ?_ ?_
        · intro hc16
          change x9 = (0 : Int) at hc16
          refine pw_ld E (pc' := 24) (st' := [pw_i 0]) rfl (fun _ => rfl) ?_
          refine pw_zret E rfl (by omega) ?_
          exact ⟨rfl, ⟨_, rfl, by omega, by omega, by omega⟩⟩
        · intro hc17
          change ¬ (x9 = (0 : Int)) at hc17
          exfalso; omega
  · skip
    refine pw_if E (pc' := 23) rfl (by decide) (by omega) (by omega) ?_ ?_
    · intro hc19
      change x3 = (0 : Int) at hc19
      refine pw_ld E (pc' := 24) (st' := [pw_i 0]) rfl (fun _ => rfl) ?_
      refine pw_zret E rfl (by omega) ?_
      exact ⟨rfl, ⟨_, rfl, by omega, by omega, by omega⟩⟩
    · intro hc20
      change ¬ (x3 = (0 : Int)) at hc20
      exfalso; omega
set_option maxHeartbeats 4000000 in
theorem cm_213_s {X : List (Nat × List Value)} {d : Nat} {h : pm_H} (hd : 3 ≤ d) (I : pw_I h) (b : Int) (hb1 : (-2147483648) ≤ b) (hb2 : b ≤ 2147483647) (e : Int) (he1 : (-2147483648) ≤ e) (he2 : e ≤ 2147483647) : pw X d h 213 0 [some (pw_i b), some (pw_i e)] [] (fun h' v => h = h' ∧ ∃ a : Int, v = .inl (some (pw_i a)) ∧ 0 ≤ a ∧ a ≤ 1 ∧ ((a = 1 ∧ 0 ≤ b ∧ b ≤ 11 ∧ 0 ≤ e ∧ e ≤ 11 ∧ b ≠ e) ∨ (a = 0 ∧ ¬ (0 ≤ b ∧ b ≤ 11 ∧ 0 ≤ e ∧ e ≤ 11 ∧ b ≠ e)))) := by
  have E : pm_ent 213 = some (2, 2, 12, 1, pmc_213) := rfl
  refine pw_ld E (pc' := 1) (st' := [pw_i b]) rfl (fun _ => rfl) ?_
  refine pw_call (m' := 205) (As := [pw_i b]) (rest := []) (ls'' := [some (pw_i b)]) (Nat.le_trans (by decide) hd) E rfl (fun _ => pw_iS rfl rfl rfl) (rfl : pm_ent 205 = some (1, 1, 12, 1, pmc_205)) rfl rfl (cm_205 (pw_dp hd (by decide)) I (b) (by omega) (by omega)) ?_
  rintro u2 v1 ⟨rfl, x3, rfl, hx3a, hx3b, hx3r⟩
  refine ⟨_, rfl, ?_⟩
  show pw X d h 213 4 [some (pw_i b), some (pw_i e)] [pw_i x3] _
  change (x3 = 1 ∧ 0 ≤ b ∧ b ≤ 11) ∨ (x3 = 0 ∧ ¬ (0 ≤ b ∧ b ≤ 11)) at hx3r
  rcases (by omega : x3 = 1 ∨ x3 = 0) with hb4 | hb4
  · skip
    refine pw_if E (pc' := 23) rfl (by decide) (by omega) (by omega) ?_ ?_
    · intro hc5
      change x3 = (0 : Int) at hc5
      exfalso; omega
    · intro hc6
      change ¬ (x3 = (0 : Int)) at hc6
      refine pw_ld E (pc' := 8) (st' := [pw_i e]) rfl (fun _ => rfl) ?_
      refine pw_call (m' := 205) (As := [pw_i e]) (rest := []) (ls'' := [some (pw_i e)]) (Nat.le_trans (by decide) hd) E rfl (fun _ => pw_iS rfl rfl rfl) (rfl : pm_ent 205 = some (1, 1, 12, 1, pmc_205)) rfl rfl (cm_205 (pw_dp hd (by decide)) I (e) (by omega) (by omega)) ?_
      rintro u8 v7 ⟨rfl, x9, rfl, hx9a, hx9b, hx9r⟩
      refine ⟨_, rfl, ?_⟩
      show pw X d h 213 11 [some (pw_i b), some (pw_i e)] [pw_i x9] _
      change (x9 = 1 ∧ 0 ≤ e ∧ e ≤ 11) ∨ (x9 = 0 ∧ ¬ (0 ≤ e ∧ e ≤ 11)) at hx9r
      rcases (by omega : x9 = 1 ∨ x9 = 0) with hb10 | hb10
      · skip
        refine pw_if E (pc' := 23) rfl (by decide) (by omega) (by omega) ?_ ?_
        · intro hc11
          change x9 = (0 : Int) at hc11
          exfalso; omega
        · intro hc12
          change ¬ (x9 = (0 : Int)) at hc12
          refine pw_ld E (pc' := 15) (st' := [pw_i b]) rfl (fun _ => rfl) ?_
          refine pw_ld E (pc' := 16) (st' := [pw_i e, pw_i b]) rfl (fun _ => rfl) ?_
          refine pw_if2 E (pc' := 23) rfl (by decide) (by omega) (by omega) (by omega) (by omega) ?_ ?_
          · intro hc13
            change b = e at hc13
            refine pw_ld E (pc' := 24) (st' := [pw_i 0]) rfl (fun _ => rfl) ?_
            refine pw_zret E rfl (by omega) ?_
            exact ⟨rfl, ⟨_, rfl, by omega, by omega, by omega⟩⟩
          · intro hc14
            change ¬ (b = e) at hc14
            refine pw_ld E (pc' := 20) (st' := [pw_i 1]) rfl (fun _ => rfl) ?_
            refine pw_goto E (pc' := 24) rfl (by decide) ?_
            refine pw_zret E rfl (by omega) ?_
            exact ⟨rfl, ⟨_, rfl, by omega, by omega, by omega⟩⟩
      · skip
        refine pw_if E (pc' := 23) rfl (by decide) (by omega) (by omega) ?_ ?_
        · intro hc16
          change x9 = (0 : Int) at hc16
          refine pw_ld E (pc' := 24) (st' := [pw_i 0]) rfl (fun _ => rfl) ?_
          refine pw_zret E rfl (by omega) ?_
          exact ⟨rfl, ⟨_, rfl, by omega, by omega, by omega⟩⟩
        · intro hc17
          change ¬ (x9 = (0 : Int)) at hc17
          exfalso; omega
  · skip
    refine pw_if E (pc' := 23) rfl (by decide) (by omega) (by omega) ?_ ?_
    · intro hc19
      change x3 = (0 : Int) at hc19
      refine pw_ld E (pc' := 24) (st' := [pw_i 0]) rfl (fun _ => rfl) ?_
      refine pw_zret E rfl (by omega) ?_
      exact ⟨rfl, ⟨_, rfl, by omega, by omega, by omega⟩⟩
    · intro hc20
      change ¬ (x3 = (0 : Int)) at hc20
      exfalso; omega
set_option maxHeartbeats 4000000 in
theorem cm_214_s {X : List (Nat × List Value)} {d : Nat} {h : pm_H} (hd : 1 ≤ d) (I : pw_I h) (k : Int) (hk1 : 0 ≤ k) (hk2 : k ≤ 23) (b : Int) (hb1 : 0 ≤ b) (hb2 : b ≤ 11) (e : Int) (he1 : 0 ≤ e) (he2 : e ≤ 11) : pw X d h 214 0 [some (.ref 141), some (pw_i k), some (pw_i b), some (pw_i e)] [] (fun h' v => h = h' ∧ ∃ a : Int, v = .inl (some (pw_i a)) ∧ 0 ≤ a ∧ a ≤ 1 ∧ ((a = 1 ∧ pw_g h 131 k.toNat ≠ 0 ∧ pw_g h 138 (12 * k + b).toNat ≠ 0 ∧ pw_g h 138 (12 * k + e).toNat ≠ 0) ∨ (a = 0 ∧ ¬ (pw_g h 131 k.toNat ≠ 0 ∧ pw_g h 138 (12 * k + b).toNat ≠ 0 ∧ pw_g h 138 (12 * k + e).toNat ≠ 0)))) := by
  have E : pm_ent 214 = some (4, 4, 12, 1, pmc_214) := rfl
  refine pw_ld E (pc' := 1) (st' := [.ref 141]) rfl (fun _ => rfl) ?_
  refine pw_getR (b := 147) I E (c := 125) (k := 10) (pc' := 4) rfl rfl rfl rfl rfl rfl rfl ?_
  refine pw_ld E (pc' := 5) (st' := [pw_i k, .ref 147]) rfl (fun _ => rfl) ?_
  refine pw_ald2 I E (c := 131) (pc' := 6) rfl rfl rfl (by decide) rfl (by decide) (by omega) (by omega) rfl (fun hf1a hf1b => ?_)
  refine pw_if E (pc' := 41) rfl (by decide) (by omega) (by omega) ?_ ?_
  · intro hc2
    change pw_g h 131 (k.toNat) = (0 : Int) at hc2
    refine pw_ld E (pc' := 42) (st' := [pw_i 0]) rfl (fun _ => rfl) ?_
    refine pw_zret E rfl (by omega) ?_
    exact ⟨rfl, ⟨_, rfl, by omega, by omega, by omega⟩⟩
  · intro hc3
    change ¬ (pw_g h 131 (k.toNat) = (0 : Int)) at hc3
    refine pw_ld E (pc' := 10) (st' := [.ref 141]) rfl (fun _ => rfl) ?_
    refine pw_getR (b := 154) I E (c := 125) (k := 18) (pc' := 13) rfl rfl rfl rfl rfl rfl rfl ?_
    refine pw_bip E (pc' := 15) rfl rfl (by decide) ?_
    refine pw_ld E (pc' := 16) (st' := [pw_i k, pw_i 12, .ref 154]) rfl (fun _ => rfl) ?_
    refine pw_mul E (pc' := 17) rfl rfl ?_
    refine pw_ld E (pc' := 18) (st' := [pw_i b, pw_i (12 * k), .ref 154]) rfl (fun _ => rfl) ?_
    refine pw_add E (pc' := 19) rfl rfl ?_
    refine pw_ald2 I E (c := 138) (pc' := 20) rfl rfl rfl (by decide) rfl (by decide) (by omega) (by omega) rfl (fun hf4a hf4b => ?_)
    refine pw_if E (pc' := 41) rfl (by decide) (by omega) (by omega) ?_ ?_
    · intro hc5
      change pw_g h 138 (((12 * k) + b).toNat) = (0 : Int) at hc5
      refine pw_ld E (pc' := 42) (st' := [pw_i 0]) rfl (fun _ => rfl) ?_
      refine pw_zret E rfl (by omega) ?_
      exact ⟨rfl, ⟨_, rfl, by omega, by omega, by omega⟩⟩
    · intro hc6
      change ¬ (pw_g h 138 (((12 * k) + b).toNat) = (0 : Int)) at hc6
      refine pw_ld E (pc' := 24) (st' := [.ref 141]) rfl (fun _ => rfl) ?_
      refine pw_getR (b := 154) I E (c := 125) (k := 18) (pc' := 27) rfl rfl rfl rfl rfl rfl rfl ?_
      refine pw_bip E (pc' := 29) rfl rfl (by decide) ?_
      refine pw_ld E (pc' := 30) (st' := [pw_i k, pw_i 12, .ref 154]) rfl (fun _ => rfl) ?_
      refine pw_mul E (pc' := 31) rfl rfl ?_
      refine pw_ld E (pc' := 32) (st' := [pw_i e, pw_i (12 * k), .ref 154]) rfl (fun _ => rfl) ?_
      refine pw_add E (pc' := 33) rfl rfl ?_
      refine pw_ald2 I E (c := 138) (pc' := 34) rfl rfl rfl (by decide) rfl (by decide) (by omega) (by omega) rfl (fun hf7a hf7b => ?_)
      refine pw_if E (pc' := 41) rfl (by decide) (by omega) (by omega) ?_ ?_
      · intro hc8
        change pw_g h 138 (((12 * k) + e).toNat) = (0 : Int) at hc8
        refine pw_ld E (pc' := 42) (st' := [pw_i 0]) rfl (fun _ => rfl) ?_
        refine pw_zret E rfl (by omega) ?_
        exact ⟨rfl, ⟨_, rfl, by omega, by omega, by omega⟩⟩
      · intro hc9
        change ¬ (pw_g h 138 (((12 * k) + e).toNat) = (0 : Int)) at hc9
        refine pw_ld E (pc' := 38) (st' := [pw_i 1]) rfl (fun _ => rfl) ?_
        refine pw_goto E (pc' := 42) rfl (by decide) ?_
        refine pw_zret E rfl (by omega) ?_
        exact ⟨rfl, ⟨_, rfl, by omega, by omega, by omega⟩⟩
set_option maxHeartbeats 4000000 in
theorem cm_215_s {X : List (Nat × List Value)} {d : Nat} {h : pm_H} (hd : 3 ≤ d) (I : pw_I h) (k : Int) (hk1 : 0 ≤ k) (hk2 : k ≤ 23) (b : Int) (hb1 : 0 ≤ b) (hb2 : b ≤ 11) (e : Int) (he1 : 0 ≤ e) (he2 : e ≤ 11) : pw X d h 215 0 [some (.ref 141), some (pw_i k), some (pw_i b), some (pw_i e)] [] (fun h' v => h = h' ∧ ∃ a : Int, v = .inl (some (pw_i a)) ∧ (-2000) ≤ a ∧ a ≤ 2000 ∧ (a = pv_hmk h e k - pv_hmk h b k)) := by
  have E : pm_ent 215 = some (4, 4, 12, 0, pmc_215) := rfl
  refine pw_ld E (pc' := 1) (st' := [.ref 141]) rfl (fun _ => rfl) ?_
  refine pw_ld E (pc' := 2) (st' := [pw_i k, .ref 141]) rfl (fun _ => rfl) ?_
  refine pw_ld E (pc' := 3) (st' := [pw_i e, pw_i k, .ref 141]) rfl (fun _ => rfl) ?_
  obtain ⟨f1l, f1h, -⟩ := pw_obj (c := 125) I rfl
  refine pw_call (m' := 210) (As := [.ref 141, pw_i k, pw_i e]) (rest := []) (ls'' := [some (.ref 141), some (pw_i k), some (pw_i e)]) (Nat.le_trans (by decide) hd) E rfl (fun _ => pw_iV rfl rfl rfl rfl (pw_cellI f1h rfl)) (rfl : pm_ent 210 = some (3, 3, 12, 0, pmc_210)) rfl rfl (cm_210_h (pw_dp hd (by decide)) I (k) (by omega) (by omega) (e) (by omega) (by omega)) ?_
  rintro u3 v2 ⟨rfl, x4, rfl, hx4a, hx4b, hx4r⟩
  refine ⟨_, rfl, ?_⟩
  show pw X d h 215 6 [some (.ref 141), some (pw_i k), some (pw_i b), some (pw_i e)] [pw_i x4] _
  change x4 = 10 * pw_g h 139 (12 * k + e).toNat + pw_g h 125 15 * pw_g h 140 (12 * k + e).toNat at hx4r
  refine pw_ld E (pc' := 7) (st' := [.ref 141, pw_i x4]) rfl (fun _ => rfl) ?_
  refine pw_ld E (pc' := 8) (st' := [pw_i k, .ref 141, pw_i x4]) rfl (fun _ => rfl) ?_
  refine pw_ld E (pc' := 9) (st' := [pw_i b, pw_i k, .ref 141, pw_i x4]) rfl (fun _ => rfl) ?_
  obtain ⟨f5l, f5h, -⟩ := pw_obj (c := 125) I rfl
  refine pw_call (m' := 210) (As := [.ref 141, pw_i k, pw_i b]) (rest := [pw_i x4]) (ls'' := [some (.ref 141), some (pw_i k), some (pw_i b)]) (Nat.le_trans (by decide) hd) E rfl (fun _ => pw_iV rfl rfl rfl rfl (pw_cellI f5h rfl)) (rfl : pm_ent 210 = some (3, 3, 12, 0, pmc_210)) rfl rfl (cm_210_h (pw_dp hd (by decide)) I (k) (by omega) (by omega) (b) (by omega) (by omega)) ?_
  rintro u7 v6 ⟨rfl, x8, rfl, hx8a, hx8b, hx8r⟩
  refine ⟨_, rfl, ?_⟩
  show pw X d h 215 12 [some (.ref 141), some (pw_i k), some (pw_i b), some (pw_i e)] [pw_i x8, pw_i x4] _
  change x8 = 10 * pw_g h 139 (12 * k + b).toNat + pw_g h 125 15 * pw_g h 140 (12 * k + b).toNat at hx8r
  refine pw_sub E (pc' := 13) rfl rfl ?_
  refine pw_iret E rfl ?_
  exact ⟨rfl, ⟨_, rfl, by omega, by omega, by rw [hx4r, hx8r]; rfl⟩⟩
set_option maxHeartbeats 4000000 in
theorem cm_219_s {X : List (Nat × List Value)} {d : Nat} {h : pm_H} (hd : 1 ≤ d) (I : pw_I h)  : pw X d h 219 0 [some (.ref 141)] [] (fun h' v => pw_I h' ∧ pw_E [125] h h' ∧ (pw_gm h' 125 26 = 0 ∧ pw_gm h' 125 27 = 0 ∧ pw_gm h' 125 28 = 0 ∧ pw_gm h' 125 29 = 0) ∧ (v = .inl none)) := by
  have E : pm_ent 219 = some (1, 1, 12, 4, pmc_219) := rfl
  have E0 : pw_E [125] h h := pw_E.rf _ _
  refine pw_ld E (pc' := 1) (st' := [.ref 141]) rfl (fun _ => rfl) ?_
  refine pw_ld E (pc' := 2) (st' := [.long (Int64.ofInt 0), .ref 141]) rfl (fun _ => rfl) ?_
  refine pw_putL I E (c := 125) (k := 26) (pc' := 5) rfl rfl rfl rfl rfl rfl ?_
  intro h1I h1E
  generalize h1w : pw_w h 125 26 (.long (Int64.ofInt 0)) = h1 at h1I h1E ⊢
  have h1F := E0.tr (h1E.wk (W' := [125]) (by first | rfl | simp))
  refine pw_ld E (pc' := 6) (st' := [.ref 141]) rfl (fun _ => rfl) ?_
  refine pw_ld E (pc' := 7) (st' := [.long (Int64.ofInt 0), .ref 141]) rfl (fun _ => rfl) ?_
  refine pw_putM h1I E (c := 125) (k := 27) (pc' := 10) rfl rfl rfl rfl (by omega) (by omega) (by omega) (by omega) rfl rfl ?_
  intro h2I h2E
  generalize h2w : pw_w h1 125 27 (.long (Int64.ofInt 0)) = h2 at h2I h2E ⊢
  have h2F := h1F.tr (h2E.wk (W' := [125]) (by first | rfl | simp))
  refine pw_ld E (pc' := 11) (st' := [.ref 141]) rfl (fun _ => rfl) ?_
  refine pw_ld E (pc' := 12) (st' := [.long (Int64.ofInt 0), .ref 141]) rfl (fun _ => rfl) ?_
  refine pw_putL h2I E (c := 125) (k := 28) (pc' := 15) rfl rfl rfl rfl rfl rfl ?_
  intro h3I h3E
  generalize h3w : pw_w h2 125 28 (.long (Int64.ofInt 0)) = h3 at h3I h3E ⊢
  have h3F := h2F.tr (h3E.wk (W' := [125]) (by first | rfl | simp))
  refine pw_ld E (pc' := 16) (st' := [.ref 141]) rfl (fun _ => rfl) ?_
  refine pw_ld E (pc' := 17) (st' := [.long (Int64.ofInt 0), .ref 141]) rfl (fun _ => rfl) ?_
  refine pw_putM h3I E (c := 125) (k := 29) (pc' := 20) rfl rfl rfl rfl (by omega) (by omega) (by omega) (by omega) rfl rfl ?_
  intro h4I h4E
  generalize h4w : pw_w h3 125 29 (.long (Int64.ofInt 0)) = h4 at h4I h4E ⊢
  have h4F := h3F.tr (h4E.wk (W' := [125]) (by first | rfl | simp))
  have he5 : pw_gm h4 125 26 = pw_gm h3 125 26 := by rw [← h4w]; exact pw_gm_ne (by omega)
  have he6 : pw_gm h3 125 26 = pw_gm h2 125 26 := by rw [← h3w]; exact pw_gm_ne (by omega)
  have he7 : pw_gm h2 125 26 = pw_gm h1 125 26 := by rw [← h2w]; exact pw_gm_ne (by omega)
  have he8 : pw_gm h1 125 26 = 0 := by rw [← h1w]; exact pw_gm_eq (c := 125) (k := 26) I rfl rfl (by omega) (by omega)
  have he9 : pw_gm h4 125 27 = pw_gm h3 125 27 := by rw [← h4w]; exact pw_gm_ne (by omega)
  have he10 : pw_gm h3 125 27 = pw_gm h2 125 27 := by rw [← h3w]; exact pw_gm_ne (by omega)
  have he11 : pw_gm h2 125 27 = 0 := by rw [← h2w]; exact pw_gm_eq (c := 125) (k := 27) h1I rfl rfl (by omega) (by omega)
  have he12 : pw_gm h4 125 28 = pw_gm h3 125 28 := by rw [← h4w]; exact pw_gm_ne (by omega)
  have he13 : pw_gm h3 125 28 = 0 := by rw [← h3w]; exact pw_gm_eq (c := 125) (k := 28) h2I rfl rfl (by omega) (by omega)
  have he14 : pw_gm h4 125 29 = 0 := by rw [← h4w]; exact pw_gm_eq (c := 125) (k := 29) h3I rfl rfl (by omega) (by omega)
  refine pw_vret E rfl ?_
  exact ⟨h4I, h4F, ⟨by omega, rfl⟩⟩
set_option maxHeartbeats 4000000 in
theorem cm_220_s {X : List (Nat × List Value)} {d : Nat} {h : pm_H} (hd : 1 ≤ d) (I : pw_I h) (z : Int) (hz1 : 0 ≤ z) (hz2 : z ≤ 1) (ch : Int) (hch1 : (-2000) ≤ ch) (hch2 : ch ≤ 2000) (hp0 : pw_gm h 125 27 + pw_gm h 125 29 ≤ 23) (hp1 : 0 ≤ pw_gm h 125 27) (hp2 : 0 ≤ pw_gm h 125 29) (hp3 : (-48000) ≤ pw_gm h 125 26) (hp4 : pw_gm h 125 26 ≤ 48000) (hp5 : (-48000) ≤ pw_gm h 125 28) (hp6 : pw_gm h 125 28 ≤ 48000) : pw X d h 220 0 [some (.ref 141), some (pw_i z), some (.long (Int64.ofInt ch)), none] [] (fun h' v => pw_I h' ∧ pw_E [125] h h' ∧ ((z = 1 → pw_gm h' 125 26 = pw_gm h 125 26 + ch ∧ pw_gm h' 125 27 = pw_gm h 125 27 + 1 ∧ pw_gm h' 125 28 = pw_gm h 125 28 ∧ pw_gm h' 125 29 = pw_gm h 125 29) ∧ (z = 0 → pw_gm h' 125 26 = pw_gm h 125 26 ∧ pw_gm h' 125 27 = pw_gm h 125 27 ∧ pw_gm h' 125 28 = pw_gm h 125 28 + ch ∧ pw_gm h' 125 29 = pw_gm h 125 29 + 1)) ∧ (v = .inl none)) := by
  have E : pm_ent 220 = some (3, 4, 12, 4, pmc_220) := rfl
  have E0 : pw_E [125] h h := pw_E.rf _ _
  refine pw_ld E (pc' := 1) (st' := [.ref 141]) rfl (fun _ => rfl) ?_
  refine pw_ld E (pc' := 2) (st' := [.ref 141, .ref 141]) rfl (fun _ => rfl) ?_
  refine pw_getLM I E (c := 125) (k := 26) (pc' := 5) rfl rfl rfl rfl rfl rfl ?_
  refine pw_ld E (pc' := 6) (st' := [pw_i z, .long (Int64.ofInt (pw_gm h 125 26)), .ref 141]) rfl (fun _ => rfl) ?_
  refine pw_if E (pc' := 13) rfl (by decide) (by omega) (by omega) ?_ ?_
  · intro hc1
    change z = (0 : Int) at hc1
    refine pw_ld E (pc' := 14) (st' := [.long (Int64.ofInt 0), .long (Int64.ofInt (pw_gm h 125 26)), .ref 141]) rfl (fun _ => rfl) ?_
    refine pw_ladd E (pc' := 15) rfl rfl ?_
    refine pw_putL I E (c := 125) (k := 26) (pc' := 18) rfl rfl rfl rfl rfl rfl ?_
    intro h2I h2E
    generalize h2w : pw_w h 125 26 (.long (Int64.ofInt ((pw_gm h 125 26) + 0))) = h2 at h2I h2E ⊢
    have h2F := E0.tr (h2E.wk (W' := [125]) (by first | rfl | simp))
    refine pw_ld E (pc' := 19) (st' := [.ref 141]) rfl (fun _ => rfl) ?_
    refine pw_ld E (pc' := 20) (st' := [.ref 141, .ref 141]) rfl (fun _ => rfl) ?_
    have he4 : pw_gm h2 125 27 = pw_gm h 125 27 := by rw [← h2w]; exact pw_gm_ne (by omega)
    refine pw_getM h2I E (c := 125) (k := 27) (pc' := 23) rfl rfl rfl rfl rfl rfl (fun hf3a hf3b => ?_)
    refine pw_ld E (pc' := 24) (st' := [pw_i z, .long (Int64.ofInt (pw_gm h2 125 27)), .ref 141]) rfl (fun _ => rfl) ?_
    refine pw_if E (pc' := 31) rfl (by decide) (by omega) (by omega) ?_ ?_
    · intro hc5
      change z = (0 : Int) at hc5
      refine pw_ld E (pc' := 32) (st' := [.long (Int64.ofInt 0), .long (Int64.ofInt (pw_gm h2 125 27)), .ref 141]) rfl (fun _ => rfl) ?_
      refine pw_ladd E (pc' := 33) rfl rfl ?_
      refine pw_putM h2I E (c := 125) (k := 27) (pc' := 36) rfl rfl rfl rfl (by omega) (by omega) (by omega) (by omega) rfl rfl ?_
      intro h6I h6E
      generalize h6w : pw_w h2 125 27 (.long (Int64.ofInt ((pw_gm h2 125 27) + 0))) = h6 at h6I h6E ⊢
      have h6F := h2F.tr (h6E.wk (W' := [125]) (by first | rfl | simp))
      refine pw_ld E (pc' := 37) (st' := [.ref 141]) rfl (fun _ => rfl) ?_
      refine pw_ld E (pc' := 38) (st' := [.ref 141, .ref 141]) rfl (fun _ => rfl) ?_
      have he7 : pw_gm h6 125 28 = pw_gm h2 125 28 := by rw [← h6w]; exact pw_gm_ne (by omega)
      have he8 : pw_gm h2 125 28 = pw_gm h 125 28 := by rw [← h2w]; exact pw_gm_ne (by omega)
      refine pw_getLM h6I E (c := 125) (k := 28) (pc' := 41) rfl rfl rfl rfl rfl rfl ?_
      refine pw_ld E (pc' := 42) (st' := [pw_i z, .long (Int64.ofInt (pw_gm h6 125 28)), .ref 141]) rfl (fun _ => rfl) ?_
      refine pw_if E (pc' := 49) rfl (by decide) (by omega) (by omega) ?_ ?_
      · intro hc9
        change z = (0 : Int) at hc9
        refine pw_ld E (pc' := 50) (st' := [.long (Int64.ofInt ch), .long (Int64.ofInt (pw_gm h6 125 28)), .ref 141]) rfl (fun _ => rfl) ?_
        refine pw_ladd E (pc' := 51) rfl rfl ?_
        refine pw_putL h6I E (c := 125) (k := 28) (pc' := 54) rfl rfl rfl rfl rfl rfl ?_
        intro h10I h10E
        generalize h10w : pw_w h6 125 28 (.long (Int64.ofInt ((pw_gm h6 125 28) + ch))) = h10 at h10I h10E ⊢
        have h10F := h6F.tr (h10E.wk (W' := [125]) (by first | rfl | simp))
        refine pw_ld E (pc' := 55) (st' := [.ref 141]) rfl (fun _ => rfl) ?_
        refine pw_ld E (pc' := 56) (st' := [.ref 141, .ref 141]) rfl (fun _ => rfl) ?_
        have he12 : pw_gm h10 125 29 = pw_gm h6 125 29 := by rw [← h10w]; exact pw_gm_ne (by omega)
        have he13 : pw_gm h6 125 29 = pw_gm h2 125 29 := by rw [← h6w]; exact pw_gm_ne (by omega)
        have he14 : pw_gm h2 125 29 = pw_gm h 125 29 := by rw [← h2w]; exact pw_gm_ne (by omega)
        refine pw_getM h10I E (c := 125) (k := 29) (pc' := 59) rfl rfl rfl rfl rfl rfl (fun hf11a hf11b => ?_)
        refine pw_ld E (pc' := 60) (st' := [pw_i z, .long (Int64.ofInt (pw_gm h10 125 29)), .ref 141]) rfl (fun _ => rfl) ?_
        refine pw_if E (pc' := 67) rfl (by decide) (by omega) (by omega) ?_ ?_
        · intro hc15
          change z = (0 : Int) at hc15
          refine pw_ld E (pc' := 68) (st' := [.long (Int64.ofInt 1), .long (Int64.ofInt (pw_gm h10 125 29)), .ref 141]) rfl (fun _ => rfl) ?_
          refine pw_ladd E (pc' := 69) rfl rfl ?_
          refine pw_putM h10I E (c := 125) (k := 29) (pc' := 72) rfl rfl rfl rfl (by omega) (by omega) (by omega) (by omega) rfl rfl ?_
          intro h16I h16E
          generalize h16w : pw_w h10 125 29 (.long (Int64.ofInt ((pw_gm h10 125 29) + 1))) = h16 at h16I h16E ⊢
          have h16F := h10F.tr (h16E.wk (W' := [125]) (by first | rfl | simp))
          have he17 : pw_gm h16 125 26 = pw_gm h10 125 26 := by rw [← h16w]; exact pw_gm_ne (by omega)
          have he18 : pw_gm h10 125 26 = pw_gm h6 125 26 := by rw [← h10w]; exact pw_gm_ne (by omega)
          have he19 : pw_gm h6 125 26 = pw_gm h2 125 26 := by rw [← h6w]; exact pw_gm_ne (by omega)
          have he20 : pw_gm h2 125 26 = (pw_gm h 125 26) + 0 := by rw [← h2w]; exact pw_gm_eq (c := 125) (k := 26) I rfl rfl (by omega) (by omega)
          have he21 : pw_gm h16 125 27 = pw_gm h10 125 27 := by rw [← h16w]; exact pw_gm_ne (by omega)
          have he22 : pw_gm h10 125 27 = pw_gm h6 125 27 := by rw [← h10w]; exact pw_gm_ne (by omega)
          have he23 : pw_gm h6 125 27 = (pw_gm h2 125 27) + 0 := by rw [← h6w]; exact pw_gm_eq (c := 125) (k := 27) h2I rfl rfl (by omega) (by omega)
          have he24 : pw_gm h16 125 28 = pw_gm h10 125 28 := by rw [← h16w]; exact pw_gm_ne (by omega)
          have he25 : pw_gm h10 125 28 = (pw_gm h6 125 28) + ch := by rw [← h10w]; exact pw_gm_eq (c := 125) (k := 28) h6I rfl rfl (by omega) (by omega)
          have he26 : pw_gm h16 125 29 = (pw_gm h10 125 29) + 1 := by rw [← h16w]; exact pw_gm_eq (c := 125) (k := 29) h10I rfl rfl (by omega) (by omega)
          refine pw_vret E rfl ?_
          exact ⟨h16I, h16F, ⟨⟨fun _ => by omega, fun _ => by omega⟩, rfl⟩⟩
        · intro hc27
          change ¬ (z = (0 : Int)) at hc27
          exfalso; omega
      · intro hc28
        change ¬ (z = (0 : Int)) at hc28
        exfalso; omega
    · intro hc29
      change ¬ (z = (0 : Int)) at hc29
      exfalso; omega
  · intro hc30
    change ¬ (z = (0 : Int)) at hc30
    refine pw_ld E (pc' := 10) (st' := [.long (Int64.ofInt ch), .long (Int64.ofInt (pw_gm h 125 26)), .ref 141]) rfl (fun _ => rfl) ?_
    refine pw_goto E (pc' := 14) rfl (by decide) ?_
    refine pw_ladd E (pc' := 15) rfl rfl ?_
    refine pw_putL I E (c := 125) (k := 26) (pc' := 18) rfl rfl rfl rfl rfl rfl ?_
    intro h31I h31E
    generalize h31w : pw_w h 125 26 (.long (Int64.ofInt ((pw_gm h 125 26) + ch))) = h31 at h31I h31E ⊢
    have h31F := E0.tr (h31E.wk (W' := [125]) (by first | rfl | simp))
    refine pw_ld E (pc' := 19) (st' := [.ref 141]) rfl (fun _ => rfl) ?_
    refine pw_ld E (pc' := 20) (st' := [.ref 141, .ref 141]) rfl (fun _ => rfl) ?_
    have he33 : pw_gm h31 125 27 = pw_gm h 125 27 := by rw [← h31w]; exact pw_gm_ne (by omega)
    refine pw_getM h31I E (c := 125) (k := 27) (pc' := 23) rfl rfl rfl rfl rfl rfl (fun hf32a hf32b => ?_)
    refine pw_ld E (pc' := 24) (st' := [pw_i z, .long (Int64.ofInt (pw_gm h31 125 27)), .ref 141]) rfl (fun _ => rfl) ?_
    refine pw_if E (pc' := 31) rfl (by decide) (by omega) (by omega) ?_ ?_
    · intro hc34
      change z = (0 : Int) at hc34
      exfalso; omega
    · intro hc35
      change ¬ (z = (0 : Int)) at hc35
      refine pw_ld E (pc' := 28) (st' := [.long (Int64.ofInt 1), .long (Int64.ofInt (pw_gm h31 125 27)), .ref 141]) rfl (fun _ => rfl) ?_
      refine pw_goto E (pc' := 32) rfl (by decide) ?_
      refine pw_ladd E (pc' := 33) rfl rfl ?_
      refine pw_putM h31I E (c := 125) (k := 27) (pc' := 36) rfl rfl rfl rfl (by omega) (by omega) (by omega) (by omega) rfl rfl ?_
      intro h36I h36E
      generalize h36w : pw_w h31 125 27 (.long (Int64.ofInt ((pw_gm h31 125 27) + 1))) = h36 at h36I h36E ⊢
      have h36F := h31F.tr (h36E.wk (W' := [125]) (by first | rfl | simp))
      refine pw_ld E (pc' := 37) (st' := [.ref 141]) rfl (fun _ => rfl) ?_
      refine pw_ld E (pc' := 38) (st' := [.ref 141, .ref 141]) rfl (fun _ => rfl) ?_
      have he37 : pw_gm h36 125 28 = pw_gm h31 125 28 := by rw [← h36w]; exact pw_gm_ne (by omega)
      have he38 : pw_gm h31 125 28 = pw_gm h 125 28 := by rw [← h31w]; exact pw_gm_ne (by omega)
      refine pw_getLM h36I E (c := 125) (k := 28) (pc' := 41) rfl rfl rfl rfl rfl rfl ?_
      refine pw_ld E (pc' := 42) (st' := [pw_i z, .long (Int64.ofInt (pw_gm h36 125 28)), .ref 141]) rfl (fun _ => rfl) ?_
      refine pw_if E (pc' := 49) rfl (by decide) (by omega) (by omega) ?_ ?_
      · intro hc39
        change z = (0 : Int) at hc39
        exfalso; omega
      · intro hc40
        change ¬ (z = (0 : Int)) at hc40
        refine pw_ld E (pc' := 46) (st' := [.long (Int64.ofInt 0), .long (Int64.ofInt (pw_gm h36 125 28)), .ref 141]) rfl (fun _ => rfl) ?_
        refine pw_goto E (pc' := 50) rfl (by decide) ?_
        refine pw_ladd E (pc' := 51) rfl rfl ?_
        refine pw_putL h36I E (c := 125) (k := 28) (pc' := 54) rfl rfl rfl rfl rfl rfl ?_
        intro h41I h41E
        generalize h41w : pw_w h36 125 28 (.long (Int64.ofInt ((pw_gm h36 125 28) + 0))) = h41 at h41I h41E ⊢
        have h41F := h36F.tr (h41E.wk (W' := [125]) (by first | rfl | simp))
        refine pw_ld E (pc' := 55) (st' := [.ref 141]) rfl (fun _ => rfl) ?_
        refine pw_ld E (pc' := 56) (st' := [.ref 141, .ref 141]) rfl (fun _ => rfl) ?_
        have he43 : pw_gm h41 125 29 = pw_gm h36 125 29 := by rw [← h41w]; exact pw_gm_ne (by omega)
        have he44 : pw_gm h36 125 29 = pw_gm h31 125 29 := by rw [← h36w]; exact pw_gm_ne (by omega)
        have he45 : pw_gm h31 125 29 = pw_gm h 125 29 := by rw [← h31w]; exact pw_gm_ne (by omega)
        refine pw_getM h41I E (c := 125) (k := 29) (pc' := 59) rfl rfl rfl rfl rfl rfl (fun hf42a hf42b => ?_)
        refine pw_ld E (pc' := 60) (st' := [pw_i z, .long (Int64.ofInt (pw_gm h41 125 29)), .ref 141]) rfl (fun _ => rfl) ?_
        refine pw_if E (pc' := 67) rfl (by decide) (by omega) (by omega) ?_ ?_
        · intro hc46
          change z = (0 : Int) at hc46
          exfalso; omega
        · intro hc47
          change ¬ (z = (0 : Int)) at hc47
          refine pw_ld E (pc' := 64) (st' := [.long (Int64.ofInt 0), .long (Int64.ofInt (pw_gm h41 125 29)), .ref 141]) rfl (fun _ => rfl) ?_
          refine pw_goto E (pc' := 68) rfl (by decide) ?_
          refine pw_ladd E (pc' := 69) rfl rfl ?_
          refine pw_putM h41I E (c := 125) (k := 29) (pc' := 72) rfl rfl rfl rfl (by omega) (by omega) (by omega) (by omega) rfl rfl ?_
          intro h48I h48E
          generalize h48w : pw_w h41 125 29 (.long (Int64.ofInt ((pw_gm h41 125 29) + 0))) = h48 at h48I h48E ⊢
          have h48F := h41F.tr (h48E.wk (W' := [125]) (by first | rfl | simp))
          have he49 : pw_gm h48 125 26 = pw_gm h41 125 26 := by rw [← h48w]; exact pw_gm_ne (by omega)
          have he50 : pw_gm h41 125 26 = pw_gm h36 125 26 := by rw [← h41w]; exact pw_gm_ne (by omega)
          have he51 : pw_gm h36 125 26 = pw_gm h31 125 26 := by rw [← h36w]; exact pw_gm_ne (by omega)
          have he52 : pw_gm h31 125 26 = (pw_gm h 125 26) + ch := by rw [← h31w]; exact pw_gm_eq (c := 125) (k := 26) I rfl rfl (by omega) (by omega)
          have he53 : pw_gm h48 125 27 = pw_gm h41 125 27 := by rw [← h48w]; exact pw_gm_ne (by omega)
          have he54 : pw_gm h41 125 27 = pw_gm h36 125 27 := by rw [← h41w]; exact pw_gm_ne (by omega)
          have he55 : pw_gm h36 125 27 = (pw_gm h31 125 27) + 1 := by rw [← h36w]; exact pw_gm_eq (c := 125) (k := 27) h31I rfl rfl (by omega) (by omega)
          have he56 : pw_gm h48 125 28 = pw_gm h41 125 28 := by rw [← h48w]; exact pw_gm_ne (by omega)
          have he57 : pw_gm h41 125 28 = (pw_gm h36 125 28) + 0 := by rw [← h41w]; exact pw_gm_eq (c := 125) (k := 28) h36I rfl rfl (by omega) (by omega)
          have he58 : pw_gm h48 125 29 = (pw_gm h41 125 29) + 0 := by rw [← h48w]; exact pw_gm_eq (c := 125) (k := 29) h41I rfl rfl (by omega) (by omega)
          refine pw_vret E rfl ?_
          exact ⟨h48I, h48F, ⟨⟨fun _ => by omega, fun _ => by omega⟩, rfl⟩⟩
set_option maxHeartbeats 4000000 in
theorem cm_221_s {X : List (Nat × List Value)} {d : Nat} {h : pm_H} (hd : 1 ≤ d) (I : pw_I h) (hp0 : 0 ≤ pw_gm h 125 27) (hp1 : pw_gm h 125 27 ≤ 24) (hp2 : 0 ≤ pw_gm h 125 29) (hp3 : pw_gm h 125 29 ≤ 24) (hp4 : (-48000) ≤ pw_gm h 125 26) (hp5 : pw_gm h 125 26 ≤ 48000) (hp6 : (-48000) ≤ pw_gm h 125 28) (hp7 : pw_gm h 125 28 ≤ 48000) : pw X d h 221 0 [some (.ref 141)] [] (fun h' v => pw_I h' ∧ pw_E [125] h h' ∧ ∃ a : Int, v = .inl (some (pw_i a)) ∧ 0 ≤ a ∧ a ≤ 1 ∧ (((a = 1 ∧ 0 < pw_gm h 125 27 * pw_gm h 125 29) ∨ (a = 0 ∧ pw_gm h 125 27 * pw_gm h 125 29 ≤ 0)) ∧ pw_gm h' 125 24 = pw_gm h 125 26 * pw_gm h 125 29 - pw_gm h 125 28 * pw_gm h 125 27 ∧ pw_gm h' 125 25 = pw_gm h 125 27 * pw_gm h 125 29 ∧ pw_gm h' 125 26 = pw_gm h 125 26 ∧ pw_gm h' 125 27 = pw_gm h 125 27 ∧ pw_gm h' 125 28 = pw_gm h 125 28 ∧ pw_gm h' 125 29 = pw_gm h 125 29)) := by
  have E : pm_ent 221 = some (1, 1, 12, 1, pmc_221) := rfl
  have E0 : pw_E [125] h h := pw_E.rf _ _
  refine pw_ld E (pc' := 1) (st' := [.ref 141]) rfl (fun _ => rfl) ?_
  refine pw_ld E (pc' := 2) (st' := [.ref 141, .ref 141]) rfl (fun _ => rfl) ?_
  refine pw_getLM I E (c := 125) (k := 26) (pc' := 5) rfl rfl rfl rfl rfl rfl ?_
  refine pw_ld E (pc' := 6) (st' := [.ref 141, .long (Int64.ofInt (pw_gm h 125 26)), .ref 141]) rfl (fun _ => rfl) ?_
  refine pw_getM I E (c := 125) (k := 29) (pc' := 9) rfl rfl rfl rfl rfl rfl (fun hf1a hf1b => ?_)
  have hm2 := pw_mulS (a := pw_gm h 125 26) (b := pw_gm h 125 29) (A := 48000) (B := 24) (by omega) (by omega) (by omega) (by omega)
  refine pw_lmul E (pc' := 10) rfl rfl ?_
  refine pw_ld E (pc' := 11) (st' := [.ref 141, .long (Int64.ofInt ((pw_gm h 125 26) * (pw_gm h 125 29))), .ref 141]) rfl (fun _ => rfl) ?_
  refine pw_getLM I E (c := 125) (k := 28) (pc' := 14) rfl rfl rfl rfl rfl rfl ?_
  refine pw_ld E (pc' := 15) (st' := [.ref 141, .long (Int64.ofInt (pw_gm h 125 28)), .long (Int64.ofInt ((pw_gm h 125 26) * (pw_gm h 125 29))), .ref 141]) rfl (fun _ => rfl) ?_
  refine pw_getM I E (c := 125) (k := 27) (pc' := 18) rfl rfl rfl rfl rfl rfl (fun hf3a hf3b => ?_)
  have hm4 := pw_mulS (a := pw_gm h 125 28) (b := pw_gm h 125 27) (A := 48000) (B := 24) (by omega) (by omega) (by omega) (by omega)
  refine pw_lmul E (pc' := 19) rfl rfl ?_
  refine pw_lsub E (pc' := 20) rfl rfl ?_
  refine pw_putL I E (c := 125) (k := 24) (pc' := 23) rfl rfl rfl rfl rfl rfl ?_
  intro h5I h5E
  generalize h5w : pw_w h 125 24 (.long (Int64.ofInt (((pw_gm h 125 26) * (pw_gm h 125 29)) - ((pw_gm h 125 28) * (pw_gm h 125 27))))) = h5 at h5I h5E ⊢
  have h5F := E0.tr (h5E.wk (W' := [125]) (by first | rfl | simp))
  refine pw_ld E (pc' := 24) (st' := [.ref 141]) rfl (fun _ => rfl) ?_
  refine pw_ld E (pc' := 25) (st' := [.ref 141, .ref 141]) rfl (fun _ => rfl) ?_
  have he7 : pw_gm h5 125 27 = pw_gm h 125 27 := by rw [← h5w]; exact pw_gm_ne (by omega)
  refine pw_getM h5I E (c := 125) (k := 27) (pc' := 28) rfl rfl rfl rfl rfl rfl (fun hf6a hf6b => ?_)
  refine pw_ld E (pc' := 29) (st' := [.ref 141, .long (Int64.ofInt (pw_gm h5 125 27)), .ref 141]) rfl (fun _ => rfl) ?_
  have he9 : pw_gm h5 125 29 = pw_gm h 125 29 := by rw [← h5w]; exact pw_gm_ne (by omega)
  refine pw_getM h5I E (c := 125) (k := 29) (pc' := 32) rfl rfl rfl rfl rfl rfl (fun hf8a hf8b => ?_)
  have hm10 := pw_mulB (a := pw_gm h5 125 27) (b := pw_gm h5 125 29) (A := 24) (B := 24) (by omega) (by omega) (by omega) (by omega)
  refine pw_lmul E (pc' := 33) rfl rfl ?_
  have eD : (pw_gm h5 125 27) * (pw_gm h5 125 29) = pw_gm h 125 27 * pw_gm h 125 29 := by rw [show pw_gm h5 125 27 = pw_gm h 125 27 by omega, show pw_gm h5 125 29 = pw_gm h 125 29 by omega]
  refine pw_putM h5I E (c := 125) (k := 25) (pc' := 36) rfl rfl rfl rfl (by omega) (by omega) (by omega) (by omega) rfl rfl ?_
  intro h11I h11E
  generalize h11w : pw_w h5 125 25 (.long (Int64.ofInt ((pw_gm h5 125 27) * (pw_gm h5 125 29)))) = h11 at h11I h11E ⊢
  have h11F := h5F.tr (h11E.wk (W' := [125]) (by first | rfl | simp))
  refine pw_ld E (pc' := 37) (st' := [.ref 141]) rfl (fun _ => rfl) ?_
  have he13 : pw_gm h11 125 25 = (pw_gm h5 125 27) * (pw_gm h5 125 29) := by rw [← h11w]; exact pw_gm_eq (c := 125) (k := 25) h5I rfl rfl (by omega) (by omega)
  refine pw_getM h11I E (c := 125) (k := 25) (pc' := 40) rfl rfl rfl rfl rfl rfl (fun hf12a hf12b => ?_)
  refine pw_ld E (pc' := 41) (st' := [.long (Int64.ofInt 0), .long (Int64.ofInt (pw_gm h11 125 25))]) rfl (fun _ => rfl) ?_
  refine pw_lcmpC E (pc' := 42) rfl rfl (by omega) (by omega) (by omega) (by omega) (fun c14 hc14 => ?_)
  refine pw_if E (pc' := 49) rfl (by decide) (by omega) (by omega) ?_ ?_
  · intro hc15
    change c14 ≤ (0 : Int) at hc15
    refine pw_ld E (pc' := 50) (st' := [pw_i 0]) rfl (fun _ => rfl) ?_
    have he16 : pw_gm h11 125 24 = pw_gm h5 125 24 := by rw [← h11w]; exact pw_gm_ne (by omega)
    have he17 : pw_gm h5 125 24 = ((pw_gm h 125 26) * (pw_gm h 125 29)) - ((pw_gm h 125 28) * (pw_gm h 125 27)) := by rw [← h5w]; exact pw_gm_eq (c := 125) (k := 24) I rfl rfl (by omega) (by omega)
    have he18 : pw_gm h11 125 26 = pw_gm h5 125 26 := by rw [← h11w]; exact pw_gm_ne (by omega)
    have he19 : pw_gm h5 125 26 = pw_gm h 125 26 := by rw [← h5w]; exact pw_gm_ne (by omega)
    have he20 : pw_gm h11 125 27 = pw_gm h5 125 27 := by rw [← h11w]; exact pw_gm_ne (by omega)
    have he21 : pw_gm h11 125 28 = pw_gm h5 125 28 := by rw [← h11w]; exact pw_gm_ne (by omega)
    have he22 : pw_gm h5 125 28 = pw_gm h 125 28 := by rw [← h5w]; exact pw_gm_ne (by omega)
    have he23 : pw_gm h11 125 29 = pw_gm h5 125 29 := by rw [← h11w]; exact pw_gm_ne (by omega)
    refine pw_zret E rfl (by omega) ?_
    exact ⟨h11I, h11F, ⟨_, rfl, by omega, by omega, by omega, by omega, by omega, by omega, by omega, by omega, by omega⟩⟩
  · intro hc24
    change ¬ (c14 ≤ (0 : Int)) at hc24
    refine pw_ld E (pc' := 46) (st' := [pw_i 1]) rfl (fun _ => rfl) ?_
    refine pw_goto E (pc' := 50) rfl (by decide) ?_
    have he25 : pw_gm h11 125 24 = pw_gm h5 125 24 := by rw [← h11w]; exact pw_gm_ne (by omega)
    have he26 : pw_gm h5 125 24 = ((pw_gm h 125 26) * (pw_gm h 125 29)) - ((pw_gm h 125 28) * (pw_gm h 125 27)) := by rw [← h5w]; exact pw_gm_eq (c := 125) (k := 24) I rfl rfl (by omega) (by omega)
    have he27 : pw_gm h11 125 26 = pw_gm h5 125 26 := by rw [← h11w]; exact pw_gm_ne (by omega)
    have he28 : pw_gm h5 125 26 = pw_gm h 125 26 := by rw [← h5w]; exact pw_gm_ne (by omega)
    have he29 : pw_gm h11 125 27 = pw_gm h5 125 27 := by rw [← h11w]; exact pw_gm_ne (by omega)
    have he30 : pw_gm h11 125 28 = pw_gm h5 125 28 := by rw [← h11w]; exact pw_gm_ne (by omega)
    have he31 : pw_gm h5 125 28 = pw_gm h 125 28 := by rw [← h5w]; exact pw_gm_ne (by omega)
    have he32 : pw_gm h11 125 29 = pw_gm h5 125 29 := by rw [← h11w]; exact pw_gm_ne (by omega)
    refine pw_zret E rfl (by omega) ?_
    exact ⟨h11I, h11F, ⟨_, rfl, by omega, by omega, by omega, by omega, by omega, by omega, by omega, by omega, by omega⟩⟩
set_option maxHeartbeats 4000000 in
theorem cm_218_s {X : List (Nat × List Value)} {d : Nat} {h : pm_H} (hd : 4 ≤ d) (I : pw_I h) (b : Int) (hb1 : 0 ≤ b) (hb2 : b ≤ 11) (e : Int) (he1 : 0 ≤ e) (he2 : e ≤ 11) (wo : Int) (hwo1 : (-2147483648) ≤ wo) (hwo2 : wo ≤ 2147483647) : pw X d h 218 0 [some (.ref 141), some (pw_i b), some (pw_i e), some (pw_i wo), none] [] (fun h' v => pw_I h' ∧ pw_E [125] h h' ∧ ∃ a : Int, v = .inl (some (pw_i a)) ∧ 0 ≤ a ∧ a ≤ 1 ∧ (((a = 1 ∧ pv_OK (pv_lo (pv_sdm h b e) wo)) ∨ (a = 0 ∧ ¬ pv_OK (pv_lo (pv_sdm h b e) wo))) ∧ pw_gm h' 125 24 = pv_U (pv_lo (pv_sdm h b e) wo) (pv_chm h b e) ∧ pw_gm h' 125 25 = pv_D (pv_lo (pv_sdm h b e) wo) ∧ pw_gm h' 125 26 = pv_S (pv_lo (pv_sdm h b e) wo) (pv_chm h b e) 0 24 ∧ pw_gm h' 125 27 = pv_N (pv_lo (pv_sdm h b e) wo) 0 24 ∧ pw_gm h' 125 28 = pv_S (pv_lo (pv_sdm h b e) wo) (pv_chm h b e) 1 24 ∧ pw_gm h' 125 29 = pv_N (pv_lo (pv_sdm h b e) wo) 1 24)) := by
  have E : pm_ent 218 = some (4, 5, 12, 1, pmc_218) := rfl
  have E0 : pw_E [125] h h := pw_E.rf _ _
  refine pw_ld E (pc' := 1) (st' := [.ref 141]) rfl (fun _ => rfl) ?_
  obtain ⟨f1l, f1h, -⟩ := pw_obj (c := 125) I rfl
  refine pw_call (m' := 219) (As := [.ref 141]) (rest := []) (ls'' := [some (.ref 141)]) (Nat.le_trans (by decide) hd) E rfl (fun _ => pw_iV rfl rfl rfl rfl (pw_cellI f1h rfl)) (rfl : pm_ent 219 = some (1, 1, 12, 4, pmc_219)) rfl rfl (cm_219_s (pw_dp hd (by decide)) I ) ?_
  rintro h2 v3 ⟨h2I, h2E, hqbeg, rfl⟩
  refine ⟨_, rfl, ?_⟩
  have h2F := E0.tr (h2E.wk (W' := [125]) (by first | rfl | simp))
  show pw X d h2 218 4 [some (.ref 141), some (pw_i b), some (pw_i e), some (pw_i wo), none] [] _
  refine pw_ld E (pc' := 5) (st' := [pw_i 0]) rfl (fun _ => rfl) ?_
  refine pw_ist E (pc' := 7) (ls' := [some (.ref 141), some (pw_i b), some (pw_i e), some (pw_i wo), some (pw_i 0)]) rfl rfl rfl rfl ?_
  have L7 : ∀ (n7 : Nat) (k7_4 : Int) (gh7 : pm_H), pw_I gh7 → pw_E [125] h gh7 → 0 ≤ k7_4 → k7_4 ≤ 24 → pw_gm gh7 125 26 = pv_S (pv_lo (pv_sdm h b e) wo) (pv_chm h b e) 0 (k7_4).toNat → pw_gm gh7 125 27 = pv_N (pv_lo (pv_sdm h b e) wo) 0 (k7_4).toNat → pw_gm gh7 125 28 = pv_S (pv_lo (pv_sdm h b e) wo) (pv_chm h b e) 1 (k7_4).toNat → pw_gm gh7 125 29 = pv_N (pv_lo (pv_sdm h b e) wo) 1 (k7_4).toNat → pw_gm gh7 125 27 + pw_gm gh7 125 29 ≤ k7_4 → 0 ≤ pw_gm gh7 125 27 → 0 ≤ pw_gm gh7 125 29 → (-2000) * k7_4 ≤ pw_gm gh7 125 26 → pw_gm gh7 125 26 ≤ 2000 * k7_4 → (-2000) * k7_4 ≤ pw_gm gh7 125 28 → pw_gm gh7 125 28 ≤ 2000 * k7_4 → (24 - k7_4).toNat = n7 → pw X d gh7 218 7 [some (.ref 141), some (pw_i b), some (pw_i e), some (pw_i wo), some (pw_i k7_4)] [] (fun h' v => pw_I h' ∧ pw_E [125] h h' ∧ ∃ a : Int, v = .inl (some (pw_i a)) ∧ 0 ≤ a ∧ a ≤ 1 ∧ (((a = 1 ∧ pv_OK (pv_lo (pv_sdm h b e) wo)) ∨ (a = 0 ∧ ¬ pv_OK (pv_lo (pv_sdm h b e) wo))) ∧ pw_gm h' 125 24 = pv_U (pv_lo (pv_sdm h b e) wo) (pv_chm h b e) ∧ pw_gm h' 125 25 = pv_D (pv_lo (pv_sdm h b e) wo) ∧ pw_gm h' 125 26 = pv_S (pv_lo (pv_sdm h b e) wo) (pv_chm h b e) 0 24 ∧ pw_gm h' 125 27 = pv_N (pv_lo (pv_sdm h b e) wo) 0 24 ∧ pw_gm h' 125 28 = pv_S (pv_lo (pv_sdm h b e) wo) (pv_chm h b e) 1 24 ∧ pw_gm h' 125 29 = pv_N (pv_lo (pv_sdm h b e) wo) 1 24)) := by
    intro n7
    induction n7 using Nat.strongRecOn with
    | ind n7 ih7 =>
      intro k7_4 gh7 I7 E7 k7_4a k7_4b hx7_0 hx7_1 hx7_2 hx7_3 hx7_4 hx7_5 hx7_6 hx7_7 hx7_8 hx7_9 hx7_10 hm7
      refine pw_ld E (pc' := 9) (st' := [pw_i k7_4]) rfl (fun _ => rfl) ?_
      refine pw_bip E (pc' := 11) rfl rfl (by decide) ?_
      refine pw_if2 E (pc' := 65) rfl (by decide) (by omega) (by omega) (by decide) (by decide) ?_ ?_
      · intro hc4
        change (24 : Int) ≤ k7_4 at hc4
        rw [show (k7_4).toNat = 24 by omega] at hx7_0 hx7_1 hx7_2 hx7_3
        refine pw_ld E (pc' := 66) (st' := [.ref 141]) rfl (fun _ => rfl) ?_
        obtain ⟨f5l, f5h, -⟩ := pw_obj (c := 125) I7 rfl
        refine pw_call (m' := 221) (As := [.ref 141]) (rest := []) (ls'' := [some (.ref 141)]) (Nat.le_trans (by decide) hd) E rfl (fun _ => pw_iV rfl rfl rfl rfl (pw_cellI f5h rfl)) (rfl : pm_ent 221 = some (1, 1, 12, 1, pmc_221)) rfl rfl (cm_221_s (pw_dp hd (by decide)) I7 (by omega) (by omega) (by omega) (by omega) (by omega) (by omega) (by omega) (by omega)) ?_
        rintro h6 v7 ⟨h6I, h6E, x8, rfl, hx8a, hx8b, hx8r⟩
        refine ⟨_, rfl, ?_⟩
        have h6F := E7.tr (h6E.wk (W' := [125]) (by first | rfl | simp))
        show pw X d h6 218 69 [some (.ref 141), some (pw_i b), some (pw_i e), some (pw_i wo), some (pw_i k7_4)] [pw_i x8] _
        change ((x8 = 1 ∧ 0 < pw_gm gh7 125 27 * pw_gm gh7 125 29) ∨ (x8 = 0 ∧ pw_gm gh7 125 27 * pw_gm gh7 125 29 ≤ 0)) ∧ pw_gm h6 125 24 = pw_gm gh7 125 26 * pw_gm gh7 125 29 - pw_gm gh7 125 28 * pw_gm gh7 125 27 ∧ pw_gm h6 125 25 = pw_gm gh7 125 27 * pw_gm gh7 125 29 ∧ pw_gm h6 125 26 = pw_gm gh7 125 26 ∧ pw_gm h6 125 27 = pw_gm gh7 125 27 ∧ pw_gm h6 125 28 = pw_gm gh7 125 28 ∧ pw_gm h6 125 29 = pw_gm gh7 125 29 at hx8r
        refine pw_zret E rfl (by omega) ?_
        rw [hx7_0, hx7_1, hx7_2, hx7_3] at hx8r
        obtain ⟨r1, r2, r3, r4, r5, r6, r7⟩ := hx8r
        exact ⟨h6I, h6F, ⟨_, rfl, by omega, by omega, pv_okD (pv_NB 24).1 (pv_NB 24).1 r1, r2, r3, r4, r5, r6, r7⟩⟩
      · intro hc9
        change ¬ ((24 : Int) ≤ k7_4) at hc9
        have oo := pv_loI (sd := pv_sdm h b e) (wo := wo) (k := k7_4) (by omega)
        have od := pv_sdmI (h := h) (b := b) (e := e) (k := k7_4) (by omega)
        have q1 : pw_g gh7 131 (k7_4).toNat = pw_g h 131 (k7_4).toNat := pw_Eg (c := 131) I E7 rfl rfl _
        have qb : pw_g gh7 138 (12 * k7_4 + b).toNat = pw_g h 138 (12 * k7_4 + b).toNat := pw_Eg (c := 138) I E7 rfl rfl _
        have qe : pw_g gh7 138 (12 * k7_4 + e).toNat = pw_g h 138 (12 * k7_4 + e).toNat := pw_Eg (c := 138) I E7 rfl rfl _
        have q4 : pw_g gh7 132 (k7_4).toNat = pw_g h 132 (k7_4).toNat := pw_Eg (c := 132) I E7 rfl rfl _
        have q15 : pw_g gh7 125 15 = pw_g h 125 15 := pw_Ef E7 (Or.inr (Or.inl rfl)) rfl
        have hkb : pv_hmk gh7 b (k7_4) = pv_hmk h b (k7_4) := by unfold pv_hmk; rw [q15, pw_Eg (c := 139) I E7 rfl rfl, pw_Eg (c := 140) I E7 rfl rfl]
        have hke : pv_hmk gh7 e (k7_4) = pv_hmk h e (k7_4) := by unfold pv_hmk; rw [q15, pw_Eg (c := 139) I E7 rfl rfl, pw_Eg (c := 140) I E7 rfl rfl]
        have hw4 := pw_gA (c := 132) (j := k7_4) I7 rfl (by decide) (by omega) (by omega)
        refine pw_ld E (pc' := 16) (st' := [pw_i k7_4]) rfl (fun _ => rfl) ?_
        refine pw_ld E (pc' := 17) (st' := [pw_i wo, pw_i k7_4]) rfl (fun _ => rfl) ?_
        refine pw_if2 E (pc' := 59) rfl (by decide) (by omega) (by omega) (by omega) (by omega) ?_ ?_
        · intro hc10
          change k7_4 = wo at hc10
          have hsd : (pv_lo (pv_sdm h b e) wo) (k7_4).toNat = -1 := by omega
          clear oo od
          obtain ⟨e0, e1, e2, e3⟩ := pv_stpm (sd := pv_lo (pv_sdm h b e) wo) (ch := pv_chm h b e) (k := k7_4) (by omega) hsd
          refine pw_inc E (pc' := 62) (ls' := [some (.ref 141), some (pw_i b), some (pw_i e), some (pw_i wo), some (pw_i (k7_4 + 1))]) rfl rfl rfl rfl ?_
          refine pw_goto E (pc' := 7) rfl (by decide) ?_
          exact ih7 _ (by omega) (k7_4 + 1) gh7 I7 E7 (by omega) (by omega) (by omega) (by omega) (by omega) (by omega) (by omega) (by omega) (by omega) (by omega) (by omega) (by omega) (by omega) rfl
        · intro hc11
          change ¬ (k7_4 = wo) at hc11
          refine pw_ld E (pc' := 21) (st' := [.ref 141]) rfl (fun _ => rfl) ?_
          refine pw_ld E (pc' := 23) (st' := [pw_i k7_4, .ref 141]) rfl (fun _ => rfl) ?_
          refine pw_ld E (pc' := 24) (st' := [pw_i b, pw_i k7_4, .ref 141]) rfl (fun _ => rfl) ?_
          refine pw_ld E (pc' := 25) (st' := [pw_i e, pw_i b, pw_i k7_4, .ref 141]) rfl (fun _ => rfl) ?_
          obtain ⟨f12l, f12h, -⟩ := pw_obj (c := 125) I7 rfl
          refine pw_call (m' := 214) (As := [.ref 141, pw_i k7_4, pw_i b, pw_i e]) (rest := []) (ls'' := [some (.ref 141), some (pw_i k7_4), some (pw_i b), some (pw_i e)]) (Nat.le_trans (by decide) hd) E rfl (fun _ => pw_iV rfl rfl rfl rfl (pw_cellI f12h rfl)) (rfl : pm_ent 214 = some (4, 4, 12, 1, pmc_214)) rfl rfl (cm_214_s (pw_dp hd (by decide)) I7 (k7_4) (by omega) (by omega) (b) (by omega) (by omega) (e) (by omega) (by omega)) ?_
          rintro u14 v13 ⟨rfl, x15, rfl, hx15a, hx15b, hx15r⟩
          refine ⟨_, rfl, ?_⟩
          show pw X d gh7 218 28 [some (.ref 141), some (pw_i b), some (pw_i e), some (pw_i wo), some (pw_i k7_4)] [pw_i x15] _
          change (x15 = 1 ∧ pw_g gh7 131 k7_4.toNat ≠ 0 ∧ pw_g gh7 138 (12 * k7_4 + b).toNat ≠ 0 ∧ pw_g gh7 138 (12 * k7_4 + e).toNat ≠ 0) ∨ (x15 = 0 ∧ ¬ (pw_g gh7 131 k7_4.toNat ≠ 0 ∧ pw_g gh7 138 (12 * k7_4 + b).toNat ≠ 0 ∧ pw_g gh7 138 (12 * k7_4 + e).toNat ≠ 0)) at hx15r
          rcases (by omega : x15 = 1 ∨ x15 = 0) with hb16 | hb16
          · skip
            refine pw_if E (pc' := 59) rfl (by decide) (by omega) (by omega) ?_ ?_
            · intro hc17
              change x15 = (0 : Int) at hc17
              exfalso; omega
            · intro hc18
              change ¬ (x15 = (0 : Int)) at hc18
              refine pw_ld E (pc' := 32) (st' := [.ref 141]) rfl (fun _ => rfl) ?_
              refine pw_ld E (pc' := 33) (st' := [.ref 141, .ref 141]) rfl (fun _ => rfl) ?_
              refine pw_getR (b := 148) I7 E (c := 125) (k := 11) (pc' := 36) rfl rfl rfl rfl rfl rfl rfl ?_
              refine pw_ld E (pc' := 38) (st' := [pw_i k7_4, .ref 148, .ref 141]) rfl (fun _ => rfl) ?_
              refine pw_ald2 I7 E (c := 132) (pc' := 39) rfl rfl rfl (by decide) rfl (by decide) (by omega) (by omega) rfl (fun hf19a hf19b => ?_)
              refine pw_if E (pc' := 46) rfl (by decide) (by omega) (by omega) ?_ ?_
              · intro hc20
                change pw_g gh7 132 (k7_4.toNat) ≠ (0 : Int) at hc20
                refine pw_ld E (pc' := 47) (st' := [pw_i 0, .ref 141]) rfl (fun _ => rfl) ?_
                refine pw_ld E (pc' := 48) (st' := [.ref 141, pw_i 0, .ref 141]) rfl (fun _ => rfl) ?_
                refine pw_ld E (pc' := 50) (st' := [pw_i k7_4, .ref 141, pw_i 0, .ref 141]) rfl (fun _ => rfl) ?_
                refine pw_ld E (pc' := 51) (st' := [pw_i b, pw_i k7_4, .ref 141, pw_i 0, .ref 141]) rfl (fun _ => rfl) ?_
                refine pw_ld E (pc' := 52) (st' := [pw_i e, pw_i b, pw_i k7_4, .ref 141, pw_i 0, .ref 141]) rfl (fun _ => rfl) ?_
                obtain ⟨f21l, f21h, -⟩ := pw_obj (c := 125) I7 rfl
                refine pw_call (m' := 215) (As := [.ref 141, pw_i k7_4, pw_i b, pw_i e]) (rest := [pw_i 0, .ref 141]) (ls'' := [some (.ref 141), some (pw_i k7_4), some (pw_i b), some (pw_i e)]) (Nat.le_trans (by decide) hd) E rfl (fun _ => pw_iV rfl rfl rfl rfl (pw_cellI f21h rfl)) (rfl : pm_ent 215 = some (4, 4, 12, 0, pmc_215)) rfl rfl (cm_215_s (pw_dp hd (by decide)) I7 (k7_4) (by omega) (by omega) (b) (by omega) (by omega) (e) (by omega) (by omega)) ?_
                rintro u23 v22 ⟨rfl, x24, rfl, hx24a, hx24b, hx24r⟩
                refine ⟨_, rfl, ?_⟩
                show pw X d gh7 218 55 [some (.ref 141), some (pw_i b), some (pw_i e), some (pw_i wo), some (pw_i k7_4)] [pw_i x24, pw_i 0, .ref 141] _
                change x24 = pv_hmk gh7 e k7_4 - pv_hmk gh7 b k7_4 at hx24r
                refine pw_i2l E (pc' := 56) rfl rfl (by omega) (by omega) ?_
                have hch : pv_chm h b e (k7_4).toNat = x24 := by rw [hx24r, hkb, hke]; exact pv_chmI (by omega)
                have hsd : (pv_lo (pv_sdm h b e) wo) (k7_4).toNat = 1 := by omega
                clear oo od
                obtain ⟨e0, e1, e2, e3⟩ := pv_stp1 (sd := pv_lo (pv_sdm h b e) wo) (ch := pv_chm h b e) (k := k7_4) (by omega) hsd
                rw [hch] at e3
                obtain ⟨f25l, f25h, -⟩ := pw_obj (c := 125) I7 rfl
                refine pw_call (m' := 220) (As := [.ref 141, pw_i 0, .long (Int64.ofInt x24)]) (rest := []) (ls'' := [some (.ref 141), some (pw_i 0), some (.long (Int64.ofInt x24)), none]) (Nat.le_trans (by decide) hd) E rfl (fun _ => pw_iV rfl rfl rfl rfl (pw_cellI f25h rfl)) (rfl : pm_ent 220 = some (3, 4, 12, 4, pmc_220)) rfl rfl (cm_220_s (pw_dp hd (by decide)) I7 (0) (by omega) (by omega) (x24) (by omega) (by omega) (by omega) (by omega) (by omega) (by omega) (by omega) (by omega) (by omega)) ?_
                rintro h26 v27 ⟨h26I, h26E, hqadd, rfl⟩
                refine ⟨_, rfl, ?_⟩
                have h26F := E7.tr (h26E.wk (W' := [125]) (by first | rfl | simp))
                show pw X d h26 218 59 [some (.ref 141), some (pw_i b), some (pw_i e), some (pw_i wo), some (pw_i k7_4)] [] _
                have hqa := hqadd.2 rfl
                clear hqadd
                refine pw_inc E (pc' := 62) (ls' := [some (.ref 141), some (pw_i b), some (pw_i e), some (pw_i wo), some (pw_i (k7_4 + 1))]) rfl rfl rfl rfl ?_
                refine pw_goto E (pc' := 7) rfl (by decide) ?_
                exact ih7 _ (by omega) (k7_4 + 1) h26 h26I h26F (by omega) (by omega) (by omega) (by omega) (by omega) (by omega) (by omega) (by omega) (by omega) (by omega) (by omega) (by omega) (by omega) rfl
              · intro hc28
                change ¬ (pw_g gh7 132 (k7_4.toNat) ≠ (0 : Int)) at hc28
                refine pw_ld E (pc' := 43) (st' := [pw_i 1, .ref 141]) rfl (fun _ => rfl) ?_
                refine pw_goto E (pc' := 47) rfl (by decide) ?_
                refine pw_ld E (pc' := 48) (st' := [.ref 141, pw_i 1, .ref 141]) rfl (fun _ => rfl) ?_
                refine pw_ld E (pc' := 50) (st' := [pw_i k7_4, .ref 141, pw_i 1, .ref 141]) rfl (fun _ => rfl) ?_
                refine pw_ld E (pc' := 51) (st' := [pw_i b, pw_i k7_4, .ref 141, pw_i 1, .ref 141]) rfl (fun _ => rfl) ?_
                refine pw_ld E (pc' := 52) (st' := [pw_i e, pw_i b, pw_i k7_4, .ref 141, pw_i 1, .ref 141]) rfl (fun _ => rfl) ?_
                obtain ⟨f29l, f29h, -⟩ := pw_obj (c := 125) I7 rfl
                refine pw_call (m' := 215) (As := [.ref 141, pw_i k7_4, pw_i b, pw_i e]) (rest := [pw_i 1, .ref 141]) (ls'' := [some (.ref 141), some (pw_i k7_4), some (pw_i b), some (pw_i e)]) (Nat.le_trans (by decide) hd) E rfl (fun _ => pw_iV rfl rfl rfl rfl (pw_cellI f29h rfl)) (rfl : pm_ent 215 = some (4, 4, 12, 0, pmc_215)) rfl rfl (cm_215_s (pw_dp hd (by decide)) I7 (k7_4) (by omega) (by omega) (b) (by omega) (by omega) (e) (by omega) (by omega)) ?_
                rintro u31 v30 ⟨rfl, x32, rfl, hx32a, hx32b, hx32r⟩
                refine ⟨_, rfl, ?_⟩
                show pw X d gh7 218 55 [some (.ref 141), some (pw_i b), some (pw_i e), some (pw_i wo), some (pw_i k7_4)] [pw_i x32, pw_i 1, .ref 141] _
                change x32 = pv_hmk gh7 e k7_4 - pv_hmk gh7 b k7_4 at hx32r
                refine pw_i2l E (pc' := 56) rfl rfl (by omega) (by omega) ?_
                have hch : pv_chm h b e (k7_4).toNat = x32 := by rw [hx32r, hkb, hke]; exact pv_chmI (by omega)
                have hsd : (pv_lo (pv_sdm h b e) wo) (k7_4).toNat = 0 := by omega
                clear oo od
                obtain ⟨e0, e1, e2, e3⟩ := pv_stp0 (sd := pv_lo (pv_sdm h b e) wo) (ch := pv_chm h b e) (k := k7_4) (by omega) hsd
                rw [hch] at e2
                obtain ⟨f33l, f33h, -⟩ := pw_obj (c := 125) I7 rfl
                refine pw_call (m' := 220) (As := [.ref 141, pw_i 1, .long (Int64.ofInt x32)]) (rest := []) (ls'' := [some (.ref 141), some (pw_i 1), some (.long (Int64.ofInt x32)), none]) (Nat.le_trans (by decide) hd) E rfl (fun _ => pw_iV rfl rfl rfl rfl (pw_cellI f33h rfl)) (rfl : pm_ent 220 = some (3, 4, 12, 4, pmc_220)) rfl rfl (cm_220_s (pw_dp hd (by decide)) I7 (1) (by omega) (by omega) (x32) (by omega) (by omega) (by omega) (by omega) (by omega) (by omega) (by omega) (by omega) (by omega)) ?_
                rintro h34 v35 ⟨h34I, h34E, hqadd, rfl⟩
                refine ⟨_, rfl, ?_⟩
                have h34F := E7.tr (h34E.wk (W' := [125]) (by first | rfl | simp))
                show pw X d h34 218 59 [some (.ref 141), some (pw_i b), some (pw_i e), some (pw_i wo), some (pw_i k7_4)] [] _
                have hqa := hqadd.1 rfl
                clear hqadd
                refine pw_inc E (pc' := 62) (ls' := [some (.ref 141), some (pw_i b), some (pw_i e), some (pw_i wo), some (pw_i (k7_4 + 1))]) rfl rfl rfl rfl ?_
                refine pw_goto E (pc' := 7) rfl (by decide) ?_
                exact ih7 _ (by omega) (k7_4 + 1) h34 h34I h34F (by omega) (by omega) (by omega) (by omega) (by omega) (by omega) (by omega) (by omega) (by omega) (by omega) (by omega) (by omega) (by omega) rfl
          · skip
            refine pw_if E (pc' := 59) rfl (by decide) (by omega) (by omega) ?_ ?_
            · intro hc37
              change x15 = (0 : Int) at hc37
              have hsd : (pv_lo (pv_sdm h b e) wo) (k7_4).toNat = -1 := by omega
              clear oo od
              obtain ⟨e0, e1, e2, e3⟩ := pv_stpm (sd := pv_lo (pv_sdm h b e) wo) (ch := pv_chm h b e) (k := k7_4) (by omega) hsd
              refine pw_inc E (pc' := 62) (ls' := [some (.ref 141), some (pw_i b), some (pw_i e), some (pw_i wo), some (pw_i (k7_4 + 1))]) rfl rfl rfl rfl ?_
              refine pw_goto E (pc' := 7) rfl (by decide) ?_
              exact ih7 _ (by omega) (k7_4 + 1) gh7 I7 E7 (by omega) (by omega) (by omega) (by omega) (by omega) (by omega) (by omega) (by omega) (by omega) (by omega) (by omega) (by omega) (by omega) rfl
            · intro hc38
              change ¬ (x15 = (0 : Int)) at hc38
              exfalso; omega
  exact L7 _ (0) h2 h2I h2F (by omega) (by omega) (by show _ = (0 : Int); omega) (by show _ = (0 : Int); omega) (by show _ = (0 : Int); omega) (by show _ = (0 : Int); omega) (by omega) (by omega) (by omega) (by omega) (by omega) (by omega) (by omega) rfl
end
section
/-! river, exactly (printed by wip/tool/mriver.py) -/
/-- what pick says of a fraction laid in lowest terms -/
theorem pv_pick {U D wt x g0 g1 : Int} (e0 : g0 = Int.tdiv U (pw_gd U D)) (e1 : g1 = Int.tdiv D (pw_gd U D)) (r : (wt = 0 → x = g0) ∧ (wt ≠ 0 → x = g1)) : x = pv_LW U D wt := by
  by_cases q : wt = 0
  · rw [pv_LW0 q, r.1 q, e0]
  · rw [pv_LW1 q, r.2 q, e1]
theorem pv_low {U D wt x : Int} (r : (wt = 0 → x = Int.tdiv U (pw_gd U D)) ∧ (wt ≠ 0 → x = Int.tdiv D (pw_gd U D))) : x = pv_LW U D wt := pv_pick rfl rfl r
theorem pv_tdUB {sd ch : Nat → Int} (hb : ∀ k : Nat, k < 24 → -2000 ≤ ch k ∧ ch k ≤ 2000) (ok : pv_OK sd) : -2304000 ≤ Int.tdiv (pv_U sd ch) (pw_gd (pv_U sd ch) (pv_D sd)) ∧ Int.tdiv (pv_U sd ch) (pw_gd (pv_U sd ch) (pv_D sd)) ≤ 2304000 ∧ 0 ≤ Int.tdiv (pv_D sd) (pw_gd (pv_U sd ch) (pv_D sd)) ∧ Int.tdiv (pv_D sd) (pw_gd (pv_U sd ch) (pv_D sd)) ≤ 576 := by
  obtain ⟨u1, u2, u3, u4, u5⟩ := pv_UB (sd := sd) hb
  have d1 := u5 ok
  have gp := pw_gd_pos (x := pv_U sd ch) (y := pv_D sd) (by omega)
  have t1 := pw_tdB (a := pv_U sd ch) (b := pw_gd (pv_U sd ch) (pv_D sd)) (A := 2304000) (by omega) (by omega) (by omega)
  have t2 := pw_tdB (a := pv_D sd) (b := pw_gd (pv_U sd ch) (pv_D sd)) (A := 576) (by omega) (by omega) (by omega)
  omega
end
section
/-! differences of fractions (printed by wip/tool/mfrac.py) -/
theorem pv_LWsc {g x y wt : Int} (hg : 0 < g) : pv_LW (g * x) (g * y) wt = pv_LW x y wt := by
  unfold pv_LW
  obtain ⟨e1, e2⟩ := pw_lw_sc (x := x) (y := y) hg
  rw [e1, e2]
/-- a fraction less a whole number -/
theorem pv_apart {U D x wt : Int} (hD : 1 ≤ D) : pv_LW (Int.tdiv U (pw_gd U D) * 1 - x * Int.tdiv D (pw_gd U D)) (Int.tdiv D (pw_gd U D) * 1) wt = pv_LW (U - x * D) D wt := by
  obtain ⟨e1, e2, -⟩ := pw_lw (x := U) (y := D) (by omega)
  have gp := pw_gd_pos (x := U) (y := D) (by omega)
  generalize Int.tdiv U (pw_gd U D) = a at e1 ⊢
  generalize Int.tdiv D (pw_gd U D) = d at e2 ⊢
  generalize pw_gd U D = g at e1 e2 gp
  rw [← pv_LWsc (g := g) (by omega), Int.mul_one, Int.mul_one, Int.mul_sub, e1, e2, ← Int.mul_assoc, Int.mul_comm g x, Int.mul_assoc, e2]
theorem pv_tdUB1 {sd ch : Nat → Int} (hb : ∀ k : Nat, k < 24 → -2000 ≤ ch k ∧ ch k ≤ 2000) (ok : pv_OK sd) : 1 ≤ Int.tdiv (pv_D sd) (pw_gd (pv_U sd ch) (pv_D sd)) ∧ 1 ≤ pv_D sd := by
  have d1 := (pv_UB (sd := sd) hb).2.2.2.2 ok
  exact ⟨(pw_lw (x := pv_U sd ch) (y := pv_D sd) (by omega)).2.2, d1⟩
set_option maxHeartbeats 4000000 in
theorem cm_14_22g {X : List (Nat × List Value)} {d : Nat} {h : pm_H} (hd : 3 ≤ d) (I : pw_I h) (hp0 : (-2304000) ≤ pw_gm h 22 0) (hp1 : pw_gm h 22 0 ≤ 2304000) (hp2 : 1 ≤ pw_gm h 22 1) (hp3 : pw_gm h 22 1 ≤ 576) (hp4 : (-2304000) ≤ pw_gm h 23 0) (hp5 : pw_gm h 23 0 ≤ 2304000) (hp6 : 1 ≤ pw_gm h 23 1) (hp7 : pw_gm h 23 1 ≤ 576) : pw X d h 14 0 [some (.ref 38), some (.ref 39)] [] (fun h' v => pw_I h' ∧ pw_E [22] h h' ∧ (pw_gm h' 22 0 = Int.tdiv (pw_gm h 22 0 * pw_gm h 23 1 - pw_gm h 23 0 * pw_gm h 22 1) (pw_gd (pw_gm h 22 0 * pw_gm h 23 1 - pw_gm h 23 0 * pw_gm h 22 1) (pw_gm h 22 1 * pw_gm h 23 1)) ∧ pw_gm h' 22 1 = Int.tdiv (pw_gm h 22 1 * pw_gm h 23 1) (pw_gd (pw_gm h 22 0 * pw_gm h 23 1 - pw_gm h 23 0 * pw_gm h 22 1) (pw_gm h 22 1 * pw_gm h 23 1))) ∧ (v = .inl none)) := by
  have E : pm_ent 14 = some (2, 2, 1, 4, pmc_14) := rfl
  have E0 : pw_E [22] h h := pw_E.rf _ _
  refine pw_ld E (pc' := 1) (st' := [.ref 38]) rfl (fun _ => rfl) ?_
  refine pw_ld E (pc' := 2) (st' := [.ref 38, .ref 38]) rfl (fun _ => rfl) ?_
  refine pw_getLM I E (c := 22) (k := 0) (pc' := 5) rfl rfl rfl rfl rfl rfl ?_
  refine pw_ld E (pc' := 6) (st' := [.ref 39, .long (Int64.ofInt (pw_gm h 22 0)), .ref 38]) rfl (fun _ => rfl) ?_
  refine pw_getLM I E (c := 23) (k := 1) (pc' := 9) rfl rfl rfl rfl rfl rfl ?_
  have hm1 := pw_mulS (a := pw_gm h 22 0) (b := pw_gm h 23 1) (A := 2304000) (B := 576) (by omega) (by omega) (by omega) (by omega)
  refine pw_lmul E (pc' := 10) rfl rfl ?_
  refine pw_ld E (pc' := 11) (st' := [.ref 39, .long (Int64.ofInt ((pw_gm h 22 0) * (pw_gm h 23 1))), .ref 38]) rfl (fun _ => rfl) ?_
  refine pw_getLM I E (c := 23) (k := 0) (pc' := 14) rfl rfl rfl rfl rfl rfl ?_
  refine pw_ld E (pc' := 15) (st' := [.ref 38, .long (Int64.ofInt (pw_gm h 23 0)), .long (Int64.ofInt ((pw_gm h 22 0) * (pw_gm h 23 1))), .ref 38]) rfl (fun _ => rfl) ?_
  refine pw_getLM I E (c := 22) (k := 1) (pc' := 18) rfl rfl rfl rfl rfl rfl ?_
  have hm2 := pw_mulS (a := pw_gm h 23 0) (b := pw_gm h 22 1) (A := 2304000) (B := 576) (by omega) (by omega) (by omega) (by omega)
  refine pw_lmul E (pc' := 19) rfl rfl ?_
  refine pw_lsub E (pc' := 20) rfl rfl ?_
  refine pw_ld E (pc' := 21) (st' := [.ref 38, .long (Int64.ofInt (((pw_gm h 22 0) * (pw_gm h 23 1)) - ((pw_gm h 23 0) * (pw_gm h 22 1)))), .ref 38]) rfl (fun _ => rfl) ?_
  refine pw_getLM I E (c := 22) (k := 1) (pc' := 24) rfl rfl rfl rfl rfl rfl ?_
  refine pw_ld E (pc' := 25) (st' := [.ref 39, .long (Int64.ofInt (pw_gm h 22 1)), .long (Int64.ofInt (((pw_gm h 22 0) * (pw_gm h 23 1)) - ((pw_gm h 23 0) * (pw_gm h 22 1)))), .ref 38]) rfl (fun _ => rfl) ?_
  refine pw_getLM I E (c := 23) (k := 1) (pc' := 28) rfl rfl rfl rfl rfl rfl ?_
  have hm3 := pw_mulB (a := pw_gm h 22 1) (b := pw_gm h 23 1) (A := 576) (B := 576) (by omega) (by omega) (by omega) (by omega)
  refine pw_lmul E (pc' := 29) rfl rfl ?_
  obtain ⟨f4l, f4h, -⟩ := pw_obj (c := 22) I rfl
  refine pw_call (m' := 6) (As := [.ref 38, .long (Int64.ofInt (((pw_gm h 22 0) * (pw_gm h 23 1)) - ((pw_gm h 23 0) * (pw_gm h 22 1)))), .long (Int64.ofInt ((pw_gm h 22 1) * (pw_gm h 23 1)))]) (rest := []) (ls'' := [some (.ref 38), some (.long (Int64.ofInt (((pw_gm h 22 0) * (pw_gm h 23 1)) - ((pw_gm h 23 0) * (pw_gm h 22 1))))), none, some (.long (Int64.ofInt ((pw_gm h 22 1) * (pw_gm h 23 1)))), none, none, none]) (Nat.le_trans (by decide) hd) E rfl (fun _ => pw_iV rfl rfl rfl rfl (pw_cellI f4h rfl)) (rfl : pm_ent 6 = some (3, 7, 1, 4, pmc_6)) rfl rfl (cm_6_22g (pw_dp hd (by decide)) I (((pw_gm h 22 0) * (pw_gm h 23 1)) - ((pw_gm h 23 0) * (pw_gm h 22 1))) (by omega) (by omega) ((pw_gm h 22 1) * (pw_gm h 23 1)) (by omega) (by omega)) ?_
  rintro h5 v6 ⟨h5I, h5E, hqfr, rfl⟩
  refine ⟨_, rfl, ?_⟩
  have h5F := E0.tr (h5E.wk (W' := [22]) (by first | rfl | simp))
  show pw X d h5 14 32 [some (.ref 38), some (.ref 39)] [] _
  refine pw_vret E rfl ?_
  exact ⟨h5I, h5F, hqfr, rfl⟩
end
section
/-! apart, exactly -/
set_option maxHeartbeats 4000000 in
theorem cm_180_s {X : List (Nat × List Value)} {d : Nat} {h : pm_H} (hd : 5 ≤ d) (I : pw_I h) (b : Int) (hb1 : (-2147483648) ≤ b) (hb2 : b ≤ 2147483647) (e : Int) (he1 : (-2147483648) ≤ e) (he2 : e ≤ 2147483647) (dd : Int) (hdd1 : (-2147483648) ≤ dd) (hdd2 : dd ≤ 2147483647) (wt : Int) (hwt1 : (-2147483648) ≤ wt) (hwt2 : wt ≤ 2147483647) : pw X d h 180 0 [some (.ref 16), some (pw_i b), some (pw_i e), some (pw_i dd), some (pw_i wt)] [] (fun h' v => pw_I h' ∧ pw_E [17, 18, 22, 23] h h' ∧ ((v = .inr () ∧ (¬ (0 ≤ b ∧ b ≤ 11 ∧ 0 ≤ e ∧ e ≤ 11 ∧ b ≠ e ∧ (-99) ≤ dd ∧ dd ≤ 99 ∧ 0 ≤ wt ∧ wt ≤ 1) ∨ ¬ pv_OK (pv_sdc h b e))) ∨ (∃ a : Int, v = .inl (some (.long (Int64.ofInt a))) ∧ (-1099511627776) ≤ a ∧ a ≤ 1099511627776 ∧ ((0 ≤ b ∧ b ≤ 11 ∧ 0 ≤ e ∧ e ≤ 11 ∧ b ≠ e ∧ (-99) ≤ dd ∧ dd ≤ 99 ∧ 0 ≤ wt ∧ wt ≤ 1) ∧ pv_OK (pv_sdc h b e) ∧ a = pv_LW (pv_U (pv_sdc h b e) (pv_chc h b e) - dd * (e - b) * pv_D (pv_sdc h b e)) (pv_D (pv_sdc h b e)) wt)))) := by
  have E : pm_ent 180 = some (5, 5, 11, 2, pmc_180) := rfl
  have E0 : pw_E [17, 18, 22, 23] h h := pw_E.rf _ _
  refine pw_ld E (pc' := 1) (st' := [pw_i b]) rfl (fun _ => rfl) ?_
  refine pw_ld E (pc' := 2) (st' := [pw_i e, pw_i b]) rfl (fun _ => rfl) ?_
  refine pw_call (m' := 131) (As := [pw_i b, pw_i e]) (rest := []) (ls'' := [some (pw_i b), some (pw_i e)]) (Nat.le_trans (by decide) hd) E rfl (fun _ => pw_iS rfl rfl rfl) (rfl : pm_ent 131 = some (2, 2, 11, 1, pmc_131)) rfl rfl (cm_131_s (pw_dp hd (by decide)) I (b) (by omega) (by omega) (e) (by omega) (by omega)) ?_
  rintro u2 v1 ⟨rfl, x3, rfl, hx3a, hx3b, hx3r⟩
  refine ⟨_, rfl, ?_⟩
  show pw X d h 180 5 [some (.ref 16), some (pw_i b), some (pw_i e), some (pw_i dd), some (pw_i wt)] [pw_i x3] _
  change (x3 = 1 ∧ 0 ≤ b ∧ b ≤ 11 ∧ 0 ≤ e ∧ e ≤ 11 ∧ b ≠ e) ∨ (x3 = 0 ∧ ¬ (0 ≤ b ∧ b ≤ 11 ∧ 0 ≤ e ∧ e ≤ 11 ∧ b ≠ e)) at hx3r
  rcases (by omega : x3 = 1 ∨ x3 = 0) with hb4 | hb4
  · skip
    refine pw_if E (pc' := 27) rfl (by decide) (by omega) (by omega) ?_ ?_
    · intro hc5
      change x3 = (0 : Int) at hc5
      exfalso; omega
    · intro hc6
      change ¬ (x3 = (0 : Int)) at hc6
      refine pw_ld E (pc' := 9) (st' := [pw_i dd]) rfl (fun _ => rfl) ?_
      refine pw_bip E (pc' := 11) rfl rfl (by decide) ?_
      refine pw_bip E (pc' := 13) rfl rfl (by decide) ?_
      refine pw_call (m' := 121) (As := [pw_i dd, pw_i ((-99)), pw_i 99]) (rest := []) (ls'' := [some (pw_i dd), some (pw_i ((-99))), some (pw_i 99)]) (Nat.le_trans (by decide) hd) E rfl (fun _ => pw_iS rfl rfl rfl) (rfl : pm_ent 121 = some (3, 3, 11, 1, pmc_121)) rfl rfl (cm_121 (pw_dp hd (by decide)) I (dd) (by omega) (by omega) ((-99)) (by omega) (by omega) (99) (by omega) (by omega)) ?_
      rintro u8 v7 ⟨rfl, x9, rfl, hx9a, hx9b, hx9r⟩
      refine ⟨_, rfl, ?_⟩
      show pw X d h 180 16 [some (.ref 16), some (pw_i b), some (pw_i e), some (pw_i dd), some (pw_i wt)] [pw_i x9] _
      change (x9 = 1 ∧ (-99) ≤ dd ∧ dd ≤ 99) ∨ (x9 = 0 ∧ ¬ ((-99) ≤ dd ∧ dd ≤ 99)) at hx9r
      rcases (by omega : x9 = 1 ∨ x9 = 0) with hb10 | hb10
      · skip
        refine pw_if E (pc' := 27) rfl (by decide) (by omega) (by omega) ?_ ?_
        · intro hc11
          change x9 = (0 : Int) at hc11
          exfalso; omega
        · intro hc12
          change ¬ (x9 = (0 : Int)) at hc12
          refine pw_ld E (pc' := 21) (st' := [pw_i wt]) rfl (fun _ => rfl) ?_
          refine pw_call (m' := 137) (As := [pw_i wt]) (rest := []) (ls'' := [some (pw_i wt)]) (Nat.le_trans (by decide) hd) E rfl (fun _ => pw_iS rfl rfl rfl) (rfl : pm_ent 137 = some (1, 1, 11, 1, pmc_137)) rfl rfl (cm_137 (pw_dp hd (by decide)) I (wt) (by omega) (by omega)) ?_
          rintro u14 v13 ⟨rfl, x15, rfl, hx15a, hx15b, hx15r⟩
          refine ⟨_, rfl, ?_⟩
          show pw X d h 180 24 [some (.ref 16), some (pw_i b), some (pw_i e), some (pw_i dd), some (pw_i wt)] [pw_i x15] _
          change (x15 = 1 ∧ 0 ≤ wt ∧ wt ≤ 1) ∨ (x15 = 0 ∧ ¬ (0 ≤ wt ∧ wt ≤ 1)) at hx15r
          rcases (by omega : x15 = 1 ∨ x15 = 0) with hb16 | hb16
          · skip
            refine pw_if E (pc' := 35) rfl (by decide) (by omega) (by omega) ?_ ?_
            · intro hc17
              change x15 ≠ (0 : Int) at hc17
              refine pw_ld E (pc' := 36) (st' := [.ref 16]) rfl (fun _ => rfl) ?_
              refine pw_ld E (pc' := 37) (st' := [pw_i b, .ref 16]) rfl (fun _ => rfl) ?_
              refine pw_ld E (pc' := 38) (st' := [pw_i e, pw_i b, .ref 16]) rfl (fun _ => rfl) ?_
              obtain ⟨f18l, f18h, -⟩ := pw_obj (c := 0) I rfl
              refine pw_call (m' := 138) (As := [.ref 16, pw_i b, pw_i e]) (rest := []) (ls'' := [some (.ref 16), some (pw_i b), some (pw_i e), none]) (Nat.le_trans (by decide) hd) E rfl (fun _ => pw_iV rfl rfl rfl rfl (pw_cellI f18h rfl)) (rfl : pm_ent 138 = some (3, 4, 11, 4, pmc_138)) rfl rfl (cm_138_s (pw_dp hd (by decide)) I (b) (by omega) (by omega) (e) (by omega) (by omega)) ?_
              rintro h19 v20 ⟨h19I, h19E, hqfill, rfl⟩
              refine ⟨_, rfl, ?_⟩
              have h19F := E0.tr (h19E.wk (W' := [17, 18, 22, 23]) (by first | rfl | simp))
              show pw X d h19 180 41 [some (.ref 16), some (pw_i b), some (pw_i e), some (pw_i dd), some (pw_i wt)] [] _
              have hFL : pv_FL h19 (pv_sdc h b e) (pv_chc h b e) 24 := hqfill
              have hB : pv_Bd h19 := hFL.bd (pv_chcB I (by omega) (by omega) (by omega) (by omega))
              refine pw_ld E (pc' := 42) (st' := [.ref 16]) rfl (fun _ => rfl) ?_
              refine pw_getR (b := 32) h19I E (c := 0) (k := 7) (pc' := 45) rfl rfl rfl rfl rfl rfl rfl ?_
              refine pw_ld E (pc' := 46) (st' := [.ref 16, .ref 32]) rfl (fun _ => rfl) ?_
              refine pw_getR (b := 38) h19I E (c := 0) (k := 8) (pc' := 49) rfl rfl rfl rfl rfl rfl rfl ?_
              obtain ⟨f21l, f21h, -⟩ := pw_obj (c := 16) h19I rfl
              refine pw_call (m' := 83) (As := [.ref 32, .ref 38]) (rest := []) (ls'' := [some (.ref 32), some (.ref 38), none, none, none, none]) (Nat.le_trans (by decide) hd) E rfl (fun _ => pw_iV rfl rfl rfl rfl (pw_cellI f21h rfl)) (rfl : pm_ent 83 = some (2, 6, 8, 1, pmc_83)) rfl rfl (cm_83_22s (pw_dp hd (by decide)) h19I hB) ?_
              rintro h22 v23 ⟨h22I, h22E, x24, rfl, hx24a, hx24b, hx24r⟩
              refine ⟨_, rfl, ?_⟩
              have h22F := h19F.tr (h22E.wk (W' := [17, 18, 22, 23]) (by first | rfl | simp))
              show pw X d h22 180 52 [some (.ref 16), some (pw_i b), some (pw_i e), some (pw_i dd), some (pw_i wt)] [pw_i x24] _
              change (x24 = 0 ∧ ¬ pv_OK (pw_g h19 17)) ∨ (x24 = 1 ∧ pv_OK (pw_g h19 17) ∧ pw_gm h22 22 0 = Int.tdiv (pv_U (pw_g h19 17) (pw_g h19 18)) (pw_gd (pv_U (pw_g h19 17) (pw_g h19 18)) (pv_D (pw_g h19 17))) ∧ pw_gm h22 22 1 = Int.tdiv (pv_D (pw_g h19 17)) (pw_gd (pv_U (pw_g h19 17) (pw_g h19 18)) (pv_D (pw_g h19 17)))) at hx24r
              rcases (by omega : x24 = 1 ∨ x24 = 0) with hb25 | hb25
              · skip
                refine pw_if E (pc' := 63) rfl (by decide) (by omega) (by omega) ?_ ?_
                · intro hc26
                  change x24 ≠ (0 : Int) at hc26
                  obtain ⟨-, hok0, hm0, hm1⟩ := hx24r.resolve_left (fun q => by have := q.1; omega)
                  have hok : pv_OK (pv_sdc h b e) := hFL.eq.2.2.1.mp hok0
                  rw [hFL.eq.1, hFL.eq.2.1] at hm0 hm1
                  have htd := pv_tdUB (sd := pv_sdc h b e) (ch := pv_chc h b e) (pv_chcB I (by omega) (by omega) (by omega) (by omega)) hok
                  have htd1 := pv_tdUB1 (sd := pv_sdc h b e) (ch := pv_chc h b e) (pv_chcB I (by omega) (by omega) (by omega) (by omega)) hok
                  refine pw_ld E (pc' := 64) (st' := [.ref 16]) rfl (fun _ => rfl) ?_
                  refine pw_getR (b := 39) h22I E (c := 0) (k := 9) (pc' := 67) rfl rfl rfl rfl rfl rfl rfl ?_
                  refine pw_ld E (pc' := 68) (st' := [pw_i dd, .ref 39]) rfl (fun _ => rfl) ?_
                  refine pw_i2l E (pc' := 69) rfl rfl (by omega) (by omega) ?_
                  refine pw_ld E (pc' := 70) (st' := [pw_i e, .long (Int64.ofInt dd), .ref 39]) rfl (fun _ => rfl) ?_
                  refine pw_ld E (pc' := 71) (st' := [pw_i b, pw_i e, .long (Int64.ofInt dd), .ref 39]) rfl (fun _ => rfl) ?_
                  refine pw_sub E (pc' := 72) rfl rfl ?_
                  refine pw_i2l E (pc' := 73) rfl rfl (by omega) (by omega) ?_
                  have hm27 := pw_mulG (a := dd) (b := e - b) (A := 99) (B := 11) (by omega) (by omega) (by omega) (by omega)
                  refine pw_lmul E (pc' := 74) rfl rfl ?_
                  refine pw_ld E (pc' := 75) (st' := [.long (Int64.ofInt 1), .long (Int64.ofInt (dd * (e - b))), .ref 39]) rfl (fun _ => rfl) ?_
                  obtain ⟨f28l, f28h, -⟩ := pw_obj (c := 23) h22I rfl
                  refine pw_call (m' := 6) (As := [.ref 39, .long (Int64.ofInt (dd * (e - b))), .long (Int64.ofInt 1)]) (rest := []) (ls'' := [some (.ref 39), some (.long (Int64.ofInt (dd * (e - b)))), none, some (.long (Int64.ofInt 1)), none, none, none]) (Nat.le_trans (by decide) hd) E rfl (fun _ => pw_iV rfl rfl rfl rfl (pw_cellI f28h rfl)) (rfl : pm_ent 6 = some (3, 7, 1, 4, pmc_6)) rfl rfl (cm_6_23g (pw_dp hd (by decide)) h22I (dd * (e - b)) (by omega) (by omega) (1) (by omega) (by omega)) ?_
                  rintro h29 v30 ⟨h29I, h29E, hqfr, rfl⟩
                  refine ⟨_, rfl, ?_⟩
                  have h29F := h22F.tr (h29E.wk (W' := [17, 18, 22, 23]) (by first | rfl | simp))
                  show pw X d h29 180 78 [some (.ref 16), some (pw_i b), some (pw_i e), some (pw_i dd), some (pw_i wt)] [] _
                  have hx0 : pw_gm h29 23 0 = dd * (e - b) := hqfr.1.trans pw_td_1
                  have hx1 : pw_gm h29 23 1 = 1 := hqfr.2.trans pw_td_11
                  refine pw_ld E (pc' := 79) (st' := [.ref 16]) rfl (fun _ => rfl) ?_
                  refine pw_getR (b := 38) h29I E (c := 0) (k := 8) (pc' := 82) rfl rfl rfl rfl rfl rfl rfl ?_
                  refine pw_ld E (pc' := 83) (st' := [.ref 16, .ref 38]) rfl (fun _ => rfl) ?_
                  refine pw_getR (b := 39) h29I E (c := 0) (k := 9) (pc' := 86) rfl rfl rfl rfl rfl rfl rfl ?_
                  have he31 : pw_gm h29 22 0 = pw_gm h22 22 0 := pw_Egm (c := 22) h22I h29E rfl rfl 0
                  have he32 : pw_gm h29 22 1 = pw_gm h22 22 1 := pw_Egm (c := 22) h22I h29E rfl rfl 1
                  obtain ⟨f33l, f33h, -⟩ := pw_obj (c := 22) h29I rfl
                  refine pw_call (m' := 14) (As := [.ref 38, .ref 39]) (rest := []) (ls'' := [some (.ref 38), some (.ref 39)]) (Nat.le_trans (by decide) hd) E rfl (fun _ => pw_iV rfl rfl rfl rfl (pw_cellI f33h rfl)) (rfl : pm_ent 14 = some (2, 2, 1, 4, pmc_14)) rfl rfl (cm_14_22g (pw_dp hd (by decide)) h29I (by omega) (by omega) (by omega) (by omega) (by omega) (by omega) (by omega) (by omega)) ?_
                  rintro h34 v35 ⟨h34I, h34E, hqsub, rfl⟩
                  refine ⟨_, rfl, ?_⟩
                  have h34F := h29F.tr (h34E.wk (W' := [17, 18, 22, 23]) (by first | rfl | simp))
                  show pw X d h34 180 89 [some (.ref 16), some (pw_i b), some (pw_i e), some (pw_i dd), some (pw_i wt)] [] _
                  have ms1 := pw_mulB (a := pw_gm h29 22 1) (b := pw_gm h29 23 1) (A := 576) (B := 576) (by omega) (by omega) (by omega) (by omega)
                  have ms2 := pw_mulS (a := pw_gm h29 22 0) (b := pw_gm h29 23 1) (A := 2304000) (B := 576) (by omega) (by omega) (by omega) (by omega)
                  have ms3 := pw_mulS (a := pw_gm h29 23 0) (b := pw_gm h29 22 1) (A := 2304000) (B := 576) (by omega) (by omega) (by omega) (by omega)
                  have ms4 := pw_gd_pos (x := pw_gm h29 22 0 * pw_gm h29 23 1 - pw_gm h29 23 0 * pw_gm h29 22 1) (y := pw_gm h29 22 1 * pw_gm h29 23 1) (by omega)
                  have ms5 := pw_tdB (a := pw_gm h29 22 0 * pw_gm h29 23 1 - pw_gm h29 23 0 * pw_gm h29 22 1) (b := pw_gd (pw_gm h29 22 0 * pw_gm h29 23 1 - pw_gm h29 23 0 * pw_gm h29 22 1) (pw_gm h29 22 1 * pw_gm h29 23 1)) (A := 2654208000) (by omega) (by omega) (by omega)
                  have ms6 := pw_tdB (a := pw_gm h29 22 1 * pw_gm h29 23 1) (b := pw_gd (pw_gm h29 22 0 * pw_gm h29 23 1 - pw_gm h29 23 0 * pw_gm h29 22 1) (pw_gm h29 22 1 * pw_gm h29 23 1)) (A := 331776) (by omega) (by omega) (by omega)
                  have ms7 := hqsub.1
                  have ms8 := hqsub.2
                  refine pw_ld E (pc' := 90) (st' := [.ref 16]) rfl (fun _ => rfl) ?_
                  refine pw_getR (b := 38) h34I E (c := 0) (k := 8) (pc' := 93) rfl rfl rfl rfl rfl rfl rfl ?_
                  refine pw_ld E (pc' := 95) (st' := [pw_i wt, .ref 38]) rfl (fun _ => rfl) ?_
                  obtain ⟨f36l, f36h, -⟩ := pw_obj (c := 22) h34I rfl
                  refine pw_call (m' := 9) (As := [.ref 38, pw_i wt]) (rest := []) (ls'' := [some (.ref 38), some (pw_i wt)]) (Nat.le_trans (by decide) hd) E rfl (fun _ => pw_iV rfl rfl rfl rfl (pw_cellI f36h rfl)) (rfl : pm_ent 9 = some (2, 2, 1, 2, pmc_9)) rfl rfl (cm_9_22g (pw_dp hd (by decide)) h34I (wt) (by omega) (by omega) (by omega) (by omega) (by omega) (by omega)) ?_
                  rintro u38 v37 ⟨rfl, x39, rfl, hx39a, hx39b, hx39r⟩
                  refine ⟨_, rfl, ?_⟩
                  show pw X d h34 180 98 [some (.ref 16), some (pw_i b), some (pw_i e), some (pw_i dd), some (pw_i wt)] [.long (Int64.ofInt x39)] _
                  change (wt = 0 → x39 = pw_gm h34 22 0) ∧ (wt ≠ 0 → x39 = pw_gm h34 22 1) at hx39r
                  refine pw_lret E rfl ?_
                  have k0 : pw_gm h29 22 0 = Int.tdiv (pv_U (pv_sdc h b e) (pv_chc h b e)) (pw_gd (pv_U (pv_sdc h b e) (pv_chc h b e)) (pv_D (pv_sdc h b e))) := by omega
                  have k1 : pw_gm h29 22 1 = Int.tdiv (pv_D (pv_sdc h b e)) (pw_gd (pv_U (pv_sdc h b e) (pv_chc h b e)) (pv_D (pv_sdc h b e))) := by omega
                  have hs := hqsub
                  rw [k0, k1, hx0, hx1] at hs
                  have hp9 := pv_pick hs.1 hs.2 hx39r
                  rw [pv_apart htd1.2] at hp9
                  exact ⟨h34I, h34F, Or.inr ⟨_, rfl, by omega, by omega, by omega, hok, hp9⟩⟩
                · intro hc40
                  change ¬ (x24 ≠ (0 : Int)) at hc40
                  exfalso; omega
              · skip
                refine pw_if E (pc' := 63) rfl (by decide) (by omega) (by omega) ?_ ?_
                · intro hc42
                  change x24 ≠ (0 : Int) at hc42
                  exfalso; omega
                · intro hc43
                  change ¬ (x24 ≠ (0 : Int)) at hc43
                  refine pw_thr E rfl rfl h22I.2 ?_
                  exact ⟨h22I, h22F, Or.inl ⟨rfl, Or.inr (fun q => (hx24r.resolve_right (fun q => by have := q.1; omega)).2 (hFL.eq.2.2.1.mpr q))⟩⟩
            · intro hc44
              change ¬ (x15 ≠ (0 : Int)) at hc44
              exfalso; omega
          · skip
            refine pw_if E (pc' := 35) rfl (by decide) (by omega) (by omega) ?_ ?_
            · intro hc46
              change x15 ≠ (0 : Int) at hc46
              exfalso; omega
            · intro hc47
              change ¬ (x15 ≠ (0 : Int)) at hc47
              refine pw_thr E rfl rfl I.2 ?_
              exact ⟨I, E0, Or.inl ⟨rfl, Or.inl (by omega)⟩⟩
      · skip
        refine pw_if E (pc' := 27) rfl (by decide) (by omega) (by omega) ?_ ?_
        · intro hc49
          change x9 = (0 : Int) at hc49
          refine pw_thr E rfl rfl I.2 ?_
          exact ⟨I, E0, Or.inl ⟨rfl, Or.inl (by omega)⟩⟩
        · intro hc50
          change ¬ (x9 = (0 : Int)) at hc50
          exfalso; omega
  · skip
    refine pw_if E (pc' := 27) rfl (by decide) (by omega) (by omega) ?_ ?_
    · intro hc52
      change x3 = (0 : Int) at hc52
      refine pw_thr E rfl rfl I.2 ?_
      exact ⟨I, E0, Or.inl ⟨rfl, Or.inl (by omega)⟩⟩
    · intro hc53
      change ¬ (x3 = (0 : Int)) at hc53
      exfalso; omega
set_option maxHeartbeats 4000000 in
theorem cm_236_s {X : List (Nat × List Value)} {d : Nat} {h : pm_H} (hd : 5 ≤ d) (I : pw_I h) (b : Int) (hb1 : (-2147483648) ≤ b) (hb2 : b ≤ 2147483647) (e : Int) (he1 : (-2147483648) ≤ e) (he2 : e ≤ 2147483647) (dd : Int) (hdd1 : (-2147483648) ≤ dd) (hdd2 : dd ≤ 2147483647) (wt : Int) (hwt1 : (-2147483648) ≤ wt) (hwt2 : wt ≤ 2147483647) : pw X d h 236 0 [some (.ref 141), some (pw_i b), some (pw_i e), some (pw_i dd), some (pw_i wt)] [] (fun h' v => pw_I h' ∧ pw_E [125] h h' ∧ ∃ a : Int, v = .inl (some (.long (Int64.ofInt a))) ∧ (-1099511627776) ≤ a ∧ a ≤ 1099511627776 ∧ ((pw_g h' 125 0 = 1 ∧ (¬ (0 ≤ b ∧ b ≤ 11 ∧ 0 ≤ e ∧ e ≤ 11 ∧ b ≠ e ∧ (-99) ≤ dd ∧ dd ≤ 99 ∧ 0 ≤ wt ∧ wt ≤ 1) ∨ ¬ pv_OK (pv_sdm h b e))) ∨ (pw_g h' 125 0 = 0 ∧ (0 ≤ b ∧ b ≤ 11 ∧ 0 ≤ e ∧ e ≤ 11 ∧ b ≠ e ∧ (-99) ≤ dd ∧ dd ≤ 99 ∧ 0 ≤ wt ∧ wt ≤ 1) ∧ pv_OK (pv_sdm h b e) ∧ a = pv_LW (pv_U (pv_sdm h b e) (pv_chm h b e) - dd * (e - b) * pv_D (pv_sdm h b e)) (pv_D (pv_sdm h b e)) wt))) := by
  have E : pm_ent 236 = some (5, 5, 12, 2, pmc_236) := rfl
  have E0 : pw_E [125] h h := pw_E.rf _ _
  refine pw_ld E (pc' := 1) (st' := [.ref 141]) rfl (fun _ => rfl) ?_
  refine pw_ld E (pc' := 2) (st' := [pw_i b, .ref 141]) rfl (fun _ => rfl) ?_
  refine pw_ld E (pc' := 3) (st' := [pw_i e, pw_i b, .ref 141]) rfl (fun _ => rfl) ?_
  refine pw_call (m' := 213) (As := [pw_i b, pw_i e]) (rest := [.ref 141]) (ls'' := [some (pw_i b), some (pw_i e)]) (Nat.le_trans (by decide) hd) E rfl (fun _ => pw_iS rfl rfl rfl) (rfl : pm_ent 213 = some (2, 2, 12, 1, pmc_213)) rfl rfl (cm_213_s (pw_dp hd (by decide)) I (b) (by omega) (by omega) (e) (by omega) (by omega)) ?_
  rintro u2 v1 ⟨rfl, x3, rfl, hx3a, hx3b, hx3r⟩
  refine ⟨_, rfl, ?_⟩
  show pw X d h 236 6 [some (.ref 141), some (pw_i b), some (pw_i e), some (pw_i dd), some (pw_i wt)] [pw_i x3, .ref 141] _
  change (x3 = 1 ∧ 0 ≤ b ∧ b ≤ 11 ∧ 0 ≤ e ∧ e ≤ 11 ∧ b ≠ e) ∨ (x3 = 0 ∧ ¬ (0 ≤ b ∧ b ≤ 11 ∧ 0 ≤ e ∧ e ≤ 11 ∧ b ≠ e)) at hx3r
  rcases (by omega : x3 = 1 ∨ x3 = 0) with hb4 | hb4
  · skip
    refine pw_if E (pc' := 42) rfl (by decide) (by omega) (by omega) ?_ ?_
    · intro hc5
      change x3 = (0 : Int) at hc5
      exfalso; omega
    · intro hc6
      change ¬ (x3 = (0 : Int)) at hc6
      refine pw_ld E (pc' := 10) (st' := [pw_i dd, .ref 141]) rfl (fun _ => rfl) ?_
      refine pw_bip E (pc' := 12) rfl rfl (by decide) ?_
      refine pw_bip E (pc' := 14) rfl rfl (by decide) ?_
      refine pw_call (m' := 202) (As := [pw_i dd, pw_i ((-99)), pw_i 99]) (rest := [.ref 141]) (ls'' := [some (pw_i dd), some (pw_i ((-99))), some (pw_i 99)]) (Nat.le_trans (by decide) hd) E rfl (fun _ => pw_iS rfl rfl rfl) (rfl : pm_ent 202 = some (3, 3, 12, 1, pmc_202)) rfl rfl (cm_202 (pw_dp hd (by decide)) I (dd) (by omega) (by omega) ((-99)) (by omega) (by omega) (99) (by omega) (by omega)) ?_
      rintro u8 v7 ⟨rfl, x9, rfl, hx9a, hx9b, hx9r⟩
      refine ⟨_, rfl, ?_⟩
      show pw X d h 236 17 [some (.ref 141), some (pw_i b), some (pw_i e), some (pw_i dd), some (pw_i wt)] [pw_i x9, .ref 141] _
      change (x9 = 1 ∧ (-99) ≤ dd ∧ dd ≤ 99) ∨ (x9 = 0 ∧ ¬ ((-99) ≤ dd ∧ dd ≤ 99)) at hx9r
      rcases (by omega : x9 = 1 ∨ x9 = 0) with hb10 | hb10
      · skip
        refine pw_if E (pc' := 42) rfl (by decide) (by omega) (by omega) ?_ ?_
        · intro hc11
          change x9 = (0 : Int) at hc11
          exfalso; omega
        · intro hc12
          change ¬ (x9 = (0 : Int)) at hc12
          refine pw_ld E (pc' := 22) (st' := [pw_i wt, .ref 141]) rfl (fun _ => rfl) ?_
          refine pw_call (m' := 217) (As := [pw_i wt]) (rest := [.ref 141]) (ls'' := [some (pw_i wt)]) (Nat.le_trans (by decide) hd) E rfl (fun _ => pw_iS rfl rfl rfl) (rfl : pm_ent 217 = some (1, 1, 12, 1, pmc_217)) rfl rfl (cm_217 (pw_dp hd (by decide)) I (wt) (by omega) (by omega)) ?_
          rintro u14 v13 ⟨rfl, x15, rfl, hx15a, hx15b, hx15r⟩
          refine ⟨_, rfl, ?_⟩
          show pw X d h 236 25 [some (.ref 141), some (pw_i b), some (pw_i e), some (pw_i dd), some (pw_i wt)] [pw_i x15, .ref 141] _
          change (x15 = 1 ∧ 0 ≤ wt ∧ wt ≤ 1) ∨ (x15 = 0 ∧ ¬ (0 ≤ wt ∧ wt ≤ 1)) at hx15r
          rcases (by omega : x15 = 1 ∨ x15 = 0) with hb16 | hb16
          · skip
            refine pw_if E (pc' := 42) rfl (by decide) (by omega) (by omega) ?_ ?_
            · intro hc17
              change x15 = (0 : Int) at hc17
              exfalso; omega
            · intro hc18
              change ¬ (x15 = (0 : Int)) at hc18
              refine pw_ld E (pc' := 29) (st' := [.ref 141, .ref 141]) rfl (fun _ => rfl) ?_
              refine pw_ld E (pc' := 30) (st' := [pw_i b, .ref 141, .ref 141]) rfl (fun _ => rfl) ?_
              refine pw_ld E (pc' := 31) (st' := [pw_i e, pw_i b, .ref 141, .ref 141]) rfl (fun _ => rfl) ?_
              refine pw_ld E (pc' := 32) (st' := [pw_i ((-1)), pw_i e, pw_i b, .ref 141, .ref 141]) rfl (fun _ => rfl) ?_
              obtain ⟨f19l, f19h, -⟩ := pw_obj (c := 125) I rfl
              refine pw_call (m' := 218) (As := [.ref 141, pw_i b, pw_i e, pw_i ((-1))]) (rest := [.ref 141]) (ls'' := [some (.ref 141), some (pw_i b), some (pw_i e), some (pw_i ((-1))), none]) (Nat.le_trans (by decide) hd) E rfl (fun _ => pw_iV rfl rfl rfl rfl (pw_cellI f19h rfl)) (rfl : pm_ent 218 = some (4, 5, 12, 1, pmc_218)) rfl rfl (cm_218_s (pw_dp hd (by decide)) I (b) (by omega) (by omega) (e) (by omega) (by omega) ((-1)) (by omega) (by omega)) ?_
              rintro h20 v21 ⟨h20I, h20E, x22, rfl, hx22a, hx22b, hx22r⟩
              refine ⟨_, rfl, ?_⟩
              have h20F := E0.tr (h20E.wk (W' := [125]) (by first | rfl | simp))
              show pw X d h20 236 35 [some (.ref 141), some (pw_i b), some (pw_i e), some (pw_i dd), some (pw_i wt)] [pw_i x22, .ref 141] _
              change ((x22 = 1 ∧ pv_OK (pv_lo (pv_sdm h b e) (-1))) ∨ (x22 = 0 ∧ ¬ pv_OK (pv_lo (pv_sdm h b e) (-1)))) ∧ pw_gm h20 125 24 = pv_U (pv_lo (pv_sdm h b e) (-1)) (pv_chm h b e) ∧ pw_gm h20 125 25 = pv_D (pv_lo (pv_sdm h b e) (-1)) ∧ pw_gm h20 125 26 = pv_S (pv_lo (pv_sdm h b e) (-1)) (pv_chm h b e) 0 24 ∧ pw_gm h20 125 27 = pv_N (pv_lo (pv_sdm h b e) (-1)) 0 24 ∧ pw_gm h20 125 28 = pv_S (pv_lo (pv_sdm h b e) (-1)) (pv_chm h b e) 1 24 ∧ pw_gm h20 125 29 = pv_N (pv_lo (pv_sdm h b e) (-1)) 1 24 at hx22r
              rcases (by omega : x22 = 1 ∨ x22 = 0) with hb23 | hb23
              · skip
                refine pw_if E (pc' := 42) rfl (by decide) (by omega) (by omega) ?_ ?_
                · intro hc24
                  change x22 = (0 : Int) at hc24
                  exfalso; omega
                · intro hc25
                  change ¬ (x22 = (0 : Int)) at hc25
                  rw [pv_lo_no] at hx22r
                  obtain ⟨r1, r4, r5, -⟩ := hx22r
                  have hok := (r1.resolve_right (fun q => by have := q.1; omega)).2
                  have hUB := pv_UB (sd := pv_sdm h b e) (ch := pv_chm h b e) (pv_chmB I (by omega) (by omega) (by omega) (by omega))
                  have hD1 := hUB.2.2.2.2 hok
                  refine pw_ld E (pc' := 39) (st' := [pw_i 0, .ref 141]) rfl (fun _ => rfl) ?_
                  refine pw_goto E (pc' := 43) rfl (by decide) ?_
                  refine pw_putI h20I E (c := 125) (k := 0) (pc' := 46) rfl rfl rfl rfl (by omega) (by omega) (by omega) (by omega) rfl rfl ?_
                  intro h26I h26E
                  generalize h26w : pw_w h20 125 0 (pw_i 0) = h26 at h26I h26E ⊢
                  have h26F := h20F.tr (h26E.wk (W' := [125]) (by first | rfl | simp))
                  refine pw_ld E (pc' := 47) (st' := [.ref 141]) rfl (fun _ => rfl) ?_
                  have he28 : pw_g h26 125 0 = 0 := by rw [← h26w]; exact pw_g_eq (c := 125) (k := 0) h20I rfl rfl (by omega) (by omega)
                  refine pw_getI2 h26I E (c := 125) (k := 0) (pc' := 50) rfl rfl rfl rfl rfl rfl (fun hf27a hf27b => ?_)
                  refine pw_if E (pc' := 55) rfl (by decide) (by omega) (by omega) ?_ ?_
                  · intro hc29
                    change pw_g h26 125 0 ≤ (0 : Int) at hc29
                    have he30 : pw_gm h26 125 24 = pw_gm h20 125 24 := by rw [← h26w]; exact pw_gm_ne (by omega)
                    have he31 : pw_gm h26 125 25 = pw_gm h20 125 25 := by rw [← h26w]; exact pw_gm_ne (by omega)
                    refine pw_ld E (pc' := 56) (st' := [.ref 141]) rfl (fun _ => rfl) ?_
                    refine pw_ld E (pc' := 57) (st' := [.ref 141, .ref 141]) rfl (fun _ => rfl) ?_
                    refine pw_getLM h26I E (c := 125) (k := 24) (pc' := 60) rfl rfl rfl rfl rfl rfl ?_
                    refine pw_ld E (pc' := 61) (st' := [pw_i dd, .long (Int64.ofInt (pw_gm h26 125 24)), .ref 141]) rfl (fun _ => rfl) ?_
                    refine pw_i2l E (pc' := 62) rfl rfl (by omega) (by omega) ?_
                    refine pw_ld E (pc' := 63) (st' := [pw_i e, .long (Int64.ofInt dd), .long (Int64.ofInt (pw_gm h26 125 24)), .ref 141]) rfl (fun _ => rfl) ?_
                    refine pw_ld E (pc' := 64) (st' := [pw_i b, pw_i e, .long (Int64.ofInt dd), .long (Int64.ofInt (pw_gm h26 125 24)), .ref 141]) rfl (fun _ => rfl) ?_
                    refine pw_sub E (pc' := 65) rfl rfl ?_
                    refine pw_i2l E (pc' := 66) rfl rfl (by omega) (by omega) ?_
                    have hm32 := pw_mulG (a := dd) (b := e - b) (A := 99) (B := 11) (by omega) (by omega) (by omega) (by omega)
                    refine pw_lmul E (pc' := 67) rfl rfl ?_
                    refine pw_ld E (pc' := 68) (st' := [.ref 141, .long (Int64.ofInt (dd * (e - b))), .long (Int64.ofInt (pw_gm h26 125 24)), .ref 141]) rfl (fun _ => rfl) ?_
                    refine pw_getM h26I E (c := 125) (k := 25) (pc' := 71) rfl rfl rfl rfl rfl rfl (fun hf33a hf33b => ?_)
                    have hm34 := pw_mulS (a := dd * (e - b)) (b := pw_gm h26 125 25) (A := 1089) (B := 576) (by omega) (by omega) (by omega) (by omega)
                    refine pw_lmul E (pc' := 72) rfl rfl ?_
                    refine pw_lsub E (pc' := 73) rfl rfl ?_
                    refine pw_putL h26I E (c := 125) (k := 24) (pc' := 76) rfl rfl rfl rfl rfl rfl ?_
                    intro h35I h35E
                    generalize h35w : pw_w h26 125 24 (.long (Int64.ofInt ((pw_gm h26 125 24) - ((dd * (e - b)) * (pw_gm h26 125 25))))) = h35 at h35I h35E ⊢
                    have h35F := h26F.tr (h35E.wk (W' := [125]) (by first | rfl | simp))
                    have he36 : pw_gm h35 125 24 = (pw_gm h26 125 24) - ((dd * (e - b)) * (pw_gm h26 125 25)) := by rw [← h35w]; exact pw_gm_eq (c := 125) (k := 24) h26I rfl rfl (by omega) (by omega)
                    have he37 : pw_gm h35 125 25 = pw_gm h26 125 25 := by rw [← h35w]; exact pw_gm_ne (by omega)
                    have e5b : pw_gm h26 125 25 = pv_D (pv_sdm h b e) := by omega
                    have e4b : pw_gm h26 125 24 = pv_U (pv_sdm h b e) (pv_chm h b e) := by omega
                    have e4 : pw_gm h35 125 24 = pv_U (pv_sdm h b e) (pv_chm h b e) - dd * (e - b) * pv_D (pv_sdm h b e) := by rw [← e4b, ← e5b]; omega
                    refine pw_ld E (pc' := 77) (st' := [.ref 141]) rfl (fun _ => rfl) ?_
                    refine pw_ld E (pc' := 79) (st' := [pw_i wt, .ref 141]) rfl (fun _ => rfl) ?_
                    obtain ⟨f38l, f38h, -⟩ := pw_obj (c := 125) h35I rfl
                    refine pw_call (m' := 222) (As := [.ref 141, pw_i wt]) (rest := []) (ls'' := [some (.ref 141), some (pw_i wt), none, none]) (Nat.le_trans (by decide) hd) E rfl (fun _ => pw_iV rfl rfl rfl rfl (pw_cellI f38h rfl)) (rfl : pm_ent 222 = some (2, 4, 12, 2, pmc_222)) rfl rfl (cm_222_g (pw_dp hd (by decide)) h35I (wt) (by omega) (by omega) (by omega) (by omega) (by omega) (by omega)) ?_
                    rintro u40 v39 ⟨rfl, x41, rfl, hx41a, hx41b, hx41r⟩
                    refine ⟨_, rfl, ?_⟩
                    show pw X d h35 236 82 [some (.ref 141), some (pw_i b), some (pw_i e), some (pw_i dd), some (pw_i wt)] [.long (Int64.ofInt x41)] _
                    change (wt = 0 → x41 = Int.tdiv (pw_gm h35 125 24) (pw_gd (pw_gm h35 125 24) (pw_gm h35 125 25))) ∧ (wt ≠ 0 → x41 = Int.tdiv (pw_gm h35 125 25) (pw_gd (pw_gm h35 125 24) (pw_gm h35 125 25))) at hx41r
                    have he42 : pw_g h35 125 0 = pw_g h26 125 0 := by rw [← h35w]; exact pw_g_ne (by omega)
                    refine pw_lret E rfl ?_
                    have e5 : pw_gm h35 125 25 = pv_D (pv_sdm h b e) := by omega
                    rw [e5, e4] at hx41r
                    exact ⟨h35I, h35F, ⟨_, rfl, by omega, by omega, Or.inr ⟨by omega, by omega, hok, pv_low hx41r⟩⟩⟩
                  · intro hc43
                    change ¬ (pw_g h26 125 0 ≤ (0 : Int)) at hc43
                    exfalso; omega
              · skip
                refine pw_if E (pc' := 42) rfl (by decide) (by omega) (by omega) ?_ ?_
                · intro hc45
                  change x22 = (0 : Int) at hc45
                  refine pw_ld E (pc' := 43) (st' := [pw_i 1, .ref 141]) rfl (fun _ => rfl) ?_
                  refine pw_putI h20I E (c := 125) (k := 0) (pc' := 46) rfl rfl rfl rfl (by omega) (by omega) (by omega) (by omega) rfl rfl ?_
                  intro h46I h46E
                  generalize h46w : pw_w h20 125 0 (pw_i 1) = h46 at h46I h46E ⊢
                  have h46F := h20F.tr (h46E.wk (W' := [125]) (by first | rfl | simp))
                  refine pw_ld E (pc' := 47) (st' := [.ref 141]) rfl (fun _ => rfl) ?_
                  have he48 : pw_g h46 125 0 = 1 := by rw [← h46w]; exact pw_g_eq (c := 125) (k := 0) h20I rfl rfl (by omega) (by omega)
                  refine pw_getI2 h46I E (c := 125) (k := 0) (pc' := 50) rfl rfl rfl rfl rfl rfl (fun hf47a hf47b => ?_)
                  refine pw_if E (pc' := 55) rfl (by decide) (by omega) (by omega) ?_ ?_
                  · intro hc49
                    change pw_g h46 125 0 ≤ (0 : Int) at hc49
                    exfalso; omega
                  · intro hc50
                    change ¬ (pw_g h46 125 0 ≤ (0 : Int)) at hc50
                    refine pw_ld E (pc' := 54) (st' := [.long (Int64.ofInt 0)]) rfl (fun _ => rfl) ?_
                    refine pw_lret E rfl ?_
                    exact ⟨h46I, h46F, ⟨_, rfl, by omega, by omega, Or.inl ⟨by omega, Or.inr (by have q2 := (hx22r.1.resolve_left (fun q => by have := q.1; omega)).2; rw [pv_lo_no] at q2; exact q2)⟩⟩⟩
                · intro hc51
                  change ¬ (x22 = (0 : Int)) at hc51
                  exfalso; omega
          · skip
            refine pw_if E (pc' := 42) rfl (by decide) (by omega) (by omega) ?_ ?_
            · intro hc53
              change x15 = (0 : Int) at hc53
              refine pw_ld E (pc' := 43) (st' := [pw_i 1, .ref 141]) rfl (fun _ => rfl) ?_
              refine pw_putI I E (c := 125) (k := 0) (pc' := 46) rfl rfl rfl rfl (by omega) (by omega) (by omega) (by omega) rfl rfl ?_
              intro h54I h54E
              generalize h54w : pw_w h 125 0 (pw_i 1) = h54 at h54I h54E ⊢
              have h54F := E0.tr (h54E.wk (W' := [125]) (by first | rfl | simp))
              refine pw_ld E (pc' := 47) (st' := [.ref 141]) rfl (fun _ => rfl) ?_
              have he56 : pw_g h54 125 0 = 1 := by rw [← h54w]; exact pw_g_eq (c := 125) (k := 0) I rfl rfl (by omega) (by omega)
              refine pw_getI2 h54I E (c := 125) (k := 0) (pc' := 50) rfl rfl rfl rfl rfl rfl (fun hf55a hf55b => ?_)
              refine pw_if E (pc' := 55) rfl (by decide) (by omega) (by omega) ?_ ?_
              · intro hc57
                change pw_g h54 125 0 ≤ (0 : Int) at hc57
                exfalso; omega
              · intro hc58
                change ¬ (pw_g h54 125 0 ≤ (0 : Int)) at hc58
                refine pw_ld E (pc' := 54) (st' := [.long (Int64.ofInt 0)]) rfl (fun _ => rfl) ?_
                refine pw_lret E rfl ?_
                exact ⟨h54I, h54F, ⟨_, rfl, by omega, by omega, Or.inl ⟨by omega, Or.inl (by omega)⟩⟩⟩
            · intro hc59
              change ¬ (x15 = (0 : Int)) at hc59
              exfalso; omega
      · skip
        refine pw_if E (pc' := 42) rfl (by decide) (by omega) (by omega) ?_ ?_
        · intro hc61
          change x9 = (0 : Int) at hc61
          refine pw_ld E (pc' := 43) (st' := [pw_i 1, .ref 141]) rfl (fun _ => rfl) ?_
          refine pw_putI I E (c := 125) (k := 0) (pc' := 46) rfl rfl rfl rfl (by omega) (by omega) (by omega) (by omega) rfl rfl ?_
          intro h62I h62E
          generalize h62w : pw_w h 125 0 (pw_i 1) = h62 at h62I h62E ⊢
          have h62F := E0.tr (h62E.wk (W' := [125]) (by first | rfl | simp))
          refine pw_ld E (pc' := 47) (st' := [.ref 141]) rfl (fun _ => rfl) ?_
          have he64 : pw_g h62 125 0 = 1 := by rw [← h62w]; exact pw_g_eq (c := 125) (k := 0) I rfl rfl (by omega) (by omega)
          refine pw_getI2 h62I E (c := 125) (k := 0) (pc' := 50) rfl rfl rfl rfl rfl rfl (fun hf63a hf63b => ?_)
          refine pw_if E (pc' := 55) rfl (by decide) (by omega) (by omega) ?_ ?_
          · intro hc65
            change pw_g h62 125 0 ≤ (0 : Int) at hc65
            exfalso; omega
          · intro hc66
            change ¬ (pw_g h62 125 0 ≤ (0 : Int)) at hc66
            refine pw_ld E (pc' := 54) (st' := [.long (Int64.ofInt 0)]) rfl (fun _ => rfl) ?_
            refine pw_lret E rfl ?_
            exact ⟨h62I, h62F, ⟨_, rfl, by omega, by omega, Or.inl ⟨by omega, Or.inl (by omega)⟩⟩⟩
        · intro hc67
          change ¬ (x9 = (0 : Int)) at hc67
          exfalso; omega
  · skip
    refine pw_if E (pc' := 42) rfl (by decide) (by omega) (by omega) ?_ ?_
    · intro hc69
      change x3 = (0 : Int) at hc69
      refine pw_ld E (pc' := 43) (st' := [pw_i 1, .ref 141]) rfl (fun _ => rfl) ?_
      refine pw_putI I E (c := 125) (k := 0) (pc' := 46) rfl rfl rfl rfl (by omega) (by omega) (by omega) (by omega) rfl rfl ?_
      intro h70I h70E
      generalize h70w : pw_w h 125 0 (pw_i 1) = h70 at h70I h70E ⊢
      have h70F := E0.tr (h70E.wk (W' := [125]) (by first | rfl | simp))
      refine pw_ld E (pc' := 47) (st' := [.ref 141]) rfl (fun _ => rfl) ?_
      have he72 : pw_g h70 125 0 = 1 := by rw [← h70w]; exact pw_g_eq (c := 125) (k := 0) I rfl rfl (by omega) (by omega)
      refine pw_getI2 h70I E (c := 125) (k := 0) (pc' := 50) rfl rfl rfl rfl rfl rfl (fun hf71a hf71b => ?_)
      refine pw_if E (pc' := 55) rfl (by decide) (by omega) (by omega) ?_ ?_
      · intro hc73
        change pw_g h70 125 0 ≤ (0 : Int) at hc73
        exfalso; omega
      · intro hc74
        change ¬ (pw_g h70 125 0 ≤ (0 : Int)) at hc74
        refine pw_ld E (pc' := 54) (st' := [.long (Int64.ofInt 0)]) rfl (fun _ => rfl) ?_
        refine pw_lret E rfl ?_
        exact ⟨h70I, h70F, ⟨_, rfl, by omega, by omega, Or.inl ⟨by omega, Or.inl (by omega)⟩⟩⟩
    · intro hc75
      change ¬ (x3 = (0 : Int)) at hc75
      exfalso; omega
end
section
/-! a new row of ints: Arrays.copyOf, Script.copyOf -/
/-- as pw_E, but one cell of at most 1000 may be new -/
def pw_G (W : List Nat) (h h' : pm_H) : Prop := (h.length ≤ h'.length ∧ h'.length ≤ h.length + 1 ∧ pm_slt h ≤ pm_slt h' ∧ pm_slt h' ≤ pm_slt h + 1000) ∧ ∀ c : Nat, c < h.length → c ∉ W → h'[c]? = h[c]?
theorem pw_E.G {W : List Nat} {a b : pm_H} (h1 : pw_E W a b) : pw_G W a b := ⟨⟨by rw [h1.1.1]; exact Nat.le_refl _, by rw [h1.1.1]; omega, by rw [h1.1.2]; exact Nat.le_refl _, by rw [h1.1.2]; omega⟩, h1.2.1⟩
theorem pw_G.tE {W : List Nat} {a b c : pm_H} (h1 : pw_G W a b) (h2 : pw_E W b c) : pw_G W a c := ⟨by rw [h2.1.1, h2.1.2]; exact h1.1, fun q hq hn => (h2.2.1 q (Nat.lt_of_lt_of_le hq h1.1.1) hn).trans (h1.2 q hq hn)⟩
theorem pw_E.tG {W : List Nat} {a b c : pm_H} (h1 : pw_E W a b) (h2 : pw_G W b c) : pw_G W a c := ⟨by rw [← h1.1.1, ← h1.1.2]; exact h2.1, fun q hq hn => (h2.2 q (by rw [h1.1.1]; exact hq) hn).trans (h1.2.1 q hq hn)⟩
theorem pw_G.wk {W W' : List Nat} {a b : pm_H} (h1 : pw_G W a b) (hs : W.all (fun c => W'.contains c) = true) : pw_G W' a b := ⟨h1.1, fun q hq hn => h1.2 q hq fun hm => hn (by
  have := List.all_eq_true.mp hs q hm
  exact List.contains_iff_mem.mp this)⟩
theorem pw_Gg {h h' : pm_H} {c : Nat} {W : List Nat} {s : pw_S} (I : pw_I h) (E : pw_G W h h') (hs : pw_T[c]? = some s) (hn : W.contains c = false) (k : Nat) : pw_at h' c k = pw_at h c k := by
  obtain ⟨q, h1, -⟩ := I.1 c _ hs
  unfold pw_at
  rw [E.2 c (List.getElem?_eq_some_iff.mp h1).1 (fun hm => by
    have := List.contains_iff_mem.mpr hm
    rw [hn] at this; cases this)]
theorem pw_vk_push {h : pm_H} {x : pm_C} {sp : pw_F} {v : Value} (hv : pw_vk h sp v) : pw_vk (h ++ [x]) sp v := by
  obtain ⟨k, lo, hi⟩ := sp
  have key : (∃ (c : Nat) (l : List Value), v = .ref (16 + c) ∧ h[c]? = some (.inl (0, l)) ∧ l.length ≤ 1000 ∧ pw_ints l) → ∃ (c2 : Nat) (l : List Value), v = .ref (16 + c2) ∧ (h ++ [x])[c2]? = some (.inl (0, l)) ∧ l.length ≤ 1000 ∧ pw_ints l := by
    rintro ⟨c2, l, e1, e2, e3⟩
    exact ⟨c2, l, e1, by rw [List.getElem?_append_left (List.getElem?_eq_some_iff.mp e2).1]; exact e2, e3⟩
  match k, hv with
  | 0, hv => exact hv
  | 1, hv => exact hv
  | 2, hv => exact hv
  | 4, hv => exact hv
  | 3, hv => exact key hv
  | k + 5, hv => exact key hv
theorem pw_ok_push {h : pm_H} {y : pm_C} {s : pw_S} {x : pm_C} (hv : pw_ok h s x) : pw_ok (h ++ [y]) s x := by
  match s, x, hv with
  | .inl _, .inl _, hv => exact hv
  | .inr (ci, sps), .inr (cj, fs), hv => exact ⟨hv.1, hv.2.1, fun k sp v g1 g2 => pw_vk_push (hv.2.2 k sp v g1 g2)⟩
theorem pw_scv_mono {n m : Nat} (hn : n ≤ m) {v : Value} (h : pm_scv n v = true) : pm_scv m v = true := by
  cases v with
  | ref a => exact Nat.blt_eq.mpr (Nat.lt_of_lt_of_le (Nat.blt_eq.mp h) hn)
  | _ => rfl
theorem pw_scc_mono {n m : Nat} (hn : n ≤ m) {c : pm_C} (h : pm_scc n c = true) : pm_scc m c = true := by
  match c, h with
  | .inl q, h =>
    have h : cond (Nat.blt q.1 5) true (pm_all (pm_scv n) q.2) = true := h
    show cond (Nat.blt q.1 5) true (pm_all (pm_scv m) q.2) = true
    cases hb : Nat.blt q.1 5 with
    | true => rfl
    | false =>
      rw [hb] at h
      have h : pm_all (pm_scv n) q.2 = true := h
      show pm_all (pm_scv m) q.2 = true
      rw [pm_all_eq, List.all_eq_true] at h ⊢
      exact fun v hv => pw_scv_mono hn (h v hv)
  | .inr q, h =>
    have h : pm_all (pm_scv n) q.2 = true := h
    show pm_all (pm_scv m) q.2 = true
    rw [pm_all_eq, List.all_eq_true] at h ⊢
    exact fun v hv => pw_scv_mono hn (h v hv)
theorem pw_I_push {h : pm_H} {t : Nat} {l : List Value} (ht : Nat.blt t 5 = true) (I : pw_I h) : pw_I (h ++ [.inl (t, l)]) := by
  refine ⟨fun c s hT => ?_, ?_⟩
  · obtain ⟨q, h1, h2⟩ := I.1 c s hT
    exact ⟨q, by rw [List.getElem?_append_left (List.getElem?_eq_some_iff.mp h1).1]; exact h1, pw_ok_push h2⟩
  · have h1 := I.2
    unfold pm_scH at h1 ⊢
    rw [pm_all_eq, List.all_eq_true, pm_len_eq] at h1 ⊢
    intro c hc
    rw [List.length_append]
    rcases List.mem_append.mp hc with g | g
    · exact pw_scc_mono (by simp) (h1 c g)
    · rw [List.mem_singleton.mp g]
      show cond (Nat.blt t 5) true _ = true
      rw [ht]; rfl
section Pn
variable {X : List (Nat × List Value)} {d : Nat} {h : pm_H} {m pc pc' len na nl own rt : Nat} {C : pm_T (Instr × Nat)} {ls : pm_L} {r : List Value} {Q : pm_H → (Option Value ⊕ Unit) → Prop} {i : Instr}
theorem pw_newi {n : Int} (he : pm_ent m = some (na, nl, own, rt, C)) (hq : pm_get C pc = some (.newarray .int, len)) (hc : pc + len = pc') (h0 : 0 ≤ n) (h1 : n ≤ 60000) (H : pw X d (h ++ [.inl (0, List.replicate n.toNat (.int 0))]) m pc' ls (.ref (16 + h.length) :: r) Q) : pw X d h m pc ls (pw_i n :: r) Q := by
  subst hc
  refine pw_go he hq (fun ih => ?_) H
  show cond (decide (Int32.ofInt n < 0)) none (cond (Nat.ble (Int32.ofInt n).toNatClampNeg 60000) (cond (Nat.blt 0 5) (pm_fn (pm_len h) fun z => pm_fn (pc + len) fun q => ih d (h ++ [.inl (0, pm_rep (Int32.ofInt n).toNatClampNeg (.int 0))]) m q ls (.ref (16 + z) :: r)) none) none) = _
  rw [decide_eq_false (pw_neg h0 (by omega)), cond_false, pw_clamp h0 (by omega), Nat.ble_eq_true_of_le (by omega), cond_true, pm_fn_eq, pm_fn_eq, pm_len_eq, pm_rep_eq]
  rfl
theorem pw_cpyN {ix c q a a2 : Nat} {l l' : List Value} {n : Int} (he : pm_ent m = some (na, nl, own, rt, C)) (hq : pm_get C pc = some (.invokestatic ix, len)) (hl : pm_get (pm_lnk own) ix = some (12, 5, 0, 0)) (e1 : h[c]? = some (.inl (0, l))) (f1 : h[q]? = some (.inl (0, l'))) (h0 : 0 ≤ n) (h1 : n ≤ 60000) (hn : n.toNat ≤ l.length) (hn2 : n.toNat = l'.length) (ha : 16 + c = a) (ha2 : 16 + q = a2) (h8 : pm_cat8 r = true)
    (H : pw X d (h.set q (.inl (0, l.take n.toNat))) m (pc + 3) ls r Q) : pw X d h m pc ls (pw_i n :: pw_i 0 :: .ref a2 :: pw_i 0 :: .ref a :: r) Q := by
  refine pw_go he hq (fun ih => ?_) H
  refine (pw_prim0 (len := len) hl rfl).trans ?_
  show (match pm_row X h a, pm_cell h a2 with
    | some (t, l), some (.inl (t', l')) => cond (Nat.beq t 0 && (Nat.beq t' 0 && (Nat.ble 16 a && (!decide (Int32.ofInt n < 0) && (!decide (Int32.ofInt 0 < 0) && (!decide (Int32.ofInt 0 < 0) && (Nat.ble ((Int32.ofInt 0).toNatClampNeg + (Int32.ofInt n).toNatClampNeg) (pm_len l) && Nat.ble ((Int32.ofInt 0).toNatClampNeg + (Int32.ofInt n).toNatClampNeg) (pm_len l'))))))))
      (cond (pm_cat8 r) (pm_fn (pc + 3) fun q => ih d (pm_set h (a2 - 16) (.inl (0, pm_cpy l l' (Int32.ofInt 0).toNatClampNeg (Int32.ofInt 0).toNatClampNeg (Int32.ofInt n).toNatClampNeg))) m q ls r) none) none
    | _, _ => none) = _
  rw [pw_rowI e1 ha, pw_cellI f1 ha2]
  dsimp only
  have en : (Int32.ofInt n).toNatClampNeg = n.toNat := pw_clamp h0 (by omega)
  have e0 : (Int32.ofInt 0).toNatClampNeg = 0 := rfl
  rw [en, e0, decide_eq_false (pw_neg h0 (by omega)), pm_len_eq, pm_len_eq]
  have hb : (Nat.beq 0 0 && (Nat.beq 0 0 && (Nat.ble 16 a && (!false && (!decide (Int32.ofInt 0 < 0) && (!decide (Int32.ofInt 0 < 0) && (Nat.ble (0 + n.toNat) l.length && Nat.ble (0 + n.toNat) l'.length))))))) = true := by
    rw [Nat.ble_eq_true_of_le (show 16 ≤ a by omega), Nat.ble_eq_true_of_le (show 0 + n.toNat ≤ l.length by omega), Nat.ble_eq_true_of_le (show 0 + n.toNat ≤ l'.length by omega)]
    rfl
  have ea : a2 - 16 = q := by omega
  rw [hb, cond_true, h8, cond_true, pm_fn_eq, ea, pm_set_eq]
  have ec : pm_cpy l l' 0 0 n.toNat = l.take n.toNat := by
    unfold pm_cpy
    rw [List.take_zero, List.drop_zero, List.nil_append, List.drop_of_length_le (by omega), List.append_nil]
  rw [ec]
end Pn
theorem cm_325 {X : List (Nat × List Value)} {d : Nat} {h : pm_H} {c : Nat} {l : List Value} {n : Int} (e1 : h[c]? = some (.inl (0, l))) (hl : l.length = 1000) (h0 : 0 ≤ n) (h1 : n ≤ 999) : pw X d h 325 0 [some (.ref (16 + c)), some (pw_i n), none] [] (fun h' v => h' = h ++ [.inl (0, l.take n.toNat)] ∧ v = .inl (some (.ref (16 + h.length)))) := by
  have E : pm_ent 325 = some (2, 3, 14, 3, pmc_325) := rfl
  have hc : c < h.length := (List.getElem?_eq_some_iff.mp e1).1
  refine pw_ld E (pc' := 1) (st' := [pw_i n]) rfl (fun _ => rfl) ?_
  refine pw_ld E (pc' := 2) (st' := [.ref (16 + c), pw_i n]) rfl (fun _ => rfl) ?_
  refine pw_alen E (pc' := 3) rfl (pw_rowI e1 rfl) rfl rfl ?_
  rw [hl]
  refine pw_if2 E (pc' := 14) rfl (by decide) (by omega) (by omega) (by decide) (by decide) ?_ ?_
  · intro _
    refine pw_ld E (pc' := 15) (st' := [pw_i n]) rfl (fun _ => rfl) ?_
    refine pw_newi E (pc' := 17) rfl rfl h0 (by omega) ?_
    have e2 : (h ++ [.inl (0, List.replicate n.toNat (.int 0))])[c]? = some (.inl (0, l)) := by rw [List.getElem?_append_left hc]; exact e1
    have e3 : (h ++ [.inl (0, List.replicate n.toNat (.int 0))])[h.length]? = some (.inl (0, List.replicate n.toNat (.int 0))) := by rw [List.getElem?_append_right (Nat.le_refl _), Nat.sub_self]; rfl
    generalize hg : h ++ [.inl (0, List.replicate n.toNat (Value.int 0))] = g at e2 e3 ⊢
    refine pw_astn E (pc' := 18) (ls' := [some (.ref (16 + c)), some (pw_i n), some (.ref (16 + h.length))]) rfl rfl rfl rfl ?_
    refine pw_ld E (pc' := 19) (st' := [.ref (16 + c)]) rfl (fun _ => rfl) ?_
    refine pw_ld E (pc' := 20) (st' := [pw_i 0, .ref (16 + c)]) rfl (fun _ => rfl) ?_
    refine pw_ld E (pc' := 21) (st' := [.ref (16 + h.length), pw_i 0, .ref (16 + c)]) rfl (fun _ => rfl) ?_
    refine pw_ld E (pc' := 22) (st' := [pw_i 0, .ref (16 + h.length), pw_i 0, .ref (16 + c)]) rfl (fun _ => rfl) ?_
    refine pw_ld E (pc' := 23) (st' := [.ref (16 + c), pw_i 0, .ref (16 + h.length), pw_i 0, .ref (16 + c)]) rfl (fun _ => rfl) ?_
    refine pw_alen E (pc' := 24) rfl (pw_rowI e2 rfl) rfl rfl ?_
    rw [hl]
    refine pw_ld E (pc' := 25) (st' := [pw_i n, pw_i (1000 : Nat), pw_i 0, .ref (16 + h.length), pw_i 0, .ref (16 + c)]) rfl (fun _ => rfl) ?_
    refine pw_min E rfl rfl (by decide) (by decide) (by omega) (by omega) rfl ?_
    rw [show min ((1000 : Nat) : Int) n = n by omega]
    refine pw_cpyN (q := h.length) E rfl rfl e2 e3 h0 (by omega) (by omega) List.length_replicate.symm rfl rfl rfl ?_
    refine pw_ld E (pc' := 32) (st' := [.ref (16 + h.length)]) rfl (fun _ => rfl) ?_
    refine pw_aret E rfl ⟨?_, rfl⟩
    rw [← hg, List.set_append_right _ _ (Nat.le_refl _), Nat.sub_self]
    rfl
  · intro hn
    exact absurd (show pw_c .ne n ((1000 : Nat) : Int) from (by show n ≠ ((1000 : Nat) : Int); omega)) hn
theorem pw_scq {h : pm_H} {q : Nat} {x : pm_C} (hq : h[q]? = some x) : pm_scv (16 + h.length) (.ref (16 + q)) = true := by
  have := (List.getElem?_eq_some_iff.mp hq).1
  exact Nat.blt_eq.mpr (by omega)
set_option maxHeartbeats 4000000 in
theorem cm_73t {X : List (Nat × List Value)} {d : Nat} {h : pm_H} (I : pw_I h) (c : Nat) (hc : pw_Sc c) (q0 : Nat) (q0l : List Value) (q0h : h[q0]? = some (.inl (0, q0l))) (q0n : q0l.length ≤ 1000) (q0i : pw_ints q0l) : pw X d h 73 12 [some (.ref (16 + c)), some (.ref 46), none] [.ref (16 + q0), .ref (16 + c)] (fun h' v => pw_I h' ∧ pw_E [c, c + 1, c + 2, c + 3, c + 4] h h' ∧ v = .inl none) := by
  have E : pm_ent 73 = some (2, 3, 7, 4, pmc_73) := rfl
  have E0 : pw_E [c, c + 1, c + 2, c + 3, c + 4] h h := pw_E.rf _ _
  refine pw_put0 I E (c := c) (k := 0) (pc' := 15) rfl rfl (pw_Sc_o hc) rfl ⟨q0, q0l, rfl, q0h, q0n, q0i⟩ (pw_scq q0h) rfl rfl rfl ?_
  intro h1I h1E
  generalize h1w : pw_w h c 0 (.ref (16 + q0)) = h1 at h1I h1E ⊢
  have h1F := E0.tr (h1E.wk (W' := [c, c + 1, c + 2, c + 3, c + 4]) (by first | rfl | simp))
  refine pw_ld E (pc' := 16) (st' := [.ref (16 + c)]) rfl (fun _ => rfl) ?_
  refine pw_ld E (pc' := 17) (st' := [.ref 46, .ref (16 + c)]) rfl (fun _ => rfl) ?_
  refine pw_getI h1I E (c := 30) (k := 1) (pc' := 20) rfl rfl rfl rfl rfl rfl (fun hf2a hf2b hf2c hf2d => ?_)
  refine pw_putI h1I E (c := c) (k := 1) (pc' := 23) rfl rfl (pw_Sc_o hc) rfl (by omega) (by omega) (by omega) (by omega) rfl rfl ?_
  intro h3I h3E
  generalize h3w : pw_w h1 c 1 (pw_i (pw_g h1 30 1)) = h3 at h3I h3E ⊢
  have h3F := h1F.tr (h3E.wk (W' := [c, c + 1, c + 2, c + 3, c + 4]) (by first | rfl | simp))
  refine pw_ld E (pc' := 24) (st' := [pw_i 0]) rfl (fun _ => rfl) ?_
  refine pw_istn E (pc' := 25) (ls' := [some (.ref (16 + c)), some (.ref 46), some (pw_i 0)]) rfl rfl rfl rfl ?_
  have L25 : ∀ (n25 : Nat) (k25_2 : Int) (h25 : pm_H), pw_I h25 → pw_E [c, c + 1, c + 2, c + 3, c + 4] h h25 → 0 ≤ k25_2 → k25_2 ≤ 4 → (4 - k25_2).toNat = n25 → pw X d h25 73 25 [some (.ref (16 + c)), some (.ref 46), some (pw_i k25_2)] [] (fun h' v => pw_I h' ∧ pw_E [c, c + 1, c + 2, c + 3, c + 4] h h' ∧ v = .inl none) := by
    intro n25
    induction n25 using Nat.strongRecOn with
    | ind n25 ih25 =>
      intro k25_2 h25 I25 E25 k25_2a k25_2b hm25
      refine pw_ld E (pc' := 26) (st' := [pw_i k25_2]) rfl (fun _ => rfl) ?_
      refine pw_ld E (pc' := 27) (st' := [pw_i 4, pw_i k25_2]) rfl (fun _ => rfl) ?_
      refine pw_if2 E (pc' := 84) rfl (by decide) (by omega) (by omega) (by decide) (by decide) ?_ ?_
      · intro hc4
        have hc4 : (4 : Int) ≤ k25_2 := hc4
        refine pw_vret E rfl ?_
        exact ⟨I25, E25, rfl⟩
      · intro hc5
        have hc5 : ¬ ((4 : Int) ≤ k25_2) := hc5
        refine pw_ld E (pc' := 31) (st' := [.ref (16 + c)]) rfl (fun _ => rfl) ?_
        refine pw_getR (b := 16 + (c + 1)) I25 E (c := c) (k := 2) (pc' := 34) rfl rfl (pw_Sc_o hc) rfl rfl rfl rfl ?_
        refine pw_ld E (pc' := 35) (st' := [pw_i k25_2, .ref (16 + (c + 1))]) rfl (fun _ => rfl) ?_
        refine pw_ld E (pc' := 36) (st' := [.ref 46, pw_i k25_2, .ref (16 + (c + 1))]) rfl (fun _ => rfl) ?_
        refine pw_getR (b := 47) I25 E (c := 30) (k := 2) (pc' := 39) rfl rfl rfl rfl rfl rfl rfl ?_
        refine pw_ld E (pc' := 40) (st' := [pw_i k25_2, .ref 47, pw_i k25_2, .ref (16 + (c + 1))]) rfl (fun _ => rfl) ?_
        refine pw_ald I25 E (c := 31) (pc' := 41) rfl rfl rfl (by decide) rfl (by decide) (by omega) (by omega) rfl (fun hf6a hf6b hf6c hf6d => ?_)
        refine pw_ast0 I25 E (c := c + 1) (pc' := 42) rfl rfl (pw_Sc_1 hc) (by decide) rfl (by decide) (by omega) (by omega) (pw_b1 (by omega) (by omega)) (by omega) (by omega) (by omega) (by omega) rfl ?_
        intro h7I h7E
        generalize h7w : pw_w h25 (c + 1) (k25_2.toNat) (pw_i (pw_g h25 31 (k25_2.toNat))) = h7 at h7I h7E ⊢
        have h7F := E25.tr (h7E.wk (W' := [c, c + 1, c + 2, c + 3, c + 4]) (by first | rfl | simp))
        refine pw_ld E (pc' := 43) (st' := [.ref (16 + c)]) rfl (fun _ => rfl) ?_
        refine pw_getR (b := 16 + (c + 2)) h7I E (c := c) (k := 3) (pc' := 46) rfl rfl (pw_Sc_o hc) rfl rfl rfl rfl ?_
        refine pw_ld E (pc' := 47) (st' := [pw_i k25_2, .ref (16 + (c + 2))]) rfl (fun _ => rfl) ?_
        refine pw_ld E (pc' := 48) (st' := [.ref 46, pw_i k25_2, .ref (16 + (c + 2))]) rfl (fun _ => rfl) ?_
        refine pw_getR (b := 48) h7I E (c := 30) (k := 3) (pc' := 51) rfl rfl rfl rfl rfl rfl rfl ?_
        refine pw_ld E (pc' := 52) (st' := [pw_i k25_2, .ref 48, pw_i k25_2, .ref (16 + (c + 2))]) rfl (fun _ => rfl) ?_
        refine pw_ald h7I E (c := 32) (pc' := 53) rfl rfl rfl (by decide) rfl (by decide) (by omega) (by omega) rfl (fun hf8a hf8b hf8c hf8d => ?_)
        refine pw_ast0 h7I E (c := c + 2) (pc' := 54) rfl rfl (pw_Sc_2 hc) (by decide) rfl (by decide) (by omega) (by omega) rfl (by omega) (by omega) (by omega) (by omega) rfl ?_
        intro h9I h9E
        generalize h9w : pw_w h7 (c + 2) (k25_2.toNat) (pw_i (pw_g h7 32 (k25_2.toNat))) = h9 at h9I h9E ⊢
        have h9F := h7F.tr (h9E.wk (W' := [c, c + 1, c + 2, c + 3, c + 4]) (by first | rfl | simp))
        refine pw_ld E (pc' := 55) (st' := [.ref (16 + c)]) rfl (fun _ => rfl) ?_
        refine pw_getR (b := 16 + (c + 3)) h9I E (c := c) (k := 4) (pc' := 58) rfl rfl (pw_Sc_o hc) rfl rfl rfl rfl ?_
        refine pw_ld E (pc' := 59) (st' := [pw_i k25_2, .ref (16 + (c + 3))]) rfl (fun _ => rfl) ?_
        refine pw_ld E (pc' := 60) (st' := [.ref 46, pw_i k25_2, .ref (16 + (c + 3))]) rfl (fun _ => rfl) ?_
        refine pw_getR (b := 49) h9I E (c := 30) (k := 4) (pc' := 63) rfl rfl rfl rfl rfl rfl rfl ?_
        refine pw_ld E (pc' := 64) (st' := [pw_i k25_2, .ref 49, pw_i k25_2, .ref (16 + (c + 3))]) rfl (fun _ => rfl) ?_
        refine pw_ald h9I E (c := 33) (pc' := 65) rfl rfl rfl (by decide) rfl (by decide) (by omega) (by omega) rfl (fun hf10a hf10b hf10c hf10d => ?_)
        refine pw_ast0 h9I E (c := c + 3) (pc' := 66) rfl rfl (pw_Sc_3 hc) (by decide) rfl (by decide) (by omega) (by omega) rfl (by omega) (by omega) (by omega) (by omega) rfl ?_
        intro h11I h11E
        generalize h11w : pw_w h9 (c + 3) (k25_2.toNat) (pw_i (pw_g h9 33 (k25_2.toNat))) = h11 at h11I h11E ⊢
        have h11F := h9F.tr (h11E.wk (W' := [c, c + 1, c + 2, c + 3, c + 4]) (by first | rfl | simp))
        refine pw_ld E (pc' := 67) (st' := [.ref (16 + c)]) rfl (fun _ => rfl) ?_
        refine pw_getR (b := 16 + (c + 4)) h11I E (c := c) (k := 5) (pc' := 70) rfl rfl (pw_Sc_o hc) rfl rfl rfl rfl ?_
        refine pw_ld E (pc' := 71) (st' := [pw_i k25_2, .ref (16 + (c + 4))]) rfl (fun _ => rfl) ?_
        refine pw_ld E (pc' := 72) (st' := [.ref 46, pw_i k25_2, .ref (16 + (c + 4))]) rfl (fun _ => rfl) ?_
        refine pw_getR (b := 50) h11I E (c := 30) (k := 5) (pc' := 75) rfl rfl rfl rfl rfl rfl rfl ?_
        refine pw_ld E (pc' := 76) (st' := [pw_i k25_2, .ref 50, pw_i k25_2, .ref (16 + (c + 4))]) rfl (fun _ => rfl) ?_
        refine pw_ald h11I E (c := 34) (pc' := 77) rfl rfl rfl (by decide) rfl (by decide) (by omega) (by omega) rfl (fun hf12a hf12b hf12c hf12d => ?_)
        refine pw_ast0 h11I E (c := c + 4) (pc' := 78) rfl rfl (pw_Sc_4 hc) (by decide) rfl (by decide) (by omega) (by omega) rfl (by omega) (by omega) (by omega) (by omega) rfl ?_
        intro h13I h13E
        generalize h13w : pw_w h11 (c + 4) (k25_2.toNat) (pw_i (pw_g h11 34 (k25_2.toNat))) = h13 at h13I h13E ⊢
        have h13F := h11F.tr (h13E.wk (W' := [c, c + 1, c + 2, c + 3, c + 4]) (by first | rfl | simp))
        refine pw_inc E (pc' := 81) (ls' := [some (.ref (16 + c)), some (.ref 46), some (pw_i (k25_2 + 1))]) rfl rfl rfl rfl ?_
        refine pw_goto E (pc' := 25) rfl (by decide) ?_
        exact ih25 _ (by omega) (k25_2 + 1) h13 h13I h13F (by omega) (by omega)  rfl
  exact L25 _ (0) h3 h3I h3F (by omega) (by omega)  rfl
theorem pw_G_push {W : List Nat} {h : pm_H} {l : List Value} (hl : l.length ≤ 1000) : pw_G W h (h ++ [.inl (0, l)]) := by
  refine ⟨⟨by simp, by simp, by rw [pm_slt_push]; omega, by rw [pm_slt_push]; show pm_slt h + l.length ≤ _; omega⟩, fun c hc _ => List.getElem?_append_left hc⟩
theorem cm_73 {X : List (Nat × List Value)} {d : Nat} {h : pm_H} (hd : 2 ≤ d) (I : pw_I h) (c : Nat) (hc : pw_Sc c) (hlen : pw_g h 30 1 ≤ 999) : pw X d h 73 0 [some (.ref (16 + c)), some (.ref 46), none] [] (fun h' v => pw_I h' ∧ pw_G [c, c + 1, c + 2, c + 3, c + 4] h h' ∧ v = .inl none) := by
  have E : pm_ent 73 = some (2, 3, 7, 4, pmc_73) := rfl
  refine pw_ld E (pc' := 1) (st' := [.ref (16 + c)]) rfl (fun _ => rfl) ?_
  refine pw_ld E (pc' := 2) (st' := [.ref 46, .ref (16 + c)]) rfl (fun _ => rfl) ?_
  refine pw_getR (b := 52) I E (c := 30) (k := 0) (pc' := 5) rfl rfl rfl rfl rfl rfl rfl ?_
  refine pw_ld E (pc' := 6) (st' := [.ref 46, .ref 52, .ref (16 + c)]) rfl (fun _ => rfl) ?_
  refine pw_getI I E (c := 30) (k := 1) (pc' := 9) rfl rfl rfl rfl rfl rfl (fun ha hb _ _ => ?_)
  obtain ⟨l, e1, e2, e3⟩ := pw_arr (c := 36) I rfl
  refine pw_call (m' := 325) (As := [.ref 52, pw_i (pw_g h 30 1)]) (rest := [.ref (16 + c)]) (ls'' := [some (.ref (16 + 36)), some (pw_i (pw_g h 30 1)), none]) (by omega) E rfl (fun _ => pw_iS rfl rfl rfl) (rfl : pm_ent 325 = some (2, 3, 14, 3, pmc_325)) rfl rfl (cm_325 e1 e2 ha hlen) ?_
  rintro h1 v1 ⟨rfl, rfl⟩
  refine ⟨_, rfl, ?_⟩
  have ht : (l.take (pw_g h 30 1).toNat).length ≤ 1000 := by rw [List.length_take]; omega
  refine pw_mono (cm_73t (pw_I_push rfl I) c hc h.length (l.take (pw_g h 30 1).toNat) (by rw [List.getElem?_append_right (Nat.le_refl _), Nat.sub_self]; rfl) ht (fun j v hv => ?_)) ?_
  · rw [List.getElem?_take] at hv
    split at hv
    · obtain ⟨a, rfl, -⟩ := e3 j v hv
      exact ⟨_, rfl⟩
    · cases hv
  · rintro h2 v2 ⟨I2, E2, rfl⟩
    exact ⟨I2, (pw_G_push ht).tE E2, rfl⟩
set_option maxHeartbeats 4000000 in
theorem cm_143_26 {X : List (Nat × List Value)} {d : Nat} {h : pm_H} (hd : 7 ≤ d) (I : pw_I h) (hX : pw_Xk X) (hR : pw_Xr X) (c : Nat) (hc : pw_Sc c) : pw X d h 143 0 [some (.ref 16), some (.ref 42), some (.ref (16 + c)), none] [] (fun h' v => pw_I h' ∧ pw_G [24, 26, 27, 30, 31, 32, 33, 34, 36, c, c + 1, c + 2, c + 3, c + 4] h h' ∧ ∃ a : Int, v = .inl (some (pw_i a)) ∧ (-2147483648) ≤ a ∧ a ≤ 2147483647) := by
  have E : pm_ent 143 = some (3, 4, 11, 0, pmc_143) := rfl
  refine pw_ld E (pc' := 1) (st' := [.ref 42]) rfl (fun _ => rfl) ?_
  refine pw_ld E (pc' := 2) (st' := [.ref 16, .ref 42]) rfl (fun _ => rfl) ?_
  refine pw_getR (b := 40) I E (c := 0) (k := 10) (pc' := 5) rfl rfl rfl rfl rfl rfl rfl ?_
  refine pw_ld E (pc' := 6) (st' := [.ref 16, .ref 40, .ref 42]) rfl (fun _ => rfl) ?_
  refine pw_getR (b := 46) I E (c := 0) (k := 13) (pc' := 9) rfl rfl rfl rfl rfl rfl rfl ?_
  obtain ⟨f1l, f1h, -⟩ := pw_obj (c := 26) I rfl
  refine pw_call (m' := 44) (As := [.ref 42, .ref 40, .ref 46]) (rest := []) (ls'' := [some (.ref 42), some (.ref 40), some (.ref 46), none, none]) (by omega) E rfl (fun _ => pw_iV rfl rfl rfl rfl (pw_cellI f1h rfl)) (rfl : pm_ent 44 = some (3, 5, 5, 0, pmc_44)) rfl rfl (cm_44_26 (by omega) I hX hR) ?_
  rintro h1 v1 ⟨I1, E1, a, rfl, ha, hb, hz⟩
  refine ⟨_, rfl, ?_⟩
  show pw X d h1 143 12 [some (.ref 16), some (.ref 42), some (.ref (16 + c)), none] [pw_i a] _
  refine pw_istn E (pc' := 13) (ls' := [some (.ref 16), some (.ref 42), some (.ref (16 + c)), some (pw_i a)]) rfl rfl rfl rfl ?_
  refine pw_ld E (pc' := 14) (st' := [.ref 16]) rfl (fun _ => rfl) ?_
  refine pw_getR (b := 40) I1 E (c := 0) (k := 10) (pc' := 17) rfl rfl rfl rfl rfl rfl rfl ?_
  obtain ⟨f2l, f2h, -⟩ := pw_obj (c := 24) I1 rfl
  refine pw_call (m' := 99) (As := [.ref 40]) (rest := []) (ls'' := [some (.ref 40)]) (by omega) E rfl (fun _ => pw_iV rfl rfl rfl rfl (pw_cellI f2h rfl)) (rfl : pm_ent 99 = some (1, 1, 9, 4, pmc_99)) rfl rfl (cm_99 (by omega) I1) ?_
  rintro h2 v2 ⟨I2, E2, rfl⟩
  refine ⟨_, rfl, ?_⟩
  show pw X d h2 143 20 [some (.ref 16), some (.ref 42), some (.ref (16 + c)), some (pw_i a)] [] _
  have e30 : pw_g h2 30 1 = pw_g h1 30 1 := pw_Eg (c := 30) I1 E2 rfl rfl 1
  have EE : pw_E [24, 26, 27, 30, 31, 32, 33, 34, 36, c, c + 1, c + 2, c + 3, c + 4] h h2 := (E1.wk (W' := [24, 26, 27, 30, 31, 32, 33, 34, 36, c, c + 1, c + 2, c + 3, c + 4]) (by simp)).tr (E2.wk (W' := [24, 26, 27, 30, 31, 32, 33, 34, 36, c, c + 1, c + 2, c + 3, c + 4]) (by simp))
  refine pw_ld E (pc' := 21) (st' := [pw_i a]) rfl (fun _ => rfl) ?_
  refine pw_if E (pc' := 32) rfl (by decide) ha hb ?_ ?_
  · intro _
    refine pw_ld E (pc' := 33) (st' := [pw_i a]) rfl (fun _ => rfl) ?_
    refine pw_iret E rfl ?_
    exact ⟨I2, EE.G, a, rfl, ha, hb⟩
  · intro hn
    have hn : ¬ (a ≠ 0) := hn
    refine pw_ld E (pc' := 25) (st' := [.ref (16 + c)]) rfl (fun _ => rfl) ?_
    refine pw_ld E (pc' := 26) (st' := [.ref 16, .ref (16 + c)]) rfl (fun _ => rfl) ?_
    refine pw_getR (b := 46) I2 E (c := 0) (k := 13) (pc' := 29) rfl rfl rfl rfl rfl rfl rfl ?_
    obtain ⟨f3l, f3h, -⟩ := pw_obj (c := c) I2 (pw_Sc_o hc)
    refine pw_call (m' := 73) (As := [.ref (16 + c), .ref 46]) (rest := []) (ls'' := [some (.ref (16 + c)), some (.ref 46), none]) (by omega) E rfl (fun _ => pw_iV rfl rfl rfl rfl (pw_cellI f3h rfl)) (rfl : pm_ent 73 = some (2, 3, 7, 4, pmc_73)) rfl rfl (cm_73 (by omega) I2 c hc (by omega)) ?_
    rintro h3 v3 ⟨I3, G3, rfl⟩
    refine ⟨_, rfl, ?_⟩
    show pw X d h3 143 32 [some (.ref 16), some (.ref 42), some (.ref (16 + c)), some (pw_i a)] [] _
    refine pw_ld E (pc' := 33) (st' := [pw_i a]) rfl (fun _ => rfl) ?_
    refine pw_iret E rfl ?_
    exact ⟨I3, EE.tG (G3.wk (W' := [24, 26, 27, 30, 31, 32, 33, 34, 36, c, c + 1, c + 2, c + 3, c + 4]) (by simp)), a, rfl, ha, hb⟩
set_option maxHeartbeats 4000000 in
theorem cm_143_28 {X : List (Nat × List Value)} {d : Nat} {h : pm_H} (hd : 7 ≤ d) (I : pw_I h) (hX : pw_Xk X) (hR : pw_Xr X) (c : Nat) (hc : pw_Sc c) : pw X d h 143 0 [some (.ref 16), some (.ref 44), some (.ref (16 + c)), none] [] (fun h' v => pw_I h' ∧ pw_G [24, 28, 29, 30, 31, 32, 33, 34, 36, c, c + 1, c + 2, c + 3, c + 4] h h' ∧ ∃ a : Int, v = .inl (some (pw_i a)) ∧ (-2147483648) ≤ a ∧ a ≤ 2147483647) := by
  have E : pm_ent 143 = some (3, 4, 11, 0, pmc_143) := rfl
  refine pw_ld E (pc' := 1) (st' := [.ref 44]) rfl (fun _ => rfl) ?_
  refine pw_ld E (pc' := 2) (st' := [.ref 16, .ref 44]) rfl (fun _ => rfl) ?_
  refine pw_getR (b := 40) I E (c := 0) (k := 10) (pc' := 5) rfl rfl rfl rfl rfl rfl rfl ?_
  refine pw_ld E (pc' := 6) (st' := [.ref 16, .ref 40, .ref 44]) rfl (fun _ => rfl) ?_
  refine pw_getR (b := 46) I E (c := 0) (k := 13) (pc' := 9) rfl rfl rfl rfl rfl rfl rfl ?_
  obtain ⟨f1l, f1h, -⟩ := pw_obj (c := 28) I rfl
  refine pw_call (m' := 44) (As := [.ref 44, .ref 40, .ref 46]) (rest := []) (ls'' := [some (.ref 44), some (.ref 40), some (.ref 46), none, none]) (by omega) E rfl (fun _ => pw_iV rfl rfl rfl rfl (pw_cellI f1h rfl)) (rfl : pm_ent 44 = some (3, 5, 5, 0, pmc_44)) rfl rfl (cm_44_28 (by omega) I hX hR) ?_
  rintro h1 v1 ⟨I1, E1, a, rfl, ha, hb, hz⟩
  refine ⟨_, rfl, ?_⟩
  show pw X d h1 143 12 [some (.ref 16), some (.ref 44), some (.ref (16 + c)), none] [pw_i a] _
  refine pw_istn E (pc' := 13) (ls' := [some (.ref 16), some (.ref 44), some (.ref (16 + c)), some (pw_i a)]) rfl rfl rfl rfl ?_
  refine pw_ld E (pc' := 14) (st' := [.ref 16]) rfl (fun _ => rfl) ?_
  refine pw_getR (b := 40) I1 E (c := 0) (k := 10) (pc' := 17) rfl rfl rfl rfl rfl rfl rfl ?_
  obtain ⟨f2l, f2h, -⟩ := pw_obj (c := 24) I1 rfl
  refine pw_call (m' := 99) (As := [.ref 40]) (rest := []) (ls'' := [some (.ref 40)]) (by omega) E rfl (fun _ => pw_iV rfl rfl rfl rfl (pw_cellI f2h rfl)) (rfl : pm_ent 99 = some (1, 1, 9, 4, pmc_99)) rfl rfl (cm_99 (by omega) I1) ?_
  rintro h2 v2 ⟨I2, E2, rfl⟩
  refine ⟨_, rfl, ?_⟩
  show pw X d h2 143 20 [some (.ref 16), some (.ref 44), some (.ref (16 + c)), some (pw_i a)] [] _
  have e30 : pw_g h2 30 1 = pw_g h1 30 1 := pw_Eg (c := 30) I1 E2 rfl rfl 1
  have EE : pw_E [24, 28, 29, 30, 31, 32, 33, 34, 36, c, c + 1, c + 2, c + 3, c + 4] h h2 := (E1.wk (W' := [24, 28, 29, 30, 31, 32, 33, 34, 36, c, c + 1, c + 2, c + 3, c + 4]) (by simp)).tr (E2.wk (W' := [24, 28, 29, 30, 31, 32, 33, 34, 36, c, c + 1, c + 2, c + 3, c + 4]) (by simp))
  refine pw_ld E (pc' := 21) (st' := [pw_i a]) rfl (fun _ => rfl) ?_
  refine pw_if E (pc' := 32) rfl (by decide) ha hb ?_ ?_
  · intro _
    refine pw_ld E (pc' := 33) (st' := [pw_i a]) rfl (fun _ => rfl) ?_
    refine pw_iret E rfl ?_
    exact ⟨I2, EE.G, a, rfl, ha, hb⟩
  · intro hn
    have hn : ¬ (a ≠ 0) := hn
    refine pw_ld E (pc' := 25) (st' := [.ref (16 + c)]) rfl (fun _ => rfl) ?_
    refine pw_ld E (pc' := 26) (st' := [.ref 16, .ref (16 + c)]) rfl (fun _ => rfl) ?_
    refine pw_getR (b := 46) I2 E (c := 0) (k := 13) (pc' := 29) rfl rfl rfl rfl rfl rfl rfl ?_
    obtain ⟨f3l, f3h, -⟩ := pw_obj (c := c) I2 (pw_Sc_o hc)
    refine pw_call (m' := 73) (As := [.ref (16 + c), .ref 46]) (rest := []) (ls'' := [some (.ref (16 + c)), some (.ref 46), none]) (by omega) E rfl (fun _ => pw_iV rfl rfl rfl rfl (pw_cellI f3h rfl)) (rfl : pm_ent 73 = some (2, 3, 7, 4, pmc_73)) rfl rfl (cm_73 (by omega) I2 c hc (by omega)) ?_
    rintro h3 v3 ⟨I3, G3, rfl⟩
    refine ⟨_, rfl, ?_⟩
    show pw X d h3 143 32 [some (.ref 16), some (.ref 44), some (.ref (16 + c)), some (pw_i a)] [] _
    refine pw_ld E (pc' := 33) (st' := [pw_i a]) rfl (fun _ => rfl) ?_
    refine pw_iret E rfl ?_
    exact ⟨I3, EE.tG (G3.wk (W' := [24, 28, 29, 30, 31, 32, 33, 34, 36, c, c + 1, c + 2, c + 3, c + 4]) (by simp)), a, rfl, ha, hb⟩
/-- the cells that law and writer of the class may write -/
def pw_WL : List Nat := [24, 26, 27, 28, 29, 30, 31, 32, 33, 34, 36] ++ (List.range 56).map (fun j => 39 + j)
set_option maxHeartbeats 4000000 in
theorem cm_141 {X : List (Nat × List Value)} {d : Nat} {h : pm_H} (hd : 8 ≤ d) (I : pw_I h) (hX : pw_Xk X) (hR : pw_Xr X) (l : Int) (hl1 : (-2147483648) ≤ l) (hl2 : l ≤ 2147483647) : pw X d h 141 0 [some (.ref 16), some (pw_i l)] [] (fun h' v => pw_I h' ∧ pw_G pw_WL h h' ∧ ∃ a : Int, v = .inl (some (pw_i a)) ∧ (-2147483648) ≤ a ∧ a ≤ 2147483647) := by
  have E : pm_ent 141 = some (2, 2, 11, 0, pmc_141) := rfl
  refine pw_ld E (pc' := 1) (st' := [pw_i l]) rfl (fun _ => rfl) ?_
  refine pw_call (m' := 142) (As := [pw_i l]) (rest := []) (ls'' := [some (pw_i l)]) (by omega) E rfl (fun _ => pw_iS rfl rfl rfl) (rfl : pm_ent 142 = some (1, 1, 11, 1, pmc_142)) rfl rfl (cm_142 (by omega) I (l) (by omega) (by omega)) ?_
  rintro u v ⟨rfl, x, rfl, hxa, hxb, hxr⟩
  refine ⟨_, rfl, ?_⟩
  show pw X d h 141 4 [some (.ref 16), some (pw_i l)] [pw_i x] _
  refine pw_if E (pc' := 16) rfl (by decide) (by omega) (by omega) ?_ ?_
  · intro hn
    have hn : x ≠ 0 := hn
    refine pw_ld E (pc' := 17) (st' := [.ref 16]) rfl (fun _ => rfl) ?_
    refine pw_ld E (pc' := 18) (st' := [.ref 16, .ref 16]) rfl (fun _ => rfl) ?_
    refine pw_getR (b := 42) I E (c := 0) (k := 11) (pc' := 21) rfl rfl rfl rfl rfl rfl rfl ?_
    refine pw_ld E (pc' := 22) (st' := [.ref 16, .ref 42, .ref 16]) rfl (fun _ => rfl) ?_
    refine pw_getR (b := 53) I E (c := 0) (k := 14) (pc' := 25) rfl rfl rfl rfl rfl rfl rfl ?_
    refine pw_ld E (pc' := 26) (st' := [pw_i l, .ref 53, .ref 42, .ref 16]) rfl (fun _ => rfl) ?_
    obtain ⟨c, hc, hcl⟩ : ∃ c : Nat, pw_Sc c ∧ (((55 : Int) + 14 * ((l.toNat : Nat) : Int)).toNat = 16 + c) := by
      rcases (by omega : l = 0 ∨ l = 1 ∨ l = 2 ∨ l = 3) with rfl | rfl | rfl | rfl
      · exact ⟨39, by unfold pw_Sc; omega, rfl⟩
      · exact ⟨53, by unfold pw_Sc; omega, rfl⟩
      · exact ⟨67, by unfold pw_Sc; omega, rfl⟩
      · exact ⟨81, by unfold pw_Sc; omega, rfl⟩
    refine pw_aald (b := 16 + c) I E (c := 37) (pc' := 27) rfl rfl (by decide) rfl (by decide) (by omega) (by omega) hcl rfl ?_
    obtain ⟨f1l, f1h, -⟩ := pw_obj (c := 0) I rfl
    refine pw_call (m' := 143) (As := [.ref 16, .ref 42, .ref (16 + c)]) (rest := []) (ls'' := [some (.ref 16), some (.ref 42), some (.ref (16 + c)), none]) (by omega) E rfl (fun _ => pw_iV rfl rfl rfl rfl (pw_cellI f1h rfl)) (rfl : pm_ent 143 = some (3, 4, 11, 0, pmc_143)) rfl rfl (cm_143_26 (by omega) I hX hR c hc) ?_
    rintro h1 v1 ⟨I1, G1, a, rfl, ha, hb⟩
    refine ⟨_, rfl, ?_⟩
    show pw X d h1 141 30 [some (.ref 16), some (pw_i l)] [pw_i a] _
    refine pw_iret E rfl ?_
    refine ⟨I1, G1.wk ?_, a, rfl, ha, hb⟩
    rcases hc with rfl | rfl | rfl | rfl | rfl | rfl | rfl | rfl <;> decide
  · intro hn
    refine pw_ld E (pc' := 8) (st' := [.ref 16]) rfl (fun _ => rfl) ?_
    refine pw_getR (b := 40) I E (c := 0) (k := 10) (pc' := 11) rfl rfl rfl rfl rfl rfl rfl ?_
    obtain ⟨f2l, f2h, -⟩ := pw_obj (c := 24) I rfl
    refine pw_call (m' := 99) (As := [.ref 40]) (rest := []) (ls'' := [some (.ref 40)]) (by omega) E rfl (fun _ => pw_iV rfl rfl rfl rfl (pw_cellI f2h rfl)) (rfl : pm_ent 99 = some (1, 1, 9, 4, pmc_99)) rfl rfl (cm_99 (by omega) I) ?_
    rintro h2 v2 ⟨I2, E2, rfl⟩
    refine ⟨_, rfl, ?_⟩
    show pw X d h2 141 14 [some (.ref 16), some (pw_i l)] [] _
    refine pw_ld E (pc' := 15) (st' := [pw_i (-1)]) rfl (fun _ => rfl) ?_
    refine pw_iret E rfl ?_
    exact ⟨I2, (E2.wk (W' := pw_WL) (by decide)).G, -1, rfl, by decide, by decide⟩
set_option maxHeartbeats 4000000 in
theorem cm_153 {X : List (Nat × List Value)} {d : Nat} {h : pm_H} (hd : 8 ≤ d) (I : pw_I h) (hX : pw_Xk X) (hR : pw_Xr X) (l : Int) (hl1 : (-2147483648) ≤ l) (hl2 : l ≤ 2147483647) : pw X d h 153 0 [some (.ref 16), some (pw_i l)] [] (fun h' v => pw_I h' ∧ pw_G pw_WL h h' ∧ ∃ a : Int, v = .inl (some (pw_i a)) ∧ (-2147483648) ≤ a ∧ a ≤ 2147483647) := by
  have E : pm_ent 153 = some (2, 2, 11, 0, pmc_153) := rfl
  refine pw_ld E (pc' := 1) (st' := [pw_i l]) rfl (fun _ => rfl) ?_
  refine pw_call (m' := 142) (As := [pw_i l]) (rest := []) (ls'' := [some (pw_i l)]) (by omega) E rfl (fun _ => pw_iS rfl rfl rfl) (rfl : pm_ent 142 = some (1, 1, 11, 1, pmc_142)) rfl rfl (cm_142 (by omega) I (l) (by omega) (by omega)) ?_
  rintro u v ⟨rfl, x, rfl, hxa, hxb, hxr⟩
  refine ⟨_, rfl, ?_⟩
  show pw X d h 153 4 [some (.ref 16), some (pw_i l)] [pw_i x] _
  refine pw_if E (pc' := 16) rfl (by decide) (by omega) (by omega) ?_ ?_
  · intro hn
    have hn : x ≠ 0 := hn
    refine pw_ld E (pc' := 17) (st' := [.ref 16]) rfl (fun _ => rfl) ?_
    refine pw_ld E (pc' := 18) (st' := [.ref 16, .ref 16]) rfl (fun _ => rfl) ?_
    refine pw_getR (b := 44) I E (c := 0) (k := 12) (pc' := 21) rfl rfl rfl rfl rfl rfl rfl ?_
    refine pw_ld E (pc' := 22) (st' := [.ref 16, .ref 44, .ref 16]) rfl (fun _ => rfl) ?_
    refine pw_getR (b := 54) I E (c := 0) (k := 15) (pc' := 25) rfl rfl rfl rfl rfl rfl rfl ?_
    refine pw_ld E (pc' := 26) (st' := [pw_i l, .ref 54, .ref 44, .ref 16]) rfl (fun _ => rfl) ?_
    obtain ⟨c, hc, hcl⟩ : ∃ c : Nat, pw_Sc c ∧ (((62 : Int) + 14 * ((l.toNat : Nat) : Int)).toNat = 16 + c) := by
      rcases (by omega : l = 0 ∨ l = 1 ∨ l = 2 ∨ l = 3) with rfl | rfl | rfl | rfl
      · exact ⟨46, by unfold pw_Sc; omega, rfl⟩
      · exact ⟨60, by unfold pw_Sc; omega, rfl⟩
      · exact ⟨74, by unfold pw_Sc; omega, rfl⟩
      · exact ⟨88, by unfold pw_Sc; omega, rfl⟩
    refine pw_aald (b := 16 + c) I E (c := 38) (pc' := 27) rfl rfl (by decide) rfl (by decide) (by omega) (by omega) hcl rfl ?_
    obtain ⟨f1l, f1h, -⟩ := pw_obj (c := 0) I rfl
    refine pw_call (m' := 143) (As := [.ref 16, .ref 44, .ref (16 + c)]) (rest := []) (ls'' := [some (.ref 16), some (.ref 44), some (.ref (16 + c)), none]) (by omega) E rfl (fun _ => pw_iV rfl rfl rfl rfl (pw_cellI f1h rfl)) (rfl : pm_ent 143 = some (3, 4, 11, 0, pmc_143)) rfl rfl (cm_143_28 (by omega) I hX hR c hc) ?_
    rintro h1 v1 ⟨I1, G1, a, rfl, ha, hb⟩
    refine ⟨_, rfl, ?_⟩
    show pw X d h1 153 30 [some (.ref 16), some (pw_i l)] [pw_i a] _
    refine pw_iret E rfl ?_
    refine ⟨I1, G1.wk ?_, a, rfl, ha, hb⟩
    rcases hc with rfl | rfl | rfl | rfl | rfl | rfl | rfl | rfl <;> decide
  · intro hn
    refine pw_ld E (pc' := 8) (st' := [.ref 16]) rfl (fun _ => rfl) ?_
    refine pw_getR (b := 40) I E (c := 0) (k := 10) (pc' := 11) rfl rfl rfl rfl rfl rfl rfl ?_
    obtain ⟨f2l, f2h, -⟩ := pw_obj (c := 24) I rfl
    refine pw_call (m' := 99) (As := [.ref 40]) (rest := []) (ls'' := [some (.ref 40)]) (by omega) E rfl (fun _ => pw_iV rfl rfl rfl rfl (pw_cellI f2h rfl)) (rfl : pm_ent 99 = some (1, 1, 9, 4, pmc_99)) rfl rfl (cm_99 (by omega) I) ?_
    rintro h2 v2 ⟨I2, E2, rfl⟩
    refine ⟨_, rfl, ?_⟩
    show pw X d h2 153 14 [some (.ref 16), some (pw_i l)] [] _
    refine pw_ld E (pc' := 15) (st' := [pw_i (-1)]) rfl (fun _ => rfl) ?_
    refine pw_iret E rfl ?_
    exact ⟨I2, (E2.wk (W' := pw_WL) (by decide)).G, -1, rfl, by decide, by decide⟩
end
