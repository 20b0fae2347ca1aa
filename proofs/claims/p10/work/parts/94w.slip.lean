/-! slips exactly (printed by wip/tool/mslip.py) -/
/-- hands by the class's cell, by the model's two -/
def pw_hc (v t : Int) : Int := (max 0 v / 100) * 10 + (max 0 v % 100) * t
def pw_hm (w g t : Int) : Int := 10 * w + t * g
def pw_ab (d : Int) : Int := max d (-d)
/-- whether a kitchen is in both, and its slip -/
def pw_ci (h : pm_H) (mo : Int) (k : Nat) : Int := if pw_g h 2 k = 1 ∧ pw_g h 11 ((k : Int) * 12 + mo).toNat ≠ -2 ∧ pw_g h 13 ((k : Int) * 12 + mo).toNat ≠ -2 then 1 else 0
def pw_cb (h : pm_H) (mo : Int) (k : Nat) : Int := pw_ab (pw_hc (pw_g h 11 ((k : Int) * 12 + mo).toNat) (pw_g h 0 6) - pw_hc (pw_g h 13 ((k : Int) * 12 + mo).toNat) (pw_g h 0 6))
def pw_mi (h : pm_H) (mo : Int) (k : Nat) : Int := if pw_g h 131 k ≠ 0 ∧ pw_g h 138 (12 * (k : Int) + mo).toNat ≠ 0 ∧ pw_g h 141 (12 * (k : Int) + mo).toNat = 1 then 1 else 0
def pw_mb (h : pm_H) (mo : Int) (k : Nat) : Int := pw_ab (pw_hm (pw_g h 139 (12 * (k : Int) + mo).toNat) (pw_g h 140 (12 * (k : Int) + mo).toNat) (pw_g h 125 15) - pw_hm (pw_g h 142 (12 * (k : Int) + mo).toNat) (pw_g h 143 (12 * (k : Int) + mo).toNat) (pw_g h 125 15))
def pw_s1 (f : Nat → Int) : Nat → Int
  | 0 => 0
  | k + 1 => pw_s1 f k + f k
def pw_s2 (f b : Nat → Int) : Nat → Int
  | 0 => 0
  | k + 1 => if f k = 1 ∧ b k ≠ 0 then pw_s2 f b k + 1 else pw_s2 f b k
def pw_s3 (f b : Nat → Int) : Nat → Int
  | 0 => 0
  | k + 1 => if f k = 1 then max (pw_s3 f b k) (b k) else pw_s3 f b k
theorem pw_sS {f b : Nat → Int} {k : Int} (hk : 0 ≤ k) : (f k.toNat = 0 → pw_s1 f (k + 1).toNat = pw_s1 f k.toNat ∧ pw_s2 f b (k + 1).toNat = pw_s2 f b k.toNat ∧ pw_s3 f b (k + 1).toNat = pw_s3 f b k.toNat) ∧ (f k.toNat = 1 → pw_s1 f (k + 1).toNat = pw_s1 f k.toNat + 1 ∧ (b k.toNat ≠ 0 → pw_s2 f b (k + 1).toNat = pw_s2 f b k.toNat + 1) ∧ (b k.toNat = 0 → pw_s2 f b (k + 1).toNat = pw_s2 f b k.toNat) ∧ pw_s3 f b (k + 1).toNat = max (pw_s3 f b k.toNat) (b k.toNat)) := by
  rw [show (k + 1).toNat = k.toNat + 1 by omega]
  have e1 : pw_s1 f (k.toNat + 1) = pw_s1 f k.toNat + f k.toNat := rfl
  have e2 : pw_s2 f b (k.toNat + 1) = if f k.toNat = 1 ∧ b k.toNat ≠ 0 then pw_s2 f b k.toNat + 1 else pw_s2 f b k.toNat := rfl
  have e3 : pw_s3 f b (k.toNat + 1) = if f k.toNat = 1 then max (pw_s3 f b k.toNat) (b k.toNat) else pw_s3 f b k.toNat := rfl
  rw [e1, e2, e3]
  refine ⟨fun z => ?_, fun z => ?_⟩
  · rw [if_neg (fun q => by omega), if_neg (by omega), z]
    exact ⟨by omega, rfl, rfl⟩
  · rw [if_pos z]
    refine ⟨by omega, fun q => by rw [if_pos ⟨z, q⟩], fun q => by rw [if_neg (fun w => w.2 q)], rfl⟩
theorem pw_s_cg {f b f' b' : Nat → Int} : ∀ n : Nat, (∀ k : Nat, k < n → f k = f' k ∧ (f k = 1 → b k = b' k)) → pw_s1 f n = pw_s1 f' n ∧ pw_s2 f b n = pw_s2 f' b' n ∧ pw_s3 f b n = pw_s3 f' b' n := by
  intro n
  induction n with
  | zero => intro _; exact ⟨rfl, rfl, rfl⟩
  | succ n ih =>
    intro H
    obtain ⟨i1, i2, i3⟩ := ih (fun k hk => H k (Nat.lt_succ_of_lt hk))
    obtain ⟨h1, h2⟩ := H n (Nat.lt_succ_self n)
    refine ⟨?_, ?_, ?_⟩
    · show pw_s1 f n + f n = pw_s1 f' n + f' n
      rw [i1, h1]
    · show (if f n = 1 ∧ b n ≠ 0 then pw_s2 f b n + 1 else pw_s2 f b n) = if f' n = 1 ∧ b' n ≠ 0 then pw_s2 f' b' n + 1 else pw_s2 f' b' n
      rw [i2, ← h1]
      by_cases hq : f n = 1
      · rw [h2 hq]
      · rw [if_neg (fun q => hq q.1), if_neg (fun q => hq q.1)]
    · show (if f n = 1 then max (pw_s3 f b n) (b n) else pw_s3 f b n) = if f' n = 1 then max (pw_s3 f' b' n) (b' n) else pw_s3 f' b' n
      rw [i3, ← h1]
      by_cases hq : f n = 1
      · rw [h2 hq]
      · rw [if_neg hq, if_neg hq]
theorem pw_ci_i {h : pm_H} {mo k : Int} (hk : 0 ≤ k) : ((pw_g h 2 k.toNat = 1 ∧ pw_g h 11 (k * 12 + mo).toNat ≠ -2 ∧ pw_g h 13 (k * 12 + mo).toNat ≠ -2) → pw_ci h mo k.toNat = 1) ∧ (¬ (pw_g h 2 k.toNat = 1 ∧ pw_g h 11 (k * 12 + mo).toNat ≠ -2 ∧ pw_g h 13 (k * 12 + mo).toNat ≠ -2) → pw_ci h mo k.toNat = 0) ∧ pw_cb h mo k.toNat = pw_ab (pw_hc (pw_g h 11 (k * 12 + mo).toNat) (pw_g h 0 6) - pw_hc (pw_g h 13 (k * 12 + mo).toNat) (pw_g h 0 6)) := by
  unfold pw_ci pw_cb
  rw [show ((k.toNat : Nat) : Int) = k by omega]
  exact ⟨fun q => if_pos q, fun q => if_neg q, rfl⟩
theorem pw_mi_i {h : pm_H} {mo k : Int} (hk : 0 ≤ k) : ((pw_g h 131 k.toNat ≠ 0 ∧ pw_g h 138 (12 * k + mo).toNat ≠ 0 ∧ pw_g h 141 (12 * k + mo).toNat = 1) → pw_mi h mo k.toNat = 1) ∧ (¬ (pw_g h 131 k.toNat ≠ 0 ∧ pw_g h 138 (12 * k + mo).toNat ≠ 0 ∧ pw_g h 141 (12 * k + mo).toNat = 1) → pw_mi h mo k.toNat = 0) ∧ pw_mb h mo k.toNat = pw_ab (pw_hm (pw_g h 139 (12 * k + mo).toNat) (pw_g h 140 (12 * k + mo).toNat) (pw_g h 125 15) - pw_hm (pw_g h 142 (12 * k + mo).toNat) (pw_g h 143 (12 * k + mo).toNat) (pw_g h 125 15)) := by
  unfold pw_mi pw_mb
  rw [show ((k.toNat : Nat) : Int) = k by omega]
  exact ⟨fun q => if_pos q, fun q => if_neg q, rfl⟩

set_option maxHeartbeats 4000000 in
theorem cm_19_12h {X : List (Nat × List Value)} {d : Nat} {h : pm_H} (hd : 1 ≤ d) (I : pw_I h) (k : Int) (hk1 : 0 ≤ k) (hk2 : k ≤ 23) (mo : Int) (hmo1 : 0 ≤ mo) (hmo2 : mo ≤ 11) : pw X d h 19 0 [some (.ref 28), some (pw_i k), some (pw_i mo)] [] (fun h' v => h = h' ∧ ∃ a : Int, v = .inl (some (pw_i a)) ∧ 0 ≤ a ∧ a ≤ 1 ∧ ((a = 1 ∧ pw_g h 13 (k * 12 + mo).toNat = -2) ∨ (a = 0 ∧ pw_g h 13 (k * 12 + mo).toNat ≠ -2))) := by
  have E : pm_ent 19 = some (3, 3, 2, 1, pmc_19) := rfl
  refine pw_ld E (pc' := 1) (st' := [.ref 28]) rfl (fun _ => rfl) ?_
  refine pw_getR (b := 29) I E (c := 12) (k := 0) (pc' := 4) rfl rfl rfl rfl rfl rfl rfl ?_
  refine pw_ld E (pc' := 5) (st' := [pw_i k, .ref 29]) rfl (fun _ => rfl) ?_
  refine pw_bip E (pc' := 7) rfl rfl (by decide) ?_
  refine pw_mul E (pc' := 8) rfl rfl ?_
  refine pw_ld E (pc' := 9) (st' := [pw_i mo, pw_i (k * 12), .ref 29]) rfl (fun _ => rfl) ?_
  refine pw_add E (pc' := 10) rfl rfl ?_
  refine pw_ald I E (c := 13) (pc' := 11) rfl rfl rfl (by decide) rfl (by decide) (by omega) (by omega) rfl (fun hf1a hf1b hf1c hf1d => ?_)
  refine pw_bip E (pc' := 13) rfl rfl (by decide) ?_
  refine pw_if2 E (pc' := 20) rfl (by decide) (by omega) (by omega) (by decide) (by decide) ?_ ?_
  · intro hc2
    have hc2 : pw_g h 13 (((k * 12) + mo).toNat) ≠ ((-2) : Int) := hc2
    refine pw_ld E (pc' := 21) (st' := [pw_i 0]) rfl (fun _ => rfl) ?_
    refine pw_zret E rfl (by omega) ?_
    exact ⟨rfl, ⟨_, rfl, by omega, by omega, by omega⟩⟩
  · intro hc3
    have hc3 : ¬ (pw_g h 13 (((k * 12) + mo).toNat) ≠ ((-2) : Int)) := hc3
    refine pw_ld E (pc' := 17) (st' := [pw_i 1]) rfl (fun _ => rfl) ?_
    refine pw_goto E (pc' := 21) rfl (by decide) ?_
    refine pw_zret E rfl (by omega) ?_
    exact ⟨rfl, ⟨_, rfl, by omega, by omega, by omega⟩⟩
set_option maxHeartbeats 4000000 in
theorem cm_21_12h {X : List (Nat × List Value)} {d : Nat} {h : pm_H} (hd : 1 ≤ d) (I : pw_I h) (k : Int) (hk1 : 0 ≤ k) (hk2 : k ≤ 23) (mo : Int) (hmo1 : 0 ≤ mo) (hmo2 : mo ≤ 11) : pw X d h 21 0 [some (.ref 28), some (pw_i k), some (pw_i mo)] [] (fun h' v => h = h' ∧ ∃ a : Int, v = .inl (some (pw_i a)) ∧ 0 ≤ a ∧ a ≤ 99 ∧ (a = max 0 (pw_g h 13 (k * 12 + mo).toNat) / 100)) := by
  have E : pm_ent 21 = some (3, 3, 2, 0, pmc_21) := rfl
  refine pw_ld E (pc' := 1) (st' := [pw_i 0]) rfl (fun _ => rfl) ?_
  refine pw_ld E (pc' := 2) (st' := [.ref 28, pw_i 0]) rfl (fun _ => rfl) ?_
  refine pw_getR (b := 29) I E (c := 12) (k := 0) (pc' := 5) rfl rfl rfl rfl rfl rfl rfl ?_
  refine pw_ld E (pc' := 6) (st' := [pw_i k, .ref 29, pw_i 0]) rfl (fun _ => rfl) ?_
  refine pw_bip E (pc' := 8) rfl rfl (by decide) ?_
  refine pw_mul E (pc' := 9) rfl rfl ?_
  refine pw_ld E (pc' := 10) (st' := [pw_i mo, pw_i (k * 12), .ref 29, pw_i 0]) rfl (fun _ => rfl) ?_
  refine pw_add E (pc' := 11) rfl rfl ?_
  refine pw_ald I E (c := 13) (pc' := 12) rfl rfl rfl (by decide) rfl (by decide) (by omega) (by omega) rfl (fun hf1a hf1b hf1c hf1d => ?_)
  refine pw_max E rfl rfl (by decide) (by decide) (by omega) (by omega) rfl ?_
  refine pw_bip E (pc' := 17) rfl rfl (by decide) ?_
  refine pw_div E (pc' := 18) rfl rfl (by omega) (by omega) (by decide) (by decide) ?_
  refine pw_iret E rfl ?_
  exact ⟨rfl, ⟨_, rfl, by omega, by omega, by omega⟩⟩
set_option maxHeartbeats 4000000 in
theorem cm_22_12h {X : List (Nat × List Value)} {d : Nat} {h : pm_H} (hd : 1 ≤ d) (I : pw_I h) (k : Int) (hk1 : 0 ≤ k) (hk2 : k ≤ 23) (mo : Int) (hmo1 : 0 ≤ mo) (hmo2 : mo ≤ 11) : pw X d h 22 0 [some (.ref 28), some (pw_i k), some (pw_i mo)] [] (fun h' v => h = h' ∧ ∃ a : Int, v = .inl (some (pw_i a)) ∧ 0 ≤ a ∧ a ≤ 99 ∧ (a = max 0 (pw_g h 13 (k * 12 + mo).toNat) % 100)) := by
  have E : pm_ent 22 = some (3, 3, 2, 0, pmc_22) := rfl
  refine pw_ld E (pc' := 1) (st' := [pw_i 0]) rfl (fun _ => rfl) ?_
  refine pw_ld E (pc' := 2) (st' := [.ref 28, pw_i 0]) rfl (fun _ => rfl) ?_
  refine pw_getR (b := 29) I E (c := 12) (k := 0) (pc' := 5) rfl rfl rfl rfl rfl rfl rfl ?_
  refine pw_ld E (pc' := 6) (st' := [pw_i k, .ref 29, pw_i 0]) rfl (fun _ => rfl) ?_
  refine pw_bip E (pc' := 8) rfl rfl (by decide) ?_
  refine pw_mul E (pc' := 9) rfl rfl ?_
  refine pw_ld E (pc' := 10) (st' := [pw_i mo, pw_i (k * 12), .ref 29, pw_i 0]) rfl (fun _ => rfl) ?_
  refine pw_add E (pc' := 11) rfl rfl ?_
  refine pw_ald I E (c := 13) (pc' := 12) rfl rfl rfl (by decide) rfl (by decide) (by omega) (by omega) rfl (fun hf1a hf1b hf1c hf1d => ?_)
  refine pw_max E rfl rfl (by decide) (by decide) (by omega) (by omega) rfl ?_
  refine pw_bip E (pc' := 17) rfl rfl (by decide) ?_
  refine pw_rem E (pc' := 18) rfl rfl (by omega) (by omega) (by decide) (by decide) ?_
  refine pw_iret E rfl ?_
  exact ⟨rfl, ⟨_, rfl, by omega, by omega, by omega⟩⟩
set_option maxHeartbeats 4000000 in
theorem cm_20_12h {X : List (Nat × List Value)} {d : Nat} {h : pm_H} (hd : 2 ≤ d) (I : pw_I h) (k : Int) (hk1 : 0 ≤ k) (hk2 : k ≤ 23) (mo : Int) (hmo1 : 0 ≤ mo) (hmo2 : mo ≤ 11) (t : Int) (ht1 : 0 ≤ t) (ht2 : t ≤ 10) : pw X d h 20 0 [some (.ref 28), some (pw_i k), some (pw_i mo), some (pw_i t)] [] (fun h' v => h = h' ∧ ∃ a : Int, v = .inl (some (pw_i a)) ∧ 0 ≤ a ∧ a ≤ 2000 ∧ (a = (max 0 (pw_g h 13 (k * 12 + mo).toNat) / 100) * 10 + (max 0 (pw_g h 13 (k * 12 + mo).toNat) % 100) * t)) := by
  have E : pm_ent 20 = some (4, 4, 2, 0, pmc_20) := rfl
  refine pw_ld E (pc' := 1) (st' := [.ref 28]) rfl (fun _ => rfl) ?_
  refine pw_ld E (pc' := 2) (st' := [pw_i k, .ref 28]) rfl (fun _ => rfl) ?_
  refine pw_ld E (pc' := 3) (st' := [pw_i mo, pw_i k, .ref 28]) rfl (fun _ => rfl) ?_
  obtain ⟨f1l, f1h, -⟩ := pw_obj (c := 12) I rfl
  refine pw_call (m' := 21) (As := [.ref 28, pw_i k, pw_i mo]) (rest := []) (ls'' := [some (.ref 28), some (pw_i k), some (pw_i mo)]) (by omega) E rfl (fun _ => pw_iV rfl rfl rfl rfl (pw_cellI f1h rfl)) (rfl : pm_ent 21 = some (3, 3, 2, 0, pmc_21)) rfl rfl (cm_21_12h (by omega) I (k) (by omega) (by omega) (mo) (by omega) (by omega)) ?_
  rintro u3 v2 ⟨rfl, x4, rfl, hx4a, hx4b, hx4r⟩
  refine ⟨_, rfl, ?_⟩
  show pw X d h 20 6 [some (.ref 28), some (pw_i k), some (pw_i mo), some (pw_i t)] [pw_i x4] _
  have hx4r : x4 = max 0 (pw_g h 13 (k * 12 + mo).toNat) / 100 := hx4r
  refine pw_bip E (pc' := 8) rfl rfl (by decide) ?_
  refine pw_mul E (pc' := 9) rfl rfl ?_
  refine pw_ld E (pc' := 10) (st' := [.ref 28, pw_i (x4 * 10)]) rfl (fun _ => rfl) ?_
  refine pw_ld E (pc' := 11) (st' := [pw_i k, .ref 28, pw_i (x4 * 10)]) rfl (fun _ => rfl) ?_
  refine pw_ld E (pc' := 12) (st' := [pw_i mo, pw_i k, .ref 28, pw_i (x4 * 10)]) rfl (fun _ => rfl) ?_
  obtain ⟨f5l, f5h, -⟩ := pw_obj (c := 12) I rfl
  refine pw_call (m' := 22) (As := [.ref 28, pw_i k, pw_i mo]) (rest := [pw_i (x4 * 10)]) (ls'' := [some (.ref 28), some (pw_i k), some (pw_i mo)]) (by omega) E rfl (fun _ => pw_iV rfl rfl rfl rfl (pw_cellI f5h rfl)) (rfl : pm_ent 22 = some (3, 3, 2, 0, pmc_22)) rfl rfl (cm_22_12h (by omega) I (k) (by omega) (by omega) (mo) (by omega) (by omega)) ?_
  rintro u7 v6 ⟨rfl, x8, rfl, hx8a, hx8b, hx8r⟩
  refine ⟨_, rfl, ?_⟩
  show pw X d h 20 15 [some (.ref 28), some (pw_i k), some (pw_i mo), some (pw_i t)] [pw_i x8, pw_i (x4 * 10)] _
  have hx8r : x8 = max 0 (pw_g h 13 (k * 12 + mo).toNat) % 100 := hx8r
  refine pw_ld E (pc' := 16) (st' := [pw_i t, pw_i x8, pw_i (x4 * 10)]) rfl (fun _ => rfl) ?_
  have hm9 := pw_mulB (a := x8) (b := t) (A := 99) (B := 10) (by omega) (by omega) (by omega) (by omega)
  refine pw_mul E (pc' := 17) rfl rfl ?_
  refine pw_add E (pc' := 18) rfl rfl ?_
  refine pw_iret E rfl ?_
  exact ⟨rfl, ⟨_, rfl, by omega, by omega, by rw [← hx4r, ← hx8r]⟩⟩
set_option maxHeartbeats 4000000 in
theorem cm_302_h {X : List (Nat × List Value)} {d : Nat} {h : pm_H} (hd : 2 ≤ d) (I : pw_I h) (ix : Int) (hix1 : 0 ≤ ix) (hix2 : ix ≤ 287) : pw X d h 302 0 [some (.ref 141), some (pw_i ix)] [] (fun h' v => h = h' ∧ ∃ a : Int, v = .inl (some (pw_i a)) ∧ 0 ≤ a ∧ a ≤ 2000 ∧ (a = 10 * pw_g h 142 ix.toNat + pw_g h 125 15 * pw_g h 143 ix.toNat)) := by
  have E : pm_ent 302 = some (2, 2, 12, 0, pmc_302) := rfl
  refine pw_ld E (pc' := 1) (st' := [.ref 141]) rfl (fun _ => rfl) ?_
  refine pw_ld E (pc' := 2) (st' := [.ref 141, .ref 141]) rfl (fun _ => rfl) ?_
  refine pw_getR (b := 158) I E (c := 125) (k := 22) (pc' := 5) rfl rfl rfl rfl rfl rfl rfl ?_
  refine pw_ld E (pc' := 6) (st' := [pw_i ix, .ref 158, .ref 141]) rfl (fun _ => rfl) ?_
  refine pw_ald I E (c := 142) (pc' := 7) rfl rfl rfl (by decide) rfl (by decide) (by omega) (by omega) rfl (fun hf1a hf1b hf1c hf1d => ?_)
  refine pw_ld E (pc' := 8) (st' := [.ref 141, pw_i (pw_g h 142 (ix.toNat)), .ref 141]) rfl (fun _ => rfl) ?_
  refine pw_getR (b := 159) I E (c := 125) (k := 23) (pc' := 11) rfl rfl rfl rfl rfl rfl rfl ?_
  refine pw_ld E (pc' := 12) (st' := [pw_i ix, .ref 159, pw_i (pw_g h 142 (ix.toNat)), .ref 141]) rfl (fun _ => rfl) ?_
  refine pw_ald I E (c := 143) (pc' := 13) rfl rfl rfl (by decide) rfl (by decide) (by omega) (by omega) rfl (fun hf2a hf2b hf2c hf2d => ?_)
  obtain ⟨f3l, f3h, -⟩ := pw_obj (c := 125) I rfl
  refine pw_call (m' := 211) (As := [.ref 141, pw_i (pw_g h 142 (ix.toNat)), pw_i (pw_g h 143 (ix.toNat))]) (rest := []) (ls'' := [some (.ref 141), some (pw_i (pw_g h 142 (ix.toNat))), some (pw_i (pw_g h 143 (ix.toNat)))]) (by omega) E rfl (fun _ => pw_iV rfl rfl rfl rfl (pw_cellI f3h rfl)) (rfl : pm_ent 211 = some (3, 3, 12, 0, pmc_211)) rfl rfl (cm_211_h (by omega) I (pw_g h 142 (ix.toNat)) (by omega) (by omega) (pw_g h 143 (ix.toNat)) (by omega) (by omega)) ?_
  rintro u5 v4 ⟨rfl, x6, rfl, hx6a, hx6b, hx6r⟩
  refine ⟨_, rfl, ?_⟩
  show pw X d h 302 16 [some (.ref 141), some (pw_i ix)] [pw_i x6] _
  have hx6r : x6 = 10 * (pw_g h 142 (ix.toNat)) + pw_g h 125 15 * (pw_g h 143 (ix.toNat)) := hx6r
  refine pw_iret E rfl ?_
  exact ⟨rfl, ⟨_, rfl, by omega, by omega, hx6r⟩⟩
set_option maxHeartbeats 4000000 in
theorem cm_164_h {X : List (Nat × List Value)} {d : Nat} {h : pm_H} (hd : 3 ≤ d) (I : pw_I h) (mo : Int) (hmo1 : (-2147483648) ≤ mo) (hmo2 : mo ≤ 2147483647) (wt : Int) (hwt1 : (-2147483648) ≤ wt) (hwt2 : wt ≤ 2147483647) : pw X d h 164 0 [some (.ref 16), some (pw_i mo), some (pw_i wt), none, none, none, none, none] [] (fun h' v => h = h' ∧ ∃ a : Int, v = .inl (some (pw_i a)) ∧ (-2147483648) ≤ a ∧ a ≤ 2147483647 ∧ (((0 ≤ mo ∧ mo ≤ 11 ∧ 0 ≤ wt ∧ wt ≤ 2) ∧ ((wt = 0 ∧ a = pw_s1 (pw_ci h mo) 24) ∨ (wt = 1 ∧ a = pw_s2 (pw_ci h mo) (pw_cb h mo) 24) ∨ (wt = 2 ∧ a = pw_s3 (pw_ci h mo) (pw_cb h mo) 24))) ∨ (¬ (0 ≤ mo ∧ mo ≤ 11 ∧ 0 ≤ wt ∧ wt ≤ 2) ∧ a = -1))) := by
  have E : pm_ent 164 = some (3, 8, 11, 0, pmc_164) := rfl
  refine pw_ld E (pc' := 1) (st' := [pw_i mo]) rfl (fun _ => rfl) ?_
  refine pw_call (m' := 125) (As := [pw_i mo]) (rest := []) (ls'' := [some (pw_i mo)]) (by omega) E rfl (fun _ => pw_iS rfl rfl rfl) (rfl : pm_ent 125 = some (1, 1, 11, 1, pmc_125)) rfl rfl (cm_125 (by omega) I (mo) (by omega) (by omega)) ?_
  rintro u2 v1 ⟨rfl, x3, rfl, hx3a, hx3b, hx3r⟩
  refine ⟨_, rfl, ?_⟩
  show pw X d h 164 4 [some (.ref 16), some (pw_i mo), some (pw_i wt), none, none, none, none, none] [pw_i x3] _
  have hx3r : (x3 = 1 ∧ 0 ≤ mo ∧ mo ≤ 11) ∨ (x3 = 0 ∧ ¬ (0 ≤ mo ∧ mo ≤ 11)) := hx3r
  rcases (by omega : x3 = 1 ∨ x3 = 0) with hb4 | hb4
  · have hb4 : x3 = 1 := by omega
    refine pw_if E (pc' := 16) rfl (by decide) (by omega) (by omega) ?_ ?_
    · intro hc5
      have hc5 : x3 = (0 : Int) := hc5
      exfalso; omega
    · intro hc6
      have hc6 : ¬ (x3 = (0 : Int)) := hc6
      refine pw_ld E (pc' := 8) (st' := [pw_i wt]) rfl (fun _ => rfl) ?_
      refine pw_ld E (pc' := 9) (st' := [pw_i 0, pw_i wt]) rfl (fun _ => rfl) ?_
      refine pw_ld E (pc' := 10) (st' := [pw_i 2, pw_i 0, pw_i wt]) rfl (fun _ => rfl) ?_
      refine pw_call (m' := 121) (As := [pw_i wt, pw_i 0, pw_i 2]) (rest := []) (ls'' := [some (pw_i wt), some (pw_i 0), some (pw_i 2)]) (by omega) E rfl (fun _ => pw_iS rfl rfl rfl) (rfl : pm_ent 121 = some (3, 3, 11, 1, pmc_121)) rfl rfl (cm_121 (by omega) I (wt) (by omega) (by omega) (0) (by omega) (by omega) (2) (by omega) (by omega)) ?_
      rintro u8 v7 ⟨rfl, x9, rfl, hx9a, hx9b, hx9r⟩
      refine ⟨_, rfl, ?_⟩
      show pw X d h 164 13 [some (.ref 16), some (pw_i mo), some (pw_i wt), none, none, none, none, none] [pw_i x9] _
      have hx9r : (x9 = 1 ∧ 0 ≤ wt ∧ wt ≤ 2) ∨ (x9 = 0 ∧ ¬ (0 ≤ wt ∧ wt ≤ 2)) := hx9r
      rcases (by omega : x9 = 1 ∨ x9 = 0) with hb10 | hb10
      · have hb10 : x9 = 1 := by omega
        refine pw_if E (pc' := 18) rfl (by decide) (by omega) (by omega) ?_ ?_
        · intro hc11
          have hc11 : x9 ≠ (0 : Int) := hc11
          refine pw_ld E (pc' := 19) (st' := [pw_i 0]) rfl (fun _ => rfl) ?_
          refine pw_istn E (pc' := 20) (ls' := [some (.ref 16), some (pw_i mo), some (pw_i wt), some (pw_i 0), none, none, none, none]) rfl rfl rfl rfl ?_
          refine pw_ld E (pc' := 21) (st' := [pw_i 0]) rfl (fun _ => rfl) ?_
          refine pw_ist E (pc' := 23) (ls' := [some (.ref 16), some (pw_i mo), some (pw_i wt), some (pw_i 0), some (pw_i 0), none, none, none]) rfl rfl rfl rfl ?_
          refine pw_ld E (pc' := 24) (st' := [pw_i 0]) rfl (fun _ => rfl) ?_
          refine pw_ist E (pc' := 26) (ls' := [some (.ref 16), some (pw_i mo), some (pw_i wt), some (pw_i 0), some (pw_i 0), some (pw_i 0), none, none]) rfl rfl rfl rfl ?_
          refine pw_ld E (pc' := 27) (st' := [pw_i 0]) rfl (fun _ => rfl) ?_
          refine pw_ist E (pc' := 29) (ls' := [some (.ref 16), some (pw_i mo), some (pw_i wt), some (pw_i 0), some (pw_i 0), some (pw_i 0), some (pw_i 0), none]) rfl rfl rfl rfl ?_
          have L29 : ∀ (n29 : Nat) (k29_3 : Int) (k29_4 : Int) (k29_5 : Int) (k29_6 : Int) (k29_7 : Option Value), 0 ≤ k29_3 → k29_3 ≤ 24 → 0 ≤ k29_4 → k29_4 ≤ 24 → 0 ≤ k29_5 → k29_5 ≤ 4000 → 0 ≤ k29_6 → k29_6 ≤ 24 → k29_3 = pw_s1 (pw_ci h mo) (k29_6).toNat → k29_4 = pw_s2 (pw_ci h mo) (pw_cb h mo) (k29_6).toNat → k29_5 = pw_s3 (pw_ci h mo) (pw_cb h mo) (k29_6).toNat → k29_3 ≤ k29_6 → k29_4 ≤ k29_6 → (24 - k29_6).toNat = n29 → pw X d h 164 29 [some (.ref 16), some (pw_i mo), some (pw_i wt), some (pw_i k29_3), some (pw_i k29_4), some (pw_i k29_5), some (pw_i k29_6), k29_7] [] (fun h' v => h = h' ∧ ∃ a : Int, v = .inl (some (pw_i a)) ∧ (-2147483648) ≤ a ∧ a ≤ 2147483647 ∧ (((0 ≤ mo ∧ mo ≤ 11 ∧ 0 ≤ wt ∧ wt ≤ 2) ∧ ((wt = 0 ∧ a = pw_s1 (pw_ci h mo) 24) ∨ (wt = 1 ∧ a = pw_s2 (pw_ci h mo) (pw_cb h mo) 24) ∨ (wt = 2 ∧ a = pw_s3 (pw_ci h mo) (pw_cb h mo) 24))) ∨ (¬ (0 ≤ mo ∧ mo ≤ 11 ∧ 0 ≤ wt ∧ wt ≤ 2) ∧ a = -1))) := by
            intro n29
            induction n29 using Nat.strongRecOn with
            | ind n29 ih29 =>
              intro k29_3 k29_4 k29_5 k29_6 k29_7 k29_3a k29_3b k29_4a k29_4b k29_5a k29_5b k29_6a k29_6b hx29_0 hx29_1 hx29_2 hx29_3 hx29_4 hm29
              refine pw_ld E (pc' := 31) (st' := [pw_i k29_6]) rfl (fun _ => rfl) ?_
              refine pw_bip E (pc' := 33) rfl rfl (by decide) ?_
              refine pw_if2 E (pc' := 141) rfl (by decide) (by omega) (by omega) (by decide) (by decide) ?_ ?_
              · intro hc12
                have hc12 : (24 : Int) ≤ k29_6 := hc12
                have h24 : (k29_6).toNat = 24 := by omega
                rw [h24] at hx29_0 hx29_1 hx29_2
                refine pw_ld E (pc' := 142) (st' := [pw_i wt]) rfl (fun _ => rfl) ?_
                refine pw_if E (pc' := 147) rfl (by decide) (by omega) (by omega) ?_ ?_
                · intro hc13
                  have hc13 : wt ≠ (0 : Int) := hc13
                  refine pw_ld E (pc' := 148) (st' := [pw_i wt]) rfl (fun _ => rfl) ?_
                  refine pw_ld E (pc' := 149) (st' := [pw_i 1, pw_i wt]) rfl (fun _ => rfl) ?_
                  refine pw_if2 E (pc' := 157) rfl (by decide) (by omega) (by omega) (by decide) (by decide) ?_ ?_
                  · intro hc14
                    have hc14 : wt ≠ (1 : Int) := hc14
                    refine pw_ld E (pc' := 159) (st' := [pw_i k29_5]) rfl (fun _ => rfl) ?_
                    refine pw_iret E rfl ?_
                    exact ⟨rfl, ⟨_, rfl, by omega, by omega, Or.inl ⟨by omega, Or.inr (Or.inr ⟨by omega, hx29_2⟩)⟩⟩⟩
                  · intro hc15
                    have hc15 : ¬ (wt ≠ (1 : Int)) := hc15
                    refine pw_ld E (pc' := 154) (st' := [pw_i k29_4]) rfl (fun _ => rfl) ?_
                    refine pw_goto E (pc' := 159) rfl (by decide) ?_
                    refine pw_iret E rfl ?_
                    exact ⟨rfl, ⟨_, rfl, by omega, by omega, Or.inl ⟨by omega, Or.inr (Or.inl ⟨by omega, hx29_1⟩)⟩⟩⟩
                · intro hc16
                  have hc16 : ¬ (wt ≠ (0 : Int)) := hc16
                  refine pw_ld E (pc' := 146) (st' := [pw_i k29_3]) rfl (fun _ => rfl) ?_
                  refine pw_iret E rfl ?_
                  exact ⟨rfl, ⟨_, rfl, by omega, by omega, Or.inl ⟨by omega, Or.inl ⟨by omega, hx29_0⟩⟩⟩⟩
              · intro hc17
                have hc17 : ¬ ((24 : Int) ≤ k29_6) := hc17
                have hst := pw_sS (f := pw_ci h mo) (b := pw_cb h mo) (k := k29_6) (by omega)
                have hci := pw_ci_i (h := h) (mo := mo) (k := k29_6) (by omega)
                refine pw_ld E (pc' := 37) (st' := [.ref 16]) rfl (fun _ => rfl) ?_
                refine pw_getR (b := 17) I E (c := 0) (k := 0) (pc' := 40) rfl rfl rfl rfl rfl rfl rfl ?_
                refine pw_ld E (pc' := 42) (st' := [pw_i k29_6, .ref 17]) rfl (fun _ => rfl) ?_
                obtain ⟨f18l, f18h, -⟩ := pw_obj (c := 1) I rfl
                refine pw_call (m' := 59) (As := [.ref 17, pw_i k29_6]) (rest := []) (ls'' := [some (.ref 17), some (pw_i k29_6)]) (by omega) E rfl (fun _ => pw_iV rfl rfl rfl rfl (pw_cellI f18h rfl)) (rfl : pm_ent 59 = some (2, 2, 6, 1, pmc_59)) rfl rfl (cm_59 (by omega) I (k29_6) (by omega) (by omega)) ?_
                rintro u20 v19 ⟨rfl, x21, rfl, hx21a, hx21b, hx21r⟩
                refine ⟨_, rfl, ?_⟩
                show pw X d h 164 45 [some (.ref 16), some (pw_i mo), some (pw_i wt), some (pw_i k29_3), some (pw_i k29_4), some (pw_i k29_5), some (pw_i k29_6), k29_7] [pw_i x21] _
                have hx21r : x21 = pw_g h 2 k29_6.toNat := hx21r
                rcases (by omega : x21 = 1 ∨ x21 = 0) with hb22 | hb22
                · have hb22 : x21 = 1 := by omega
                  refine pw_if E (pc' := 135) rfl (by decide) (by omega) (by omega) ?_ ?_
                  · intro hc23
                    have hc23 : x21 = (0 : Int) := hc23
                    exfalso; omega
                  · intro hc24
                    have hc24 : ¬ (x21 = (0 : Int)) := hc24
                    refine pw_ld E (pc' := 49) (st' := [.ref 16]) rfl (fun _ => rfl) ?_
                    refine pw_getR (b := 26) I E (c := 0) (k := 2) (pc' := 52) rfl rfl rfl rfl rfl rfl rfl ?_
                    refine pw_ld E (pc' := 54) (st' := [pw_i k29_6, .ref 26]) rfl (fun _ => rfl) ?_
                    refine pw_ld E (pc' := 55) (st' := [pw_i mo, pw_i k29_6, .ref 26]) rfl (fun _ => rfl) ?_
                    obtain ⟨f25l, f25h, -⟩ := pw_obj (c := 10) I rfl
                    refine pw_call (m' := 19) (As := [.ref 26, pw_i k29_6, pw_i mo]) (rest := []) (ls'' := [some (.ref 26), some (pw_i k29_6), some (pw_i mo)]) (by omega) E rfl (fun _ => pw_iV rfl rfl rfl rfl (pw_cellI f25h rfl)) (rfl : pm_ent 19 = some (3, 3, 2, 1, pmc_19)) rfl rfl (cm_19_10h (by omega) I (k29_6) (by omega) (by omega) (mo) (by omega) (by omega)) ?_
                    rintro u27 v26 ⟨rfl, x28, rfl, hx28a, hx28b, hx28r⟩
                    refine ⟨_, rfl, ?_⟩
                    show pw X d h 164 58 [some (.ref 16), some (pw_i mo), some (pw_i wt), some (pw_i k29_3), some (pw_i k29_4), some (pw_i k29_5), some (pw_i k29_6), k29_7] [pw_i x28] _
                    have hx28r : (x28 = 1 ∧ pw_g h 11 (k29_6 * 12 + mo).toNat = -2) ∨ (x28 = 0 ∧ pw_g h 11 (k29_6 * 12 + mo).toNat ≠ -2) := hx28r
                    rcases (by omega : x28 = 1 ∨ x28 = 0) with hb29 | hb29
                    · have hb29 : x28 = 1 := by omega
                      refine pw_if E (pc' := 135) rfl (by decide) (by omega) (by omega) ?_ ?_
                      · intro hc30
                        have hc30 : x28 ≠ (0 : Int) := hc30
                        refine pw_inc E (pc' := 138) (ls' := [some (.ref 16), some (pw_i mo), some (pw_i wt), some (pw_i k29_3), some (pw_i k29_4), some (pw_i k29_5), some (pw_i (k29_6 + 1)), k29_7]) rfl rfl rfl rfl ?_
                        refine pw_goto E (pc' := 29) rfl (by decide) ?_
                        exact ih29 _ (by omega) (k29_3) (k29_4) (k29_5) (k29_6 + 1) k29_7  (by omega) (by omega) (by omega) (by omega) (by omega) (by omega) (by omega) (by omega) (by omega) (by omega) (by omega) (by omega) (by omega) rfl
                      · intro hc31
                        have hc31 : ¬ (x28 ≠ (0 : Int)) := hc31
                        exfalso; omega
                    · have hb32 : x28 = 0 := by omega
                      refine pw_if E (pc' := 135) rfl (by decide) (by omega) (by omega) ?_ ?_
                      · intro hc33
                        have hc33 : x28 ≠ (0 : Int) := hc33
                        exfalso; omega
                      · intro hc34
                        have hc34 : ¬ (x28 ≠ (0 : Int)) := hc34
                        refine pw_ld E (pc' := 62) (st' := [.ref 16]) rfl (fun _ => rfl) ?_
                        refine pw_getR (b := 28) I E (c := 0) (k := 3) (pc' := 65) rfl rfl rfl rfl rfl rfl rfl ?_
                        refine pw_ld E (pc' := 67) (st' := [pw_i k29_6, .ref 28]) rfl (fun _ => rfl) ?_
                        refine pw_ld E (pc' := 68) (st' := [pw_i mo, pw_i k29_6, .ref 28]) rfl (fun _ => rfl) ?_
                        obtain ⟨f35l, f35h, -⟩ := pw_obj (c := 12) I rfl
                        refine pw_call (m' := 19) (As := [.ref 28, pw_i k29_6, pw_i mo]) (rest := []) (ls'' := [some (.ref 28), some (pw_i k29_6), some (pw_i mo)]) (by omega) E rfl (fun _ => pw_iV rfl rfl rfl rfl (pw_cellI f35h rfl)) (rfl : pm_ent 19 = some (3, 3, 2, 1, pmc_19)) rfl rfl (cm_19_12h (by omega) I (k29_6) (by omega) (by omega) (mo) (by omega) (by omega)) ?_
                        rintro u37 v36 ⟨rfl, x38, rfl, hx38a, hx38b, hx38r⟩
                        refine ⟨_, rfl, ?_⟩
                        show pw X d h 164 71 [some (.ref 16), some (pw_i mo), some (pw_i wt), some (pw_i k29_3), some (pw_i k29_4), some (pw_i k29_5), some (pw_i k29_6), k29_7] [pw_i x38] _
                        have hx38r : (x38 = 1 ∧ pw_g h 13 (k29_6 * 12 + mo).toNat = -2) ∨ (x38 = 0 ∧ pw_g h 13 (k29_6 * 12 + mo).toNat ≠ -2) := hx38r
                        rcases (by omega : x38 = 1 ∨ x38 = 0) with hb39 | hb39
                        · have hb39 : x38 = 1 := by omega
                          refine pw_if E (pc' := 135) rfl (by decide) (by omega) (by omega) ?_ ?_
                          · intro hc40
                            have hc40 : x38 ≠ (0 : Int) := hc40
                            refine pw_inc E (pc' := 138) (ls' := [some (.ref 16), some (pw_i mo), some (pw_i wt), some (pw_i k29_3), some (pw_i k29_4), some (pw_i k29_5), some (pw_i (k29_6 + 1)), k29_7]) rfl rfl rfl rfl ?_
                            refine pw_goto E (pc' := 29) rfl (by decide) ?_
                            exact ih29 _ (by omega) (k29_3) (k29_4) (k29_5) (k29_6 + 1) k29_7  (by omega) (by omega) (by omega) (by omega) (by omega) (by omega) (by omega) (by omega) (by omega) (by omega) (by omega) (by omega) (by omega) rfl
                          · intro hc41
                            have hc41 : ¬ (x38 ≠ (0 : Int)) := hc41
                            exfalso; omega
                        · have hb42 : x38 = 0 := by omega
                          refine pw_if E (pc' := 135) rfl (by decide) (by omega) (by omega) ?_ ?_
                          · intro hc43
                            have hc43 : x38 ≠ (0 : Int) := hc43
                            exfalso; omega
                          · intro hc44
                            have hc44 : ¬ (x38 ≠ (0 : Int)) := hc44
                            refine pw_ld E (pc' := 75) (st' := [.ref 16]) rfl (fun _ => rfl) ?_
                            refine pw_getR (b := 26) I E (c := 0) (k := 2) (pc' := 78) rfl rfl rfl rfl rfl rfl rfl ?_
                            refine pw_ld E (pc' := 80) (st' := [pw_i k29_6, .ref 26]) rfl (fun _ => rfl) ?_
                            refine pw_ld E (pc' := 81) (st' := [pw_i mo, pw_i k29_6, .ref 26]) rfl (fun _ => rfl) ?_
                            refine pw_ld E (pc' := 82) (st' := [.ref 16, pw_i mo, pw_i k29_6, .ref 26]) rfl (fun _ => rfl) ?_
                            refine pw_getI I E (c := 0) (k := 6) (pc' := 85) rfl rfl rfl rfl rfl rfl (fun hf45a hf45b hf45c hf45d => ?_)
                            obtain ⟨f46l, f46h, -⟩ := pw_obj (c := 10) I rfl
                            refine pw_call (m' := 20) (As := [.ref 26, pw_i k29_6, pw_i mo, pw_i (pw_g h 0 6)]) (rest := []) (ls'' := [some (.ref 26), some (pw_i k29_6), some (pw_i mo), some (pw_i (pw_g h 0 6))]) (by omega) E rfl (fun _ => pw_iV rfl rfl rfl rfl (pw_cellI f46h rfl)) (rfl : pm_ent 20 = some (4, 4, 2, 0, pmc_20)) rfl rfl (cm_20_10h (by omega) I (k29_6) (by omega) (by omega) (mo) (by omega) (by omega) (pw_g h 0 6) (by omega) (by omega)) ?_
                            rintro u48 v47 ⟨rfl, x49, rfl, hx49a, hx49b, hx49r⟩
                            refine ⟨_, rfl, ?_⟩
                            show pw X d h 164 88 [some (.ref 16), some (pw_i mo), some (pw_i wt), some (pw_i k29_3), some (pw_i k29_4), some (pw_i k29_5), some (pw_i k29_6), k29_7] [pw_i x49] _
                            have hx49r : x49 = (max 0 (pw_g h 11 (k29_6 * 12 + mo).toNat) / 100) * 10 + (max 0 (pw_g h 11 (k29_6 * 12 + mo).toNat) % 100) * (pw_g h 0 6) := hx49r
                            refine pw_ld E (pc' := 89) (st' := [.ref 16, pw_i x49]) rfl (fun _ => rfl) ?_
                            refine pw_getR (b := 28) I E (c := 0) (k := 3) (pc' := 92) rfl rfl rfl rfl rfl rfl rfl ?_
                            refine pw_ld E (pc' := 94) (st' := [pw_i k29_6, .ref 28, pw_i x49]) rfl (fun _ => rfl) ?_
                            refine pw_ld E (pc' := 95) (st' := [pw_i mo, pw_i k29_6, .ref 28, pw_i x49]) rfl (fun _ => rfl) ?_
                            refine pw_ld E (pc' := 96) (st' := [.ref 16, pw_i mo, pw_i k29_6, .ref 28, pw_i x49]) rfl (fun _ => rfl) ?_
                            refine pw_getI I E (c := 0) (k := 6) (pc' := 99) rfl rfl rfl rfl rfl rfl (fun hf50a hf50b hf50c hf50d => ?_)
                            obtain ⟨f51l, f51h, -⟩ := pw_obj (c := 12) I rfl
                            refine pw_call (m' := 20) (As := [.ref 28, pw_i k29_6, pw_i mo, pw_i (pw_g h 0 6)]) (rest := [pw_i x49]) (ls'' := [some (.ref 28), some (pw_i k29_6), some (pw_i mo), some (pw_i (pw_g h 0 6))]) (by omega) E rfl (fun _ => pw_iV rfl rfl rfl rfl (pw_cellI f51h rfl)) (rfl : pm_ent 20 = some (4, 4, 2, 0, pmc_20)) rfl rfl (cm_20_12h (by omega) I (k29_6) (by omega) (by omega) (mo) (by omega) (by omega) (pw_g h 0 6) (by omega) (by omega)) ?_
                            rintro u53 v52 ⟨rfl, x54, rfl, hx54a, hx54b, hx54r⟩
                            refine ⟨_, rfl, ?_⟩
                            show pw X d h 164 102 [some (.ref 16), some (pw_i mo), some (pw_i wt), some (pw_i k29_3), some (pw_i k29_4), some (pw_i k29_5), some (pw_i k29_6), k29_7] [pw_i x54, pw_i x49] _
                            have hx54r : x54 = (max 0 (pw_g h 13 (k29_6 * 12 + mo).toNat) / 100) * 10 + (max 0 (pw_g h 13 (k29_6 * 12 + mo).toNat) % 100) * (pw_g h 0 6) := hx54r
                            refine pw_sub E (pc' := 103) rfl rfl ?_
                            refine pw_abs E rfl rfl rfl (fun x55 hx55a hx55b hx55c hx55d => ?_)
                            refine pw_ist E (pc' := 108) (ls' := [some (.ref 16), some (pw_i mo), some (pw_i wt), some (pw_i k29_3), some (pw_i k29_4), some (pw_i k29_5), some (pw_i k29_6), some (pw_i x55)]) rfl rfl rfl rfl ?_
                            have hab : x55 = pw_ab (pw_hc (pw_g h 11 (k29_6 * 12 + mo).toNat) (pw_g h 0 6) - pw_hc (pw_g h 13 (k29_6 * 12 + mo).toNat) (pw_g h 0 6)) := by
                              have y1 : x49 = pw_hc (pw_g h 11 (k29_6 * 12 + mo).toNat) (pw_g h 0 6) := hx49r
                              have y2 : x54 = pw_hc (pw_g h 13 (k29_6 * 12 + mo).toNat) (pw_g h 0 6) := hx54r
                              rw [← y1, ← y2]; unfold pw_ab; omega
                            refine pw_inc E (pc' := 111) (ls' := [some (.ref 16), some (pw_i mo), some (pw_i wt), some (pw_i (k29_3 + 1)), some (pw_i k29_4), some (pw_i k29_5), some (pw_i k29_6), some (pw_i x55)]) rfl rfl rfl rfl ?_
                            refine pw_ld E (pc' := 113) (st' := [pw_i k29_4]) rfl (fun _ => rfl) ?_
                            refine pw_ld E (pc' := 115) (st' := [pw_i x55, pw_i k29_4]) rfl (fun _ => rfl) ?_
                            refine pw_if E (pc' := 122) rfl (by decide) (by omega) (by omega) ?_ ?_
                            · intro hc56
                              have hc56 : x55 = (0 : Int) := hc56
                              refine pw_ld E (pc' := 123) (st' := [pw_i 0, pw_i k29_4]) rfl (fun _ => rfl) ?_
                              refine pw_add E (pc' := 124) rfl rfl ?_
                              refine pw_ist E (pc' := 126) (ls' := [some (.ref 16), some (pw_i mo), some (pw_i wt), some (pw_i (k29_3 + 1)), some (pw_i (k29_4 + 0)), some (pw_i k29_5), some (pw_i k29_6), some (pw_i x55)]) rfl rfl rfl rfl ?_
                              refine pw_ld E (pc' := 128) (st' := [pw_i k29_5]) rfl (fun _ => rfl) ?_
                              refine pw_ld E (pc' := 130) (st' := [pw_i x55, pw_i k29_5]) rfl (fun _ => rfl) ?_
                              refine pw_max E rfl rfl (by omega) (by omega) (by omega) (by omega) rfl ?_
                              refine pw_ist E (pc' := 135) (ls' := [some (.ref 16), some (pw_i mo), some (pw_i wt), some (pw_i (k29_3 + 1)), some (pw_i (k29_4 + 0)), some (pw_i (max k29_5 x55)), some (pw_i k29_6), some (pw_i x55)]) rfl rfl rfl rfl ?_
                              refine pw_inc E (pc' := 138) (ls' := [some (.ref 16), some (pw_i mo), some (pw_i wt), some (pw_i (k29_3 + 1)), some (pw_i (k29_4 + 0)), some (pw_i (max k29_5 x55)), some (pw_i (k29_6 + 1)), some (pw_i x55)]) rfl rfl rfl rfl ?_
                              refine pw_goto E (pc' := 29) rfl (by decide) ?_
                              exact ih29 _ (by omega) (k29_3 + 1) (k29_4 + 0) (max k29_5 x55) (k29_6 + 1) (some (pw_i x55))  (by omega) (by omega) (by omega) (by omega) (by omega) (by omega) (by omega) (by omega) (by omega) (by omega) (by omega) (by omega) (by omega) rfl
                            · intro hc57
                              have hc57 : ¬ (x55 = (0 : Int)) := hc57
                              refine pw_ld E (pc' := 119) (st' := [pw_i 1, pw_i k29_4]) rfl (fun _ => rfl) ?_
                              refine pw_goto E (pc' := 123) rfl (by decide) ?_
                              refine pw_add E (pc' := 124) rfl rfl ?_
                              refine pw_ist E (pc' := 126) (ls' := [some (.ref 16), some (pw_i mo), some (pw_i wt), some (pw_i (k29_3 + 1)), some (pw_i (k29_4 + 1)), some (pw_i k29_5), some (pw_i k29_6), some (pw_i x55)]) rfl rfl rfl rfl ?_
                              refine pw_ld E (pc' := 128) (st' := [pw_i k29_5]) rfl (fun _ => rfl) ?_
                              refine pw_ld E (pc' := 130) (st' := [pw_i x55, pw_i k29_5]) rfl (fun _ => rfl) ?_
                              refine pw_max E rfl rfl (by omega) (by omega) (by omega) (by omega) rfl ?_
                              refine pw_ist E (pc' := 135) (ls' := [some (.ref 16), some (pw_i mo), some (pw_i wt), some (pw_i (k29_3 + 1)), some (pw_i (k29_4 + 1)), some (pw_i (max k29_5 x55)), some (pw_i k29_6), some (pw_i x55)]) rfl rfl rfl rfl ?_
                              refine pw_inc E (pc' := 138) (ls' := [some (.ref 16), some (pw_i mo), some (pw_i wt), some (pw_i (k29_3 + 1)), some (pw_i (k29_4 + 1)), some (pw_i (max k29_5 x55)), some (pw_i (k29_6 + 1)), some (pw_i x55)]) rfl rfl rfl rfl ?_
                              refine pw_goto E (pc' := 29) rfl (by decide) ?_
                              exact ih29 _ (by omega) (k29_3 + 1) (k29_4 + 1) (max k29_5 x55) (k29_6 + 1) (some (pw_i x55))  (by omega) (by omega) (by omega) (by omega) (by omega) (by omega) (by omega) (by omega) (by omega) (by omega) (by omega) (by omega) (by omega) rfl
                · have hb58 : x21 = 0 := by omega
                  refine pw_if E (pc' := 135) rfl (by decide) (by omega) (by omega) ?_ ?_
                  · intro hc59
                    have hc59 : x21 = (0 : Int) := hc59
                    refine pw_inc E (pc' := 138) (ls' := [some (.ref 16), some (pw_i mo), some (pw_i wt), some (pw_i k29_3), some (pw_i k29_4), some (pw_i k29_5), some (pw_i (k29_6 + 1)), k29_7]) rfl rfl rfl rfl ?_
                    refine pw_goto E (pc' := 29) rfl (by decide) ?_
                    exact ih29 _ (by omega) (k29_3) (k29_4) (k29_5) (k29_6 + 1) k29_7  (by omega) (by omega) (by omega) (by omega) (by omega) (by omega) (by omega) (by omega) (by omega) (by omega) (by omega) (by omega) (by omega) rfl
                  · intro hc60
                    have hc60 : ¬ (x21 = (0 : Int)) := hc60
                    exfalso; omega
          exact L29 _ (0) (0) (0) (0) (none)  (by omega) (by omega) (by omega) (by omega) (by omega) (by omega) (by omega) (by omega) rfl rfl rfl (by omega) (by omega) rfl
        · intro hc61
          have hc61 : ¬ (x9 ≠ (0 : Int)) := hc61
          exfalso; omega
      · have hb62 : x9 = 0 := by omega
        refine pw_if E (pc' := 18) rfl (by decide) (by omega) (by omega) ?_ ?_
        · intro hc63
          have hc63 : x9 ≠ (0 : Int) := hc63
          exfalso; omega
        · intro hc64
          have hc64 : ¬ (x9 ≠ (0 : Int)) := hc64
          refine pw_ld E (pc' := 17) (st' := [pw_i ((-1))]) rfl (fun _ => rfl) ?_
          refine pw_iret E rfl ?_
          exact ⟨rfl, ⟨_, rfl, by omega, by omega, Or.inr ⟨by omega, rfl⟩⟩⟩
  · have hb65 : x3 = 0 := by omega
    refine pw_if E (pc' := 16) rfl (by decide) (by omega) (by omega) ?_ ?_
    · intro hc66
      have hc66 : x3 = (0 : Int) := hc66
      refine pw_ld E (pc' := 17) (st' := [pw_i ((-1))]) rfl (fun _ => rfl) ?_
      refine pw_iret E rfl ?_
      exact ⟨rfl, ⟨_, rfl, by omega, by omega, Or.inr ⟨by omega, rfl⟩⟩⟩
    · intro hc67
      have hc67 : ¬ (x3 = (0 : Int)) := hc67
      exfalso; omega
set_option maxHeartbeats 4000000 in
theorem cm_301_h {X : List (Nat × List Value)} {d : Nat} {h : pm_H} (hd : 3 ≤ d) (I : pw_I h) (mo : Int) (hmo1 : (-2147483648) ≤ mo) (hmo2 : mo ≤ 2147483647) (wt : Int) (hwt1 : (-2147483648) ≤ wt) (hwt2 : wt ≤ 2147483647) : pw X d h 301 0 [some (.ref 141), some (pw_i mo), some (pw_i wt), none, none, none, none, none, none] [] (fun h' v => pw_I h' ∧ pw_E [125] h h' ∧ ∃ a : Int, v = .inl (some (pw_i a)) ∧ (-2147483648) ≤ a ∧ a ≤ 2147483647 ∧ (((0 ≤ mo ∧ mo ≤ 11 ∧ 0 ≤ wt ∧ wt ≤ 2) ∧ ((wt = 0 ∧ a = pw_s1 (pw_mi h mo) 24) ∨ (wt = 1 ∧ a = pw_s2 (pw_mi h mo) (pw_mb h mo) 24) ∨ (wt = 2 ∧ a = pw_s3 (pw_mi h mo) (pw_mb h mo) 24))) ∨ (¬ (0 ≤ mo ∧ mo ≤ 11 ∧ 0 ≤ wt ∧ wt ≤ 2) ∧ a = -1))) := by
  have E : pm_ent 301 = some (3, 9, 12, 0, pmc_301) := rfl
  have E0 : pw_E [125] h h := pw_E.rf _ _
  refine pw_ld E (pc' := 1) (st' := [.ref 141]) rfl (fun _ => rfl) ?_
  refine pw_ld E (pc' := 2) (st' := [pw_i 0, .ref 141]) rfl (fun _ => rfl) ?_
  refine pw_putI I E (c := 125) (k := 0) (pc' := 5) rfl rfl rfl rfl (by omega) (by omega) (by omega) (by omega) rfl rfl ?_
  intro h1I h1E
  generalize h1w : pw_w h 125 0 (pw_i 0) = h1 at h1I h1E ⊢
  have h1F := E0.tr (h1E.wk (W' := [125]) (by first | rfl | simp))
  have ht2 : ∀ c j : Nat, c ≠ 125 → pw_g h1 c j = pw_g h c j := fun c j hc => by rw [← h1w]; exact pw_g_ne (fun q => hc q.1.symm)
  have ht3 : pw_g h1 125 15 = pw_g h 125 15 := by rw [← h1w]; exact pw_g_ne (by omega)
  refine pw_ld E (pc' := 6) (st' := [pw_i mo]) rfl (fun _ => rfl) ?_
  refine pw_call (m' := 205) (As := [pw_i mo]) (rest := []) (ls'' := [some (pw_i mo)]) (by omega) E rfl (fun _ => pw_iS rfl rfl rfl) (rfl : pm_ent 205 = some (1, 1, 12, 1, pmc_205)) rfl rfl (cm_205 (by omega) h1I (mo) (by omega) (by omega)) ?_
  rintro u3 v2 ⟨rfl, x4, rfl, hx4a, hx4b, hx4r⟩
  refine ⟨_, rfl, ?_⟩
  show pw X d h1 301 9 [some (.ref 141), some (pw_i mo), some (pw_i wt), none, none, none, none, none, none] [pw_i x4] _
  have hx4r : (x4 = 1 ∧ 0 ≤ mo ∧ mo ≤ 11) ∨ (x4 = 0 ∧ ¬ (0 ≤ mo ∧ mo ≤ 11)) := hx4r
  rcases (by omega : x4 = 1 ∨ x4 = 0) with hb5 | hb5
  · have hb5 : x4 = 1 := by omega
    refine pw_if E (pc' := 21) rfl (by decide) (by omega) (by omega) ?_ ?_
    · intro hc6
      have hc6 : x4 = (0 : Int) := hc6
      exfalso; omega
    · intro hc7
      have hc7 : ¬ (x4 = (0 : Int)) := hc7
      refine pw_ld E (pc' := 13) (st' := [pw_i wt]) rfl (fun _ => rfl) ?_
      refine pw_ld E (pc' := 14) (st' := [pw_i 0, pw_i wt]) rfl (fun _ => rfl) ?_
      refine pw_ld E (pc' := 15) (st' := [pw_i 2, pw_i 0, pw_i wt]) rfl (fun _ => rfl) ?_
      refine pw_call (m' := 202) (As := [pw_i wt, pw_i 0, pw_i 2]) (rest := []) (ls'' := [some (pw_i wt), some (pw_i 0), some (pw_i 2)]) (by omega) E rfl (fun _ => pw_iS rfl rfl rfl) (rfl : pm_ent 202 = some (3, 3, 12, 1, pmc_202)) rfl rfl (cm_202 (by omega) h1I (wt) (by omega) (by omega) (0) (by omega) (by omega) (2) (by omega) (by omega)) ?_
      rintro u9 v8 ⟨rfl, x10, rfl, hx10a, hx10b, hx10r⟩
      refine ⟨_, rfl, ?_⟩
      show pw X d h1 301 18 [some (.ref 141), some (pw_i mo), some (pw_i wt), none, none, none, none, none, none] [pw_i x10] _
      have hx10r : (x10 = 1 ∧ 0 ≤ wt ∧ wt ≤ 2) ∨ (x10 = 0 ∧ ¬ (0 ≤ wt ∧ wt ≤ 2)) := hx10r
      rcases (by omega : x10 = 1 ∨ x10 = 0) with hb11 | hb11
      · have hb11 : x10 = 1 := by omega
        refine pw_if E (pc' := 23) rfl (by decide) (by omega) (by omega) ?_ ?_
        · intro hc12
          have hc12 : x10 ≠ (0 : Int) := hc12
          refine pw_ld E (pc' := 24) (st' := [pw_i 0]) rfl (fun _ => rfl) ?_
          refine pw_istn E (pc' := 25) (ls' := [some (.ref 141), some (pw_i mo), some (pw_i wt), some (pw_i 0), none, none, none, none, none]) rfl rfl rfl rfl ?_
          refine pw_ld E (pc' := 26) (st' := [pw_i 0]) rfl (fun _ => rfl) ?_
          refine pw_ist E (pc' := 28) (ls' := [some (.ref 141), some (pw_i mo), some (pw_i wt), some (pw_i 0), some (pw_i 0), none, none, none, none]) rfl rfl rfl rfl ?_
          refine pw_ld E (pc' := 29) (st' := [pw_i 0]) rfl (fun _ => rfl) ?_
          refine pw_ist E (pc' := 31) (ls' := [some (.ref 141), some (pw_i mo), some (pw_i wt), some (pw_i 0), some (pw_i 0), some (pw_i 0), none, none, none]) rfl rfl rfl rfl ?_
          refine pw_ld E (pc' := 32) (st' := [pw_i 0]) rfl (fun _ => rfl) ?_
          refine pw_ist E (pc' := 34) (ls' := [some (.ref 141), some (pw_i mo), some (pw_i wt), some (pw_i 0), some (pw_i 0), some (pw_i 0), some (pw_i 0), none, none]) rfl rfl rfl rfl ?_
          have L34 : ∀ (n34 : Nat) (k34_3 : Int) (k34_4 : Int) (k34_5 : Int) (k34_6 : Int) (k34_7 : Option Value) (k34_8 : Option Value), 0 ≤ k34_3 → k34_3 ≤ 24 → 0 ≤ k34_4 → k34_4 ≤ 24 → 0 ≤ k34_5 → k34_5 ≤ 4000 → 0 ≤ k34_6 → k34_6 ≤ 24 → k34_3 = pw_s1 (pw_mi h mo) (k34_6).toNat → k34_4 = pw_s2 (pw_mi h mo) (pw_mb h mo) (k34_6).toNat → k34_5 = pw_s3 (pw_mi h mo) (pw_mb h mo) (k34_6).toNat → k34_3 ≤ k34_6 → k34_4 ≤ k34_6 → (24 - k34_6).toNat = n34 → pw X d h1 301 34 [some (.ref 141), some (pw_i mo), some (pw_i wt), some (pw_i k34_3), some (pw_i k34_4), some (pw_i k34_5), some (pw_i k34_6), k34_7, k34_8] [] (fun h' v => pw_I h' ∧ pw_E [125] h h' ∧ ∃ a : Int, v = .inl (some (pw_i a)) ∧ (-2147483648) ≤ a ∧ a ≤ 2147483647 ∧ (((0 ≤ mo ∧ mo ≤ 11 ∧ 0 ≤ wt ∧ wt ≤ 2) ∧ ((wt = 0 ∧ a = pw_s1 (pw_mi h mo) 24) ∨ (wt = 1 ∧ a = pw_s2 (pw_mi h mo) (pw_mb h mo) 24) ∨ (wt = 2 ∧ a = pw_s3 (pw_mi h mo) (pw_mb h mo) 24))) ∨ (¬ (0 ≤ mo ∧ mo ≤ 11 ∧ 0 ≤ wt ∧ wt ≤ 2) ∧ a = -1))) := by
            intro n34
            induction n34 using Nat.strongRecOn with
            | ind n34 ih34 =>
              intro k34_3 k34_4 k34_5 k34_6 k34_7 k34_8 k34_3a k34_3b k34_4a k34_4b k34_5a k34_5b k34_6a k34_6b hx34_0 hx34_1 hx34_2 hx34_3 hx34_4 hm34
              refine pw_ld E (pc' := 36) (st' := [pw_i k34_6]) rfl (fun _ => rfl) ?_
              refine pw_bip E (pc' := 38) rfl rfl (by decide) ?_
              refine pw_if2 E (pc' := 152) rfl (by decide) (by omega) (by omega) (by decide) (by decide) ?_ ?_
              · intro hc13
                have hc13 : (24 : Int) ≤ k34_6 := hc13
                have h24 : (k34_6).toNat = 24 := by omega
                rw [h24] at hx34_0 hx34_1 hx34_2
                refine pw_ld E (pc' := 153) (st' := [pw_i wt]) rfl (fun _ => rfl) ?_
                refine pw_if E (pc' := 160) rfl (by decide) (by omega) (by omega) ?_ ?_
                · intro hc14
                  have hc14 : wt ≠ (0 : Int) := hc14
                  refine pw_ld E (pc' := 161) (st' := [pw_i wt]) rfl (fun _ => rfl) ?_
                  refine pw_ld E (pc' := 162) (st' := [pw_i 1, pw_i wt]) rfl (fun _ => rfl) ?_
                  refine pw_if2 E (pc' := 170) rfl (by decide) (by omega) (by omega) (by decide) (by decide) ?_ ?_
                  · intro hc15
                    have hc15 : wt ≠ (1 : Int) := hc15
                    refine pw_ld E (pc' := 172) (st' := [pw_i k34_5]) rfl (fun _ => rfl) ?_
                    refine pw_iret E rfl ?_
                    exact ⟨h1I, h1F, ⟨_, rfl, by omega, by omega, Or.inl ⟨by omega, Or.inr (Or.inr ⟨by omega, hx34_2⟩)⟩⟩⟩
                  · intro hc16
                    have hc16 : ¬ (wt ≠ (1 : Int)) := hc16
                    refine pw_ld E (pc' := 167) (st' := [pw_i k34_4]) rfl (fun _ => rfl) ?_
                    refine pw_goto E (pc' := 172) rfl (by decide) ?_
                    refine pw_iret E rfl ?_
                    exact ⟨h1I, h1F, ⟨_, rfl, by omega, by omega, Or.inl ⟨by omega, Or.inr (Or.inl ⟨by omega, hx34_1⟩)⟩⟩⟩
                · intro hc17
                  have hc17 : ¬ (wt ≠ (0 : Int)) := hc17
                  refine pw_ld E (pc' := 157) (st' := [pw_i k34_3]) rfl (fun _ => rfl) ?_
                  refine pw_goto E (pc' := 172) rfl (by decide) ?_
                  refine pw_iret E rfl ?_
                  exact ⟨h1I, h1F, ⟨_, rfl, by omega, by omega, Or.inl ⟨by omega, Or.inl ⟨by omega, hx34_0⟩⟩⟩⟩
              · intro hc18
                have hc18 : ¬ ((24 : Int) ≤ k34_6) := hc18
                have hst := pw_sS (f := pw_mi h mo) (b := pw_mb h mo) (k := k34_6) (by omega)
                have hmi := pw_mi_i (h := h) (mo := mo) (k := k34_6) (by omega)
                have g1 := ht2 131 (k34_6).toNat (by decide)
                have g2 := ht2 138 (12 * k34_6 + mo).toNat (by decide)
                have g3 := ht2 141 (12 * k34_6 + mo).toNat (by decide)
                refine pw_bip E (pc' := 43) rfl rfl (by decide) ?_
                refine pw_ld E (pc' := 45) (st' := [pw_i k34_6, pw_i 12]) rfl (fun _ => rfl) ?_
                refine pw_mul E (pc' := 46) rfl rfl ?_
                refine pw_ld E (pc' := 47) (st' := [pw_i mo, pw_i (12 * k34_6)]) rfl (fun _ => rfl) ?_
                refine pw_add E (pc' := 48) rfl rfl ?_
                refine pw_ist E (pc' := 50) (ls' := [some (.ref 141), some (pw_i mo), some (pw_i wt), some (pw_i k34_3), some (pw_i k34_4), some (pw_i k34_5), some (pw_i k34_6), some (pw_i ((12 * k34_6) + mo)), k34_8]) rfl rfl rfl rfl ?_
                refine pw_ld E (pc' := 51) (st' := [.ref 141]) rfl (fun _ => rfl) ?_
                refine pw_getR (b := 147) h1I E (c := 125) (k := 10) (pc' := 54) rfl rfl rfl rfl rfl rfl rfl ?_
                refine pw_ld E (pc' := 56) (st' := [pw_i k34_6, .ref 147]) rfl (fun _ => rfl) ?_
                refine pw_ald h1I E (c := 131) (pc' := 57) rfl rfl rfl (by decide) rfl (by decide) (by omega) (by omega) rfl (fun hf19a hf19b hf19c hf19d => ?_)
                refine pw_if E (pc' := 146) rfl (by decide) (by omega) (by omega) ?_ ?_
                · intro hc20
                  have hc20 : pw_g h1 131 (k34_6.toNat) = (0 : Int) := hc20
                  refine pw_inc E (pc' := 149) (ls' := [some (.ref 141), some (pw_i mo), some (pw_i wt), some (pw_i k34_3), some (pw_i k34_4), some (pw_i k34_5), some (pw_i (k34_6 + 1)), some (pw_i ((12 * k34_6) + mo)), k34_8]) rfl rfl rfl rfl ?_
                  refine pw_goto E (pc' := 34) rfl (by decide) ?_
                  exact ih34 _ (by omega) (k34_3) (k34_4) (k34_5) (k34_6 + 1) (some (pw_i ((12 * k34_6) + mo))) k34_8  (by omega) (by omega) (by omega) (by omega) (by omega) (by omega) (by omega) (by omega) (by omega) (by omega) (by omega) (by omega) (by omega) rfl
                · intro hc21
                  have hc21 : ¬ (pw_g h1 131 (k34_6.toNat) = (0 : Int)) := hc21
                  refine pw_ld E (pc' := 61) (st' := [.ref 141]) rfl (fun _ => rfl) ?_
                  refine pw_getR (b := 154) h1I E (c := 125) (k := 18) (pc' := 64) rfl rfl rfl rfl rfl rfl rfl ?_
                  refine pw_ld E (pc' := 66) (st' := [pw_i ((12 * k34_6) + mo), .ref 154]) rfl (fun _ => rfl) ?_
                  refine pw_ald h1I E (c := 138) (pc' := 67) rfl rfl rfl (by decide) rfl (by decide) (by omega) (by omega) rfl (fun hf22a hf22b hf22c hf22d => ?_)
                  refine pw_if E (pc' := 146) rfl (by decide) (by omega) (by omega) ?_ ?_
                  · intro hc23
                    have hc23 : pw_g h1 138 (((12 * k34_6) + mo).toNat) = (0 : Int) := hc23
                    refine pw_inc E (pc' := 149) (ls' := [some (.ref 141), some (pw_i mo), some (pw_i wt), some (pw_i k34_3), some (pw_i k34_4), some (pw_i k34_5), some (pw_i (k34_6 + 1)), some (pw_i ((12 * k34_6) + mo)), k34_8]) rfl rfl rfl rfl ?_
                    refine pw_goto E (pc' := 34) rfl (by decide) ?_
                    exact ih34 _ (by omega) (k34_3) (k34_4) (k34_5) (k34_6 + 1) (some (pw_i ((12 * k34_6) + mo))) k34_8  (by omega) (by omega) (by omega) (by omega) (by omega) (by omega) (by omega) (by omega) (by omega) (by omega) (by omega) (by omega) (by omega) rfl
                  · intro hc24
                    have hc24 : ¬ (pw_g h1 138 (((12 * k34_6) + mo).toNat) = (0 : Int)) := hc24
                    refine pw_ld E (pc' := 71) (st' := [.ref 141]) rfl (fun _ => rfl) ?_
                    refine pw_getR (b := 157) h1I E (c := 125) (k := 21) (pc' := 74) rfl rfl rfl rfl rfl rfl rfl ?_
                    refine pw_ld E (pc' := 76) (st' := [pw_i ((12 * k34_6) + mo), .ref 157]) rfl (fun _ => rfl) ?_
                    refine pw_ald h1I E (c := 141) (pc' := 77) rfl rfl rfl (by decide) rfl (by decide) (by omega) (by omega) rfl (fun hf25a hf25b hf25c hf25d => ?_)
                    refine pw_ld E (pc' := 78) (st' := [pw_i 1, pw_i (pw_g h1 141 (((12 * k34_6) + mo).toNat))]) rfl (fun _ => rfl) ?_
                    refine pw_if2 E (pc' := 146) rfl (by decide) (by omega) (by omega) (by decide) (by decide) ?_ ?_
                    · intro hc26
                      have hc26 : pw_g h1 141 (((12 * k34_6) + mo).toNat) ≠ (1 : Int) := hc26
                      refine pw_inc E (pc' := 149) (ls' := [some (.ref 141), some (pw_i mo), some (pw_i wt), some (pw_i k34_3), some (pw_i k34_4), some (pw_i k34_5), some (pw_i (k34_6 + 1)), some (pw_i ((12 * k34_6) + mo)), k34_8]) rfl rfl rfl rfl ?_
                      refine pw_goto E (pc' := 34) rfl (by decide) ?_
                      exact ih34 _ (by omega) (k34_3) (k34_4) (k34_5) (k34_6 + 1) (some (pw_i ((12 * k34_6) + mo))) k34_8  (by omega) (by omega) (by omega) (by omega) (by omega) (by omega) (by omega) (by omega) (by omega) (by omega) (by omega) (by omega) (by omega) rfl
                    · intro hc27
                      have hc27 : ¬ (pw_g h1 141 (((12 * k34_6) + mo).toNat) ≠ (1 : Int)) := hc27
                      refine pw_ld E (pc' := 82) (st' := [.ref 141]) rfl (fun _ => rfl) ?_
                      refine pw_ld E (pc' := 84) (st' := [pw_i k34_6, .ref 141]) rfl (fun _ => rfl) ?_
                      refine pw_ld E (pc' := 85) (st' := [pw_i mo, pw_i k34_6, .ref 141]) rfl (fun _ => rfl) ?_
                      obtain ⟨f28l, f28h, -⟩ := pw_obj (c := 125) h1I rfl
                      refine pw_call (m' := 210) (As := [.ref 141, pw_i k34_6, pw_i mo]) (rest := []) (ls'' := [some (.ref 141), some (pw_i k34_6), some (pw_i mo)]) (by omega) E rfl (fun _ => pw_iV rfl rfl rfl rfl (pw_cellI f28h rfl)) (rfl : pm_ent 210 = some (3, 3, 12, 0, pmc_210)) rfl rfl (cm_210_h (by omega) h1I (k34_6) (by omega) (by omega) (mo) (by omega) (by omega)) ?_
                      rintro u30 v29 ⟨rfl, x31, rfl, hx31a, hx31b, hx31r⟩
                      refine ⟨_, rfl, ?_⟩
                      show pw X d h1 301 88 [some (.ref 141), some (pw_i mo), some (pw_i wt), some (pw_i k34_3), some (pw_i k34_4), some (pw_i k34_5), some (pw_i k34_6), some (pw_i ((12 * k34_6) + mo)), k34_8] [pw_i x31] _
                      have hx31r : x31 = 10 * pw_g h1 139 (12 * k34_6 + mo).toNat + pw_g h1 125 15 * pw_g h1 140 (12 * k34_6 + mo).toNat := hx31r
                      refine pw_ld E (pc' := 89) (st' := [.ref 141, pw_i x31]) rfl (fun _ => rfl) ?_
                      refine pw_ld E (pc' := 91) (st' := [pw_i ((12 * k34_6) + mo), .ref 141, pw_i x31]) rfl (fun _ => rfl) ?_
                      obtain ⟨f32l, f32h, -⟩ := pw_obj (c := 125) h1I rfl
                      refine pw_call (m' := 302) (As := [.ref 141, pw_i ((12 * k34_6) + mo)]) (rest := [pw_i x31]) (ls'' := [some (.ref 141), some (pw_i ((12 * k34_6) + mo))]) (by omega) E rfl (fun _ => pw_iV rfl rfl rfl rfl (pw_cellI f32h rfl)) (rfl : pm_ent 302 = some (2, 2, 12, 0, pmc_302)) rfl rfl (cm_302_h (by omega) h1I ((12 * k34_6) + mo) (by omega) (by omega)) ?_
                      rintro u34 v33 ⟨rfl, x35, rfl, hx35a, hx35b, hx35r⟩
                      refine ⟨_, rfl, ?_⟩
                      show pw X d h1 301 94 [some (.ref 141), some (pw_i mo), some (pw_i wt), some (pw_i k34_3), some (pw_i k34_4), some (pw_i k34_5), some (pw_i k34_6), some (pw_i ((12 * k34_6) + mo)), k34_8] [pw_i x35, pw_i x31] _
                      have hx35r : x35 = 10 * pw_g h1 142 ((12 * k34_6) + mo).toNat + pw_g h1 125 15 * pw_g h1 143 ((12 * k34_6) + mo).toNat := hx35r
                      refine pw_sub E (pc' := 95) rfl rfl ?_
                      refine pw_ist E (pc' := 97) (ls' := [some (.ref 141), some (pw_i mo), some (pw_i wt), some (pw_i k34_3), some (pw_i k34_4), some (pw_i k34_5), some (pw_i k34_6), some (pw_i ((12 * k34_6) + mo)), some (pw_i (x31 - x35))]) rfl rfl rfl rfl ?_
                      refine pw_ld E (pc' := 99) (st' := [pw_i (x31 - x35)]) rfl (fun _ => rfl) ?_
                      refine pw_if E (pc' := 108) rfl (by decide) (by omega) (by omega) ?_ ?_
                      · intro hc36
                        have hc36 : (0 : Int) ≤ x31 - x35 := hc36
                        refine pw_ld E (pc' := 110) (st' := [pw_i (x31 - x35)]) rfl (fun _ => rfl) ?_
                        refine pw_ist E (pc' := 112) (ls' := [some (.ref 141), some (pw_i mo), some (pw_i wt), some (pw_i k34_3), some (pw_i k34_4), some (pw_i k34_5), some (pw_i k34_6), some (pw_i ((12 * k34_6) + mo)), some (pw_i (x31 - x35))]) rfl rfl rfl rfl ?_
                        have hab : x31 - x35 = pw_ab (pw_hm (pw_g h 139 (12 * k34_6 + mo).toNat) (pw_g h 140 (12 * k34_6 + mo).toNat) (pw_g h 125 15) - pw_hm (pw_g h 142 (12 * k34_6 + mo).toNat) (pw_g h 143 (12 * k34_6 + mo).toNat) (pw_g h 125 15)) := by
                          have y1 : x31 = pw_hm (pw_g h 139 (12 * k34_6 + mo).toNat) (pw_g h 140 (12 * k34_6 + mo).toNat) (pw_g h 125 15) := by rw [hx31r, ht3, ht2 139 _ (by decide), ht2 140 _ (by decide)]; rfl
                          have y2 : x35 = pw_hm (pw_g h 142 (12 * k34_6 + mo).toNat) (pw_g h 143 (12 * k34_6 + mo).toNat) (pw_g h 125 15) := by rw [hx35r, ht3, ht2 142 _ (by decide), ht2 143 _ (by decide)]; rfl
                          rw [← y1, ← y2]; unfold pw_ab; omega
                        refine pw_inc E (pc' := 115) (ls' := [some (.ref 141), some (pw_i mo), some (pw_i wt), some (pw_i (k34_3 + 1)), some (pw_i k34_4), some (pw_i k34_5), some (pw_i k34_6), some (pw_i ((12 * k34_6) + mo)), some (pw_i (x31 - x35))]) rfl rfl rfl rfl ?_
                        refine pw_ld E (pc' := 117) (st' := [pw_i k34_4]) rfl (fun _ => rfl) ?_
                        refine pw_ld E (pc' := 119) (st' := [pw_i (x31 - x35), pw_i k34_4]) rfl (fun _ => rfl) ?_
                        refine pw_if E (pc' := 126) rfl (by decide) (by omega) (by omega) ?_ ?_
                        · intro hc37
                          have hc37 : x31 - x35 ≤ (0 : Int) := hc37
                          refine pw_ld E (pc' := 127) (st' := [pw_i 0, pw_i k34_4]) rfl (fun _ => rfl) ?_
                          refine pw_add E (pc' := 128) rfl rfl ?_
                          refine pw_ist E (pc' := 130) (ls' := [some (.ref 141), some (pw_i mo), some (pw_i wt), some (pw_i (k34_3 + 1)), some (pw_i (k34_4 + 0)), some (pw_i k34_5), some (pw_i k34_6), some (pw_i ((12 * k34_6) + mo)), some (pw_i (x31 - x35))]) rfl rfl rfl rfl ?_
                          refine pw_ld E (pc' := 132) (st' := [pw_i (x31 - x35)]) rfl (fun _ => rfl) ?_
                          refine pw_ld E (pc' := 134) (st' := [pw_i k34_5, pw_i (x31 - x35)]) rfl (fun _ => rfl) ?_
                          refine pw_if2 E (pc' := 142) rfl (by decide) (by omega) (by omega) (by omega) (by omega) ?_ ?_
                          · intro hc38
                            have hc38 : x31 - x35 ≤ k34_5 := hc38
                            refine pw_ld E (pc' := 144) (st' := [pw_i k34_5]) rfl (fun _ => rfl) ?_
                            refine pw_ist E (pc' := 146) (ls' := [some (.ref 141), some (pw_i mo), some (pw_i wt), some (pw_i (k34_3 + 1)), some (pw_i (k34_4 + 0)), some (pw_i k34_5), some (pw_i k34_6), some (pw_i ((12 * k34_6) + mo)), some (pw_i (x31 - x35))]) rfl rfl rfl rfl ?_
                            refine pw_inc E (pc' := 149) (ls' := [some (.ref 141), some (pw_i mo), some (pw_i wt), some (pw_i (k34_3 + 1)), some (pw_i (k34_4 + 0)), some (pw_i k34_5), some (pw_i (k34_6 + 1)), some (pw_i ((12 * k34_6) + mo)), some (pw_i (x31 - x35))]) rfl rfl rfl rfl ?_
                            refine pw_goto E (pc' := 34) rfl (by decide) ?_
                            exact ih34 _ (by omega) (k34_3 + 1) (k34_4 + 0) (k34_5) (k34_6 + 1) (some (pw_i ((12 * k34_6) + mo))) (some (pw_i (x31 - x35)))  (by omega) (by omega) (by omega) (by omega) (by omega) (by omega) (by omega) (by omega) (by omega) (by omega) (by omega) (by omega) (by omega) rfl
                          · intro hc39
                            have hc39 : ¬ (x31 - x35 ≤ k34_5) := hc39
                            refine pw_ld E (pc' := 139) (st' := [pw_i (x31 - x35)]) rfl (fun _ => rfl) ?_
                            refine pw_goto E (pc' := 144) rfl (by decide) ?_
                            refine pw_ist E (pc' := 146) (ls' := [some (.ref 141), some (pw_i mo), some (pw_i wt), some (pw_i (k34_3 + 1)), some (pw_i (k34_4 + 0)), some (pw_i (x31 - x35)), some (pw_i k34_6), some (pw_i ((12 * k34_6) + mo)), some (pw_i (x31 - x35))]) rfl rfl rfl rfl ?_
                            refine pw_inc E (pc' := 149) (ls' := [some (.ref 141), some (pw_i mo), some (pw_i wt), some (pw_i (k34_3 + 1)), some (pw_i (k34_4 + 0)), some (pw_i (x31 - x35)), some (pw_i (k34_6 + 1)), some (pw_i ((12 * k34_6) + mo)), some (pw_i (x31 - x35))]) rfl rfl rfl rfl ?_
                            refine pw_goto E (pc' := 34) rfl (by decide) ?_
                            exact ih34 _ (by omega) (k34_3 + 1) (k34_4 + 0) (x31 - x35) (k34_6 + 1) (some (pw_i ((12 * k34_6) + mo))) (some (pw_i (x31 - x35)))  (by omega) (by omega) (by omega) (by omega) (by omega) (by omega) (by omega) (by omega) (by omega) (by omega) (by omega) (by omega) (by omega) rfl
                        · intro hc40
                          have hc40 : ¬ (x31 - x35 ≤ (0 : Int)) := hc40
                          refine pw_ld E (pc' := 123) (st' := [pw_i 1, pw_i k34_4]) rfl (fun _ => rfl) ?_
                          refine pw_goto E (pc' := 127) rfl (by decide) ?_
                          refine pw_add E (pc' := 128) rfl rfl ?_
                          refine pw_ist E (pc' := 130) (ls' := [some (.ref 141), some (pw_i mo), some (pw_i wt), some (pw_i (k34_3 + 1)), some (pw_i (k34_4 + 1)), some (pw_i k34_5), some (pw_i k34_6), some (pw_i ((12 * k34_6) + mo)), some (pw_i (x31 - x35))]) rfl rfl rfl rfl ?_
                          refine pw_ld E (pc' := 132) (st' := [pw_i (x31 - x35)]) rfl (fun _ => rfl) ?_
                          refine pw_ld E (pc' := 134) (st' := [pw_i k34_5, pw_i (x31 - x35)]) rfl (fun _ => rfl) ?_
                          refine pw_if2 E (pc' := 142) rfl (by decide) (by omega) (by omega) (by omega) (by omega) ?_ ?_
                          · intro hc41
                            have hc41 : x31 - x35 ≤ k34_5 := hc41
                            refine pw_ld E (pc' := 144) (st' := [pw_i k34_5]) rfl (fun _ => rfl) ?_
                            refine pw_ist E (pc' := 146) (ls' := [some (.ref 141), some (pw_i mo), some (pw_i wt), some (pw_i (k34_3 + 1)), some (pw_i (k34_4 + 1)), some (pw_i k34_5), some (pw_i k34_6), some (pw_i ((12 * k34_6) + mo)), some (pw_i (x31 - x35))]) rfl rfl rfl rfl ?_
                            refine pw_inc E (pc' := 149) (ls' := [some (.ref 141), some (pw_i mo), some (pw_i wt), some (pw_i (k34_3 + 1)), some (pw_i (k34_4 + 1)), some (pw_i k34_5), some (pw_i (k34_6 + 1)), some (pw_i ((12 * k34_6) + mo)), some (pw_i (x31 - x35))]) rfl rfl rfl rfl ?_
                            refine pw_goto E (pc' := 34) rfl (by decide) ?_
                            exact ih34 _ (by omega) (k34_3 + 1) (k34_4 + 1) (k34_5) (k34_6 + 1) (some (pw_i ((12 * k34_6) + mo))) (some (pw_i (x31 - x35)))  (by omega) (by omega) (by omega) (by omega) (by omega) (by omega) (by omega) (by omega) (by omega) (by omega) (by omega) (by omega) (by omega) rfl
                          · intro hc42
                            have hc42 : ¬ (x31 - x35 ≤ k34_5) := hc42
                            refine pw_ld E (pc' := 139) (st' := [pw_i (x31 - x35)]) rfl (fun _ => rfl) ?_
                            refine pw_goto E (pc' := 144) rfl (by decide) ?_
                            refine pw_ist E (pc' := 146) (ls' := [some (.ref 141), some (pw_i mo), some (pw_i wt), some (pw_i (k34_3 + 1)), some (pw_i (k34_4 + 1)), some (pw_i (x31 - x35)), some (pw_i k34_6), some (pw_i ((12 * k34_6) + mo)), some (pw_i (x31 - x35))]) rfl rfl rfl rfl ?_
                            refine pw_inc E (pc' := 149) (ls' := [some (.ref 141), some (pw_i mo), some (pw_i wt), some (pw_i (k34_3 + 1)), some (pw_i (k34_4 + 1)), some (pw_i (x31 - x35)), some (pw_i (k34_6 + 1)), some (pw_i ((12 * k34_6) + mo)), some (pw_i (x31 - x35))]) rfl rfl rfl rfl ?_
                            refine pw_goto E (pc' := 34) rfl (by decide) ?_
                            exact ih34 _ (by omega) (k34_3 + 1) (k34_4 + 1) (x31 - x35) (k34_6 + 1) (some (pw_i ((12 * k34_6) + mo))) (some (pw_i (x31 - x35)))  (by omega) (by omega) (by omega) (by omega) (by omega) (by omega) (by omega) (by omega) (by omega) (by omega) (by omega) (by omega) (by omega) rfl
                      · intro hc43
                        have hc43 : ¬ ((0 : Int) ≤ x31 - x35) := hc43
                        refine pw_ld E (pc' := 104) (st' := [pw_i (x31 - x35)]) rfl (fun _ => rfl) ?_
                        refine pw_ineg E (pc' := 105) rfl rfl ?_
                        refine pw_goto E (pc' := 110) rfl (by decide) ?_
                        refine pw_ist E (pc' := 112) (ls' := [some (.ref 141), some (pw_i mo), some (pw_i wt), some (pw_i k34_3), some (pw_i k34_4), some (pw_i k34_5), some (pw_i k34_6), some (pw_i ((12 * k34_6) + mo)), some (pw_i (-(x31 - x35)))]) rfl rfl rfl rfl ?_
                        have hab : -(x31 - x35) = pw_ab (pw_hm (pw_g h 139 (12 * k34_6 + mo).toNat) (pw_g h 140 (12 * k34_6 + mo).toNat) (pw_g h 125 15) - pw_hm (pw_g h 142 (12 * k34_6 + mo).toNat) (pw_g h 143 (12 * k34_6 + mo).toNat) (pw_g h 125 15)) := by
                          have y1 : x31 = pw_hm (pw_g h 139 (12 * k34_6 + mo).toNat) (pw_g h 140 (12 * k34_6 + mo).toNat) (pw_g h 125 15) := by rw [hx31r, ht3, ht2 139 _ (by decide), ht2 140 _ (by decide)]; rfl
                          have y2 : x35 = pw_hm (pw_g h 142 (12 * k34_6 + mo).toNat) (pw_g h 143 (12 * k34_6 + mo).toNat) (pw_g h 125 15) := by rw [hx35r, ht3, ht2 142 _ (by decide), ht2 143 _ (by decide)]; rfl
                          rw [← y1, ← y2]; unfold pw_ab; omega
                        refine pw_inc E (pc' := 115) (ls' := [some (.ref 141), some (pw_i mo), some (pw_i wt), some (pw_i (k34_3 + 1)), some (pw_i k34_4), some (pw_i k34_5), some (pw_i k34_6), some (pw_i ((12 * k34_6) + mo)), some (pw_i (-(x31 - x35)))]) rfl rfl rfl rfl ?_
                        refine pw_ld E (pc' := 117) (st' := [pw_i k34_4]) rfl (fun _ => rfl) ?_
                        refine pw_ld E (pc' := 119) (st' := [pw_i (-(x31 - x35)), pw_i k34_4]) rfl (fun _ => rfl) ?_
                        refine pw_if E (pc' := 126) rfl (by decide) (by omega) (by omega) ?_ ?_
                        · intro hc44
                          have hc44 : -(x31 - x35) ≤ (0 : Int) := hc44
                          refine pw_ld E (pc' := 127) (st' := [pw_i 0, pw_i k34_4]) rfl (fun _ => rfl) ?_
                          refine pw_add E (pc' := 128) rfl rfl ?_
                          refine pw_ist E (pc' := 130) (ls' := [some (.ref 141), some (pw_i mo), some (pw_i wt), some (pw_i (k34_3 + 1)), some (pw_i (k34_4 + 0)), some (pw_i k34_5), some (pw_i k34_6), some (pw_i ((12 * k34_6) + mo)), some (pw_i (-(x31 - x35)))]) rfl rfl rfl rfl ?_
                          refine pw_ld E (pc' := 132) (st' := [pw_i (-(x31 - x35))]) rfl (fun _ => rfl) ?_
                          refine pw_ld E (pc' := 134) (st' := [pw_i k34_5, pw_i (-(x31 - x35))]) rfl (fun _ => rfl) ?_
                          refine pw_if2 E (pc' := 142) rfl (by decide) (by omega) (by omega) (by omega) (by omega) ?_ ?_
                          · intro hc45
                            have hc45 : -(x31 - x35) ≤ k34_5 := hc45
                            refine pw_ld E (pc' := 144) (st' := [pw_i k34_5]) rfl (fun _ => rfl) ?_
                            refine pw_ist E (pc' := 146) (ls' := [some (.ref 141), some (pw_i mo), some (pw_i wt), some (pw_i (k34_3 + 1)), some (pw_i (k34_4 + 0)), some (pw_i k34_5), some (pw_i k34_6), some (pw_i ((12 * k34_6) + mo)), some (pw_i (-(x31 - x35)))]) rfl rfl rfl rfl ?_
                            refine pw_inc E (pc' := 149) (ls' := [some (.ref 141), some (pw_i mo), some (pw_i wt), some (pw_i (k34_3 + 1)), some (pw_i (k34_4 + 0)), some (pw_i k34_5), some (pw_i (k34_6 + 1)), some (pw_i ((12 * k34_6) + mo)), some (pw_i (-(x31 - x35)))]) rfl rfl rfl rfl ?_
                            refine pw_goto E (pc' := 34) rfl (by decide) ?_
                            exact ih34 _ (by omega) (k34_3 + 1) (k34_4 + 0) (k34_5) (k34_6 + 1) (some (pw_i ((12 * k34_6) + mo))) (some (pw_i (-(x31 - x35))))  (by omega) (by omega) (by omega) (by omega) (by omega) (by omega) (by omega) (by omega) (by omega) (by omega) (by omega) (by omega) (by omega) rfl
                          · intro hc46
                            have hc46 : ¬ (-(x31 - x35) ≤ k34_5) := hc46
                            refine pw_ld E (pc' := 139) (st' := [pw_i (-(x31 - x35))]) rfl (fun _ => rfl) ?_
                            refine pw_goto E (pc' := 144) rfl (by decide) ?_
                            refine pw_ist E (pc' := 146) (ls' := [some (.ref 141), some (pw_i mo), some (pw_i wt), some (pw_i (k34_3 + 1)), some (pw_i (k34_4 + 0)), some (pw_i (-(x31 - x35))), some (pw_i k34_6), some (pw_i ((12 * k34_6) + mo)), some (pw_i (-(x31 - x35)))]) rfl rfl rfl rfl ?_
                            refine pw_inc E (pc' := 149) (ls' := [some (.ref 141), some (pw_i mo), some (pw_i wt), some (pw_i (k34_3 + 1)), some (pw_i (k34_4 + 0)), some (pw_i (-(x31 - x35))), some (pw_i (k34_6 + 1)), some (pw_i ((12 * k34_6) + mo)), some (pw_i (-(x31 - x35)))]) rfl rfl rfl rfl ?_
                            refine pw_goto E (pc' := 34) rfl (by decide) ?_
                            exact ih34 _ (by omega) (k34_3 + 1) (k34_4 + 0) (-(x31 - x35)) (k34_6 + 1) (some (pw_i ((12 * k34_6) + mo))) (some (pw_i (-(x31 - x35))))  (by omega) (by omega) (by omega) (by omega) (by omega) (by omega) (by omega) (by omega) (by omega) (by omega) (by omega) (by omega) (by omega) rfl
                        · intro hc47
                          have hc47 : ¬ (-(x31 - x35) ≤ (0 : Int)) := hc47
                          refine pw_ld E (pc' := 123) (st' := [pw_i 1, pw_i k34_4]) rfl (fun _ => rfl) ?_
                          refine pw_goto E (pc' := 127) rfl (by decide) ?_
                          refine pw_add E (pc' := 128) rfl rfl ?_
                          refine pw_ist E (pc' := 130) (ls' := [some (.ref 141), some (pw_i mo), some (pw_i wt), some (pw_i (k34_3 + 1)), some (pw_i (k34_4 + 1)), some (pw_i k34_5), some (pw_i k34_6), some (pw_i ((12 * k34_6) + mo)), some (pw_i (-(x31 - x35)))]) rfl rfl rfl rfl ?_
                          refine pw_ld E (pc' := 132) (st' := [pw_i (-(x31 - x35))]) rfl (fun _ => rfl) ?_
                          refine pw_ld E (pc' := 134) (st' := [pw_i k34_5, pw_i (-(x31 - x35))]) rfl (fun _ => rfl) ?_
                          refine pw_if2 E (pc' := 142) rfl (by decide) (by omega) (by omega) (by omega) (by omega) ?_ ?_
                          · intro hc48
                            have hc48 : -(x31 - x35) ≤ k34_5 := hc48
                            refine pw_ld E (pc' := 144) (st' := [pw_i k34_5]) rfl (fun _ => rfl) ?_
                            refine pw_ist E (pc' := 146) (ls' := [some (.ref 141), some (pw_i mo), some (pw_i wt), some (pw_i (k34_3 + 1)), some (pw_i (k34_4 + 1)), some (pw_i k34_5), some (pw_i k34_6), some (pw_i ((12 * k34_6) + mo)), some (pw_i (-(x31 - x35)))]) rfl rfl rfl rfl ?_
                            refine pw_inc E (pc' := 149) (ls' := [some (.ref 141), some (pw_i mo), some (pw_i wt), some (pw_i (k34_3 + 1)), some (pw_i (k34_4 + 1)), some (pw_i k34_5), some (pw_i (k34_6 + 1)), some (pw_i ((12 * k34_6) + mo)), some (pw_i (-(x31 - x35)))]) rfl rfl rfl rfl ?_
                            refine pw_goto E (pc' := 34) rfl (by decide) ?_
                            exact ih34 _ (by omega) (k34_3 + 1) (k34_4 + 1) (k34_5) (k34_6 + 1) (some (pw_i ((12 * k34_6) + mo))) (some (pw_i (-(x31 - x35))))  (by omega) (by omega) (by omega) (by omega) (by omega) (by omega) (by omega) (by omega) (by omega) (by omega) (by omega) (by omega) (by omega) rfl
                          · intro hc49
                            have hc49 : ¬ (-(x31 - x35) ≤ k34_5) := hc49
                            refine pw_ld E (pc' := 139) (st' := [pw_i (-(x31 - x35))]) rfl (fun _ => rfl) ?_
                            refine pw_goto E (pc' := 144) rfl (by decide) ?_
                            refine pw_ist E (pc' := 146) (ls' := [some (.ref 141), some (pw_i mo), some (pw_i wt), some (pw_i (k34_3 + 1)), some (pw_i (k34_4 + 1)), some (pw_i (-(x31 - x35))), some (pw_i k34_6), some (pw_i ((12 * k34_6) + mo)), some (pw_i (-(x31 - x35)))]) rfl rfl rfl rfl ?_
                            refine pw_inc E (pc' := 149) (ls' := [some (.ref 141), some (pw_i mo), some (pw_i wt), some (pw_i (k34_3 + 1)), some (pw_i (k34_4 + 1)), some (pw_i (-(x31 - x35))), some (pw_i (k34_6 + 1)), some (pw_i ((12 * k34_6) + mo)), some (pw_i (-(x31 - x35)))]) rfl rfl rfl rfl ?_
                            refine pw_goto E (pc' := 34) rfl (by decide) ?_
                            exact ih34 _ (by omega) (k34_3 + 1) (k34_4 + 1) (-(x31 - x35)) (k34_6 + 1) (some (pw_i ((12 * k34_6) + mo))) (some (pw_i (-(x31 - x35))))  (by omega) (by omega) (by omega) (by omega) (by omega) (by omega) (by omega) (by omega) (by omega) (by omega) (by omega) (by omega) (by omega) rfl
          exact L34 _ (0) (0) (0) (0) (none) (none)  (by omega) (by omega) (by omega) (by omega) (by omega) (by omega) (by omega) (by omega) rfl rfl rfl (by omega) (by omega) rfl
        · intro hc50
          have hc50 : ¬ (x10 ≠ (0 : Int)) := hc50
          exfalso; omega
      · have hb51 : x10 = 0 := by omega
        refine pw_if E (pc' := 23) rfl (by decide) (by omega) (by omega) ?_ ?_
        · intro hc52
          have hc52 : x10 ≠ (0 : Int) := hc52
          exfalso; omega
        · intro hc53
          have hc53 : ¬ (x10 ≠ (0 : Int)) := hc53
          refine pw_ld E (pc' := 22) (st' := [pw_i ((-1))]) rfl (fun _ => rfl) ?_
          refine pw_iret E rfl ?_
          exact ⟨h1I, h1F, ⟨_, rfl, by omega, by omega, Or.inr ⟨by omega, rfl⟩⟩⟩
  · have hb54 : x4 = 0 := by omega
    refine pw_if E (pc' := 21) rfl (by decide) (by omega) (by omega) ?_ ?_
    · intro hc55
      have hc55 : x4 = (0 : Int) := hc55
      refine pw_ld E (pc' := 22) (st' := [pw_i ((-1))]) rfl (fun _ => rfl) ?_
      refine pw_iret E rfl ?_
      exact ⟨h1I, h1F, ⟨_, rfl, by omega, by omega, Or.inr ⟨by omega, rfl⟩⟩⟩
    · intro hc56
      have hc56 : ¬ (x4 = (0 : Int)) := hc56
      exfalso; omega
