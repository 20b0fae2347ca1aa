/-! the greatest common divisor and fractions, exactly (printed by wip/tool/mgcd.py) -/
/-- the greatest common divisor -/
def pw_gd (x y : Int) : Int := (Int.gcd x y : Nat)
theorem pw_gd_0 {x : Int} (h : 0 ≤ x) : pw_gd x 0 = x := by
  unfold pw_gd
  rw [Int.gcd_zero_right]
  omega
theorem pw_gd_st {x y : Int} (h : 0 ≤ x) (hy : 0 ≤ y) : pw_gd y (x % y) = pw_gd x y := by
  obtain ⟨a, rfl⟩ := Int.eq_ofNat_of_zero_le h
  obtain ⟨b, rfl⟩ := Int.eq_ofNat_of_zero_le hy
  show ((Nat.gcd b (((a : Int) % (b : Int)).natAbs) : Nat) : Int) = ((Nat.gcd a b : Nat) : Int)
  rw [← Int.natCast_emod, Int.natAbs_natCast, Nat.gcd_comm b, ← Nat.gcd_rec, Nat.gcd_comm]
theorem pw_gd_pos {x y : Int} (hy : 0 < y) : 1 ≤ pw_gd x y ∧ pw_gd x y ≤ y := by
  unfold pw_gd Int.gcd
  have h1 : 0 < Nat.gcd x.natAbs y.natAbs := Nat.gcd_pos_of_pos_right _ (by omega)
  have h2 : Nat.gcd x.natAbs y.natAbs ≤ y.natAbs := Nat.le_of_dvd (by omega) (Nat.gcd_dvd_right _ _)
  omega
def pw_lab (a : Int) : Int := if 0 < a then a else -a
theorem pw_labB {a A : Int} (h1 : -A ≤ a) (h2 : a ≤ A) : 0 ≤ pw_lab a ∧ pw_lab a ≤ A ∧ (0 ≤ a → pw_lab a = a) ∧ (a ≤ 0 → pw_lab a = -a) := by
  unfold pw_lab
  split <;> omega
theorem pw_gd_ab {x y : Int} : pw_gd (pw_lab x) y = pw_gd x y := by
  unfold pw_gd Int.gcd pw_lab
  split
  · rfl
  · rw [Int.natAbs_neg]
theorem pw_gd_neg {x y : Int} : pw_gd (-x) y = pw_gd x y := by
  unfold pw_gd Int.gcd
  rw [Int.natAbs_neg]
/-- Euclid's way ends within so many steps -/
def pw_eb : Nat → Int → Int → Prop
  | 0, _, y => y = 0
  | n + 1, x, y => y = 0 ∨ pw_eb n y (x % y)
theorem pw_eb_S {n : Nat} {x y : Int} (h : pw_eb (n + 1) x y) (hy : y ≠ 0) : pw_eb n y (x % y) := Or.resolve_left h hy
theorem pw_eb_Z {x y : Int} (h : pw_eb 0 x y) : y = 0 := h
theorem pw_eb_of : ∀ (n : Nat) (x y : Int), 0 ≤ y → y ≤ x → x * y < 2 ^ n → pw_eb n x y := by
  intro n
  induction n with
  | zero =>
    intro x y h0 h1 h2
    show y = 0
    rcases (by omega : y = 0 ∨ 1 ≤ y) with e | e
    · exact e
    · have := Int.mul_le_mul (a := 1) (b := 1) (c := x) (d := y) (by omega) e (by omega) (by omega)
      rw [Int.pow_zero] at h2
      omega
  | succ n ih =>
    intro x y h0 h1 h2
    rcases (by omega : y = 0 ∨ 1 ≤ y) with e | e
    · exact Or.inl e
    · refine Or.inr (ih y (x % y) (Int.emod_nonneg _ (by omega)) (Int.le_of_lt (Int.emod_lt_of_pos _ (by omega))) ?_)
      have r0 := Int.emod_nonneg x (b := y) (by omega)
      have r1 := Int.emod_lt_of_pos x (b := y) (by omega)
      have e1 := Int.mul_ediv_add_emod x y
      generalize x % y = r at r0 r1 e1 ⊢
      generalize hu : y * (x / y) = u at e1
      have q1 : r ≤ u := by
        rcases (by omega : r ≤ u ∨ u < r) with q | q
        · exact q
        · exfalso
          have hq : x / y ≤ 0 := by
            rcases (by omega : x / y ≤ 0 ∨ 1 ≤ x / y) with z | z
            · exact z
            · have := Int.mul_le_mul_of_nonneg_left z h0
              omega
          have := Int.mul_le_mul_of_nonneg_left hq h0
          omega
      have q2 := Int.mul_le_mul_of_nonneg_right q1 h0
      have q3 : x * y = u * y + r * y := by rw [← Int.add_mul, e1]
      rw [Int.pow_succ] at h2
      rw [Int.mul_comm y r]
      omega
theorem pw_eb_100 {x y : Int} (h0 : 0 ≤ x) (h1 : x ≤ 1099511627776) (h2 : 0 ≤ y) (h3 : y ≤ 1099511627776) : pw_eb 100 x y := by
  have k1 : (2 : Int) ^ 100 = 1267650600228229401496703205376 := by decide
  have k2 : (2 : Int) ^ 99 = 633825300114114700748351602688 := by decide
  rcases (by omega : y ≤ x ∨ x < y) with e | e
  · refine pw_eb_of 100 x y h2 e ?_
    have := Int.mul_le_mul h1 h3 h2 (by decide)
    omega
  · refine Or.inr (pw_eb_of 99 y (x % y) (Int.emod_nonneg _ (by omega)) (Int.le_of_lt (Int.emod_lt_of_pos _ (by omega))) ?_)
    have r0 := Int.emod_nonneg x (b := y) (by omega)
    have r1 := Int.emod_lt_of_pos x (b := y) (by omega)
    have := Int.mul_le_mul (a := y) (b := x % y) (c := 1099511627776) (d := 1099511627776) h3 (by omega) r0 (by decide)
    omega
theorem pw_remB {a b : Int} (h : 0 < b) : 0 ≤ a % b ∧ a % b < b := ⟨Int.emod_nonneg _ (by omega), Int.emod_lt_of_pos _ h⟩
theorem pw_tdB {a b A : Int} (h1 : -A ≤ a) (h2 : a ≤ A) (h3 : 0 < b) : -A ≤ Int.tdiv a b ∧ Int.tdiv a b ≤ A ∧ (0 ≤ a → 0 ≤ Int.tdiv a b) := by
  have e : (a.tdiv b).natAbs = a.natAbs / b.natAbs := Int.natAbs_tdiv a b
  have l := Nat.div_le_self a.natAbs b.natAbs
  rw [← e] at l
  clear e
  refine ⟨by omega, by omega, fun h => Int.tdiv_nonneg h (by omega)⟩
theorem pw_mulS {a b A B : Int} (h1 : -A ≤ a) (h2 : a ≤ A) (h3 : 0 ≤ b) (h4 : b ≤ B) : -(A * B) ≤ a * b ∧ a * b ≤ A * B := by
  have l1 := Int.mul_le_mul_of_nonneg_right h1 h3
  have l2 := Int.mul_le_mul_of_nonneg_right h2 h3
  have l3 := Int.mul_le_mul_of_nonneg_left (c := A) h4 (by omega)
  rw [Int.neg_mul] at l1
  omega
theorem pw_mulSr {a b A B : Int} (h1 : 0 ≤ a) (h2 : a ≤ A) (h3 : -B ≤ b) (h4 : b ≤ B) : -(A * B) ≤ a * b ∧ a * b ≤ A * B := by
  have := pw_mulS h3 h4 h1 h2
  rw [Int.mul_comm b a, Int.mul_comm B A] at this
  exact this
theorem pw_gd_sc {g x y : Int} (hg : 0 < g) : pw_gd (g * x) (g * y) = g * pw_gd x y := by
  unfold pw_gd
  rw [Int.gcd_mul_left, Int.natCast_mul, show ((g.natAbs : Nat) : Int) = g by omega]
theorem pw_td_sc {g x y : Int} (hg : 0 < g) : Int.tdiv (g * x) (g * y) = Int.tdiv x y := Int.mul_tdiv_mul_of_pos _ _ hg
/-- the same fraction told by other numbers, in lowest terms -/
theorem pw_lw_sc {g x y : Int} (hg : 0 < g) : Int.tdiv (g * x) (pw_gd (g * x) (g * y)) = Int.tdiv x (pw_gd x y) ∧ Int.tdiv (g * y) (pw_gd (g * x) (g * y)) = Int.tdiv y (pw_gd x y) := by
  rw [pw_gd_sc hg]
  exact ⟨pw_td_sc hg, pw_td_sc hg⟩
/-- what a fraction in lowest terms says of the one that it was made of -/
theorem pw_lw {x y : Int} (hy : 0 < y) : pw_gd x y * Int.tdiv x (pw_gd x y) = x ∧ pw_gd x y * Int.tdiv y (pw_gd x y) = y ∧ 1 ≤ Int.tdiv y (pw_gd x y) := by
  have hp := pw_gd_pos (x := x) hy
  have d1 : pw_gd x y ∣ x := Int.gcd_dvd_left _ _
  have d2 : pw_gd x y ∣ y := Int.gcd_dvd_right _ _
  have e1 := Int.mul_tdiv_cancel' d1
  have e2 := Int.mul_tdiv_cancel' d2
  refine ⟨e1, e2, ?_⟩
  rcases (by omega : 1 ≤ Int.tdiv y (pw_gd x y) ∨ Int.tdiv y (pw_gd x y) ≤ 0) with q | q
  · exact q
  · have := Int.mul_le_mul_of_nonneg_left (c := pw_gd x y) q (by omega)
    omega
theorem pw_mulG {a b A B : Int} (h1 : -A ≤ a) (h2 : a ≤ A) (h3 : -B ≤ b) (h4 : b ≤ B) : -(A * B) ≤ a * b ∧ a * b ≤ A * B := by
  rcases (by omega : 0 ≤ b ∨ 0 ≤ -b) with q | q
  · exact pw_mulS h1 h2 q h4
  · have := pw_mulS (b := -b) (B := B) h1 h2 q (by omega)
    rw [Int.mul_neg] at this
    omega
theorem pw_gd_1 {x : Int} : pw_gd x 1 = 1 := by
  have := pw_gd_pos (x := x) (y := 1) (by decide)
  omega
theorem pw_td_1 {x : Int} : Int.tdiv x (pw_gd x 1) = x := by
  rw [pw_gd_1, Int.tdiv_one]
theorem pw_td_11 {x : Int} : Int.tdiv 1 (pw_gd x 1) = 1 := by
  rw [pw_gd_1, Int.tdiv_one]
section Pg
variable {X : List (Nat × List Value)} {d : Nat} {h : pm_H} {m pc pc' len na nl own rt : Nat} {C : pm_T (Instr × Nat)} {ls : pm_L} {r : List Value} {Q : pm_H → (Option Value ⊕ Unit) → Prop}
theorem pw_lremC {a b : Int} (he : pm_ent m = some (na, nl, own, rt, C)) (hq : pm_get C pc = some (.lrem, len)) (hc : pc + len = pc') (h1 : 0 ≤ a) (h2 : a ≤ 4611686018427387904) (h3 : 0 < b) (h4 : b ≤ 4611686018427387904) (H : pw X d h m pc' ls (.long (Int64.ofInt (a % b)) :: r) Q) : pw X d h m pc ls (.long (Int64.ofInt b) :: .long (Int64.ofInt a) :: r) Q := by
  have n0 := pw_l0 (a := b) (by omega) (by omega) (by omega)
  have e : Int64.ofInt a - Int64.ofInt a / Int64.ofInt b * Int64.ofInt b = Int64.ofInt (a % b) := by
    apply Int64.toInt_inj.mp
    have hb := pw_remB (a := a) h3
    rw [pw_remE n0, pw_lToInt (by omega) (by omega), pw_lToInt (by omega) (by omega), pw_lToInt (by omega) (by omega), Int.tmod_eq_emod_of_nonneg h1]
  rw [← e] at H
  exact pw_ldivA he hq rfl hc n0 H
theorem pw_ldivT {a b : Int} (he : pm_ent m = some (na, nl, own, rt, C)) (hq : pm_get C pc = some (.ldiv, len)) (hc : pc + len = pc') (h1 : -4611686018427387904 ≤ a) (h2 : a ≤ 4611686018427387904) (h3 : 0 < b) (h4 : b ≤ 4611686018427387904) (H : pw X d h m pc' ls (.long (Int64.ofInt (Int.tdiv a b)) :: r) Q) : pw X d h m pc ls (.long (Int64.ofInt b) :: .long (Int64.ofInt a) :: r) Q := by
  have e : Int64.ofInt a / Int64.ofInt b = Int64.ofInt (Int.tdiv a b) := by
    apply Int64.toInt_inj.mp
    have hb := pw_tdB h1 h2 h3
    rw [Int64.toInt_div_of_ne_left _ _ (fun e => by
      have := congrArg Int64.toInt e
      rw [pw_lToInt (by omega) (by omega)] at this
      have m : Int64.minValue.toInt = -9223372036854775808 := by decide
      omega), pw_lToInt (by omega) (by omega), pw_lToInt (by omega) (by omega), pw_lToInt (by omega) (by omega)]
  rw [← e] at H
  exact pw_ldivA he hq rfl hc (pw_l0 (by omega) (by omega) (by omega)) H
theorem pw_labsC {ix : Nat} {a : Int} (he : pm_ent m = some (na, nl, own, rt, C)) (hq : pm_get C pc = some (.invokestatic ix, len)) (hl : pm_get (pm_lnk own) ix = some (12, 4, 0, 0)) (h8 : pm_cat8 (.long (Int64.ofInt a) :: r) = true) (h1 : -4611686018427387904 ≤ a) (h2 : a ≤ 4611686018427387904) (H : pw X d h m (pc + 3) ls (.long (Int64.ofInt (pw_lab a)) :: r) Q) : pw X d h m pc ls (.long (Int64.ofInt a) :: r) Q := by
  refine pw_labs he hq hl h8 ?_
  have e : (if 0 < Int64.ofInt a then Int64.ofInt a else -Int64.ofInt a) = Int64.ofInt (pw_lab a) := by
    unfold pw_lab
    have e0 : (0 : Int64).toInt = 0 := rfl
    by_cases q : 0 < a
    · rw [if_pos q, if_pos (by rw [Int64.lt_iff_toInt_lt, pw_lToInt h1 h2, e0]; exact q)]
    · rw [if_neg q, if_neg (by rw [Int64.lt_iff_toInt_lt, pw_lToInt h1 h2, e0]; exact q), Int64.ofInt_neg]
  rw [e]
  exact H
end Pg

set_option maxHeartbeats 4000000 in
theorem cm_7_g {X : List (Nat × List Value)} {d : Nat} {h : pm_H} (hd : 1 ≤ d) (I : pw_I h) (x : Int) (hx1 : 0 ≤ x) (hx2 : x ≤ 1099511627776) (y : Int) (hy1 : 0 ≤ y) (hy2 : y ≤ 1099511627776) : pw X d h 7 0 [some (.long (Int64.ofInt x)), none, some (.long (Int64.ofInt y)), none, none, none, none, none, none, none, none] [] (fun h' v => h = h' ∧ ∃ a : Int, v = .inl (some (.long (Int64.ofInt a))) ∧ 0 ≤ a ∧ a ≤ 1099511627776 ∧ (a = pw_gd x y)) := by
  have E : pm_ent 7 = some (2, 11, 1, 2, pmc_7) := rfl
  refine pw_ld E (pc' := 1) (st' := [.long (Int64.ofInt x)]) rfl (fun _ => rfl) ?_
  refine pw_lst E (pc' := 3) (ls' := [some (.long (Int64.ofInt x)), none, some (.long (Int64.ofInt y)), none, some (.long (Int64.ofInt x)), none, none, none, none, none, none]) rfl rfl rfl rfl ?_
  refine pw_ld E (pc' := 4) (st' := [.long (Int64.ofInt y)]) rfl (fun _ => rfl) ?_
  refine pw_lst E (pc' := 6) (ls' := [some (.long (Int64.ofInt x)), none, some (.long (Int64.ofInt y)), none, some (.long (Int64.ofInt x)), none, some (.long (Int64.ofInt y)), none, none, none, none]) rfl rfl rfl rfl ?_
  refine pw_ld E (pc' := 7) (st' := [pw_i 0]) rfl (fun _ => rfl) ?_
  refine pw_ist E (pc' := 9) (ls' := [some (.long (Int64.ofInt x)), none, some (.long (Int64.ofInt y)), none, some (.long (Int64.ofInt x)), none, some (.long (Int64.ofInt y)), none, some (pw_i 0), none, none]) rfl rfl rfl rfl ?_
  have L9 : ∀ (n9 : Nat) (k9_4 : Int) (k9_6 : Int) (k9_8 : Int) (k9_9 : Option Value), 0 ≤ k9_4 → k9_4 ≤ 1099511627776 → 0 ≤ k9_6 → k9_6 ≤ 1099511627776 → 0 ≤ k9_8 → k9_8 ≤ 100 → pw_gd k9_4 k9_6 = pw_gd x y → pw_eb (100 - k9_8).toNat k9_4 k9_6 → (100 - k9_8).toNat = n9 → pw X d h 7 9 [some (.long (Int64.ofInt x)), none, some (.long (Int64.ofInt y)), none, some (.long (Int64.ofInt k9_4)), none, some (.long (Int64.ofInt k9_6)), none, some (pw_i k9_8), k9_9, none] [] (fun h' v => h = h' ∧ ∃ a : Int, v = .inl (some (.long (Int64.ofInt a))) ∧ 0 ≤ a ∧ a ≤ 1099511627776 ∧ (a = pw_gd x y)) := by
    intro n9
    induction n9 using Nat.strongRecOn with
    | ind n9 ih9 =>
      intro k9_4 k9_6 k9_8 k9_9 k9_4a k9_4b k9_6a k9_6b k9_8a k9_8b hx9_0 hx9_1 hm9
      refine pw_ld E (pc' := 11) (st' := [pw_i k9_8]) rfl (fun _ => rfl) ?_
      refine pw_bip E (pc' := 13) rfl rfl (by decide) ?_
      refine pw_if2 E (pc' := 44) rfl (by decide) (by omega) (by omega) (by decide) (by decide) ?_ ?_
      · intro hc1
        have hc1 : (100 : Int) ≤ k9_8 := hc1
        have hy0 : k9_6 = 0 := by first | omega | exact pw_eb_Z (by rw [show (0 : Nat) = (100 - k9_8).toNat by omega]; exact hx9_1)
        rw [hy0, pw_gd_0 k9_4a] at hx9_0
        refine pw_ld E (pc' := 46) (st' := [.long (Int64.ofInt k9_4)]) rfl (fun _ => rfl) ?_
        refine pw_lret E rfl ?_
        exact ⟨rfl, ⟨_, rfl, by omega, by omega, by omega⟩⟩
      · intro hc2
        have hc2 : ¬ ((100 : Int) ≤ k9_8) := hc2
        refine pw_ld E (pc' := 18) (st' := [.long (Int64.ofInt k9_6)]) rfl (fun _ => rfl) ?_
        refine pw_ld E (pc' := 19) (st' := [.long (Int64.ofInt 0), .long (Int64.ofInt k9_6)]) rfl (fun _ => rfl) ?_
        refine pw_lcmpC E (pc' := 20) rfl rfl (by omega) (by omega) (by omega) (by omega) (fun c3 hc3 => ?_)
        refine pw_if E (pc' := 44) rfl (by decide) (by omega) (by omega) ?_ ?_
        · intro hc4
          have hc4 : c3 = (0 : Int) := hc4
          have hy0 : k9_6 = 0 := by first | omega | exact pw_eb_Z (by rw [show (0 : Nat) = (100 - k9_8).toNat by omega]; exact hx9_1)
          rw [hy0, pw_gd_0 k9_4a] at hx9_0
          refine pw_ld E (pc' := 46) (st' := [.long (Int64.ofInt k9_4)]) rfl (fun _ => rfl) ?_
          refine pw_lret E rfl ?_
          exact ⟨rfl, ⟨_, rfl, by omega, by omega, by omega⟩⟩
        · intro hc5
          have hc5 : ¬ (c3 = (0 : Int)) := hc5
          refine pw_ld E (pc' := 25) (st' := [.long (Int64.ofInt k9_4)]) rfl (fun _ => rfl) ?_
          refine pw_ld E (pc' := 27) (st' := [.long (Int64.ofInt k9_6), .long (Int64.ofInt k9_4)]) rfl (fun _ => rfl) ?_
          refine pw_lremC E (pc' := 28) rfl rfl (by omega) (by omega) (by omega) (by omega) ?_
          have hd6 := pw_remB (a := k9_4) (b := k9_6) (by omega)
          refine pw_lst E (pc' := 30) (ls' := [some (.long (Int64.ofInt x)), none, some (.long (Int64.ofInt y)), none, some (.long (Int64.ofInt k9_4)), none, some (.long (Int64.ofInt k9_6)), none, some (pw_i k9_8), some (.long (Int64.ofInt (k9_4 % k9_6))), none]) rfl rfl rfl rfl ?_
          refine pw_ld E (pc' := 32) (st' := [.long (Int64.ofInt k9_6)]) rfl (fun _ => rfl) ?_
          refine pw_lst E (pc' := 34) (ls' := [some (.long (Int64.ofInt x)), none, some (.long (Int64.ofInt y)), none, some (.long (Int64.ofInt k9_6)), none, some (.long (Int64.ofInt k9_6)), none, some (pw_i k9_8), some (.long (Int64.ofInt (k9_4 % k9_6))), none]) rfl rfl rfl rfl ?_
          refine pw_ld E (pc' := 36) (st' := [.long (Int64.ofInt (k9_4 % k9_6))]) rfl (fun _ => rfl) ?_
          refine pw_lst E (pc' := 38) (ls' := [some (.long (Int64.ofInt x)), none, some (.long (Int64.ofInt y)), none, some (.long (Int64.ofInt k9_6)), none, some (.long (Int64.ofInt (k9_4 % k9_6))), none, some (pw_i k9_8), some (.long (Int64.ofInt (k9_4 % k9_6))), none]) rfl rfl rfl rfl ?_
          refine pw_inc E (pc' := 41) (ls' := [some (.long (Int64.ofInt x)), none, some (.long (Int64.ofInt y)), none, some (.long (Int64.ofInt k9_6)), none, some (.long (Int64.ofInt (k9_4 % k9_6))), none, some (pw_i (k9_8 + 1)), some (.long (Int64.ofInt (k9_4 % k9_6))), none]) rfl rfl rfl rfl ?_
          refine pw_goto E (pc' := 9) rfl (by decide) ?_
          exact ih9 _ (by omega) (k9_6) (k9_4 % k9_6) (k9_8 + 1) (some (.long (Int64.ofInt (k9_4 % k9_6))))  (by omega) (by omega) (by omega) (by omega) (by omega) (by omega) ((pw_gd_st (by omega) (by omega)).trans hx9_0) (pw_eb_S (by rw [show (100 - (k9_8 + 1)).toNat + 1 = (100 - k9_8).toNat by omega]; exact hx9_1) (by omega)) rfl
  exact L9 _ (x) (y) (0) (none)  (by omega) (by omega) (by omega) (by omega) (by omega) (by omega) rfl (pw_eb_100 (by omega) (by omega) (by omega) (by omega)) rfl
set_option maxHeartbeats 4000000 in
theorem cm_6_22g {X : List (Nat × List Value)} {d : Nat} {h : pm_H} (hd : 2 ≤ d) (I : pw_I h) (x : Int) (hx1 : (-1099511627776) ≤ x) (hx2 : x ≤ 1099511627776) (y : Int) (hy1 : 1 ≤ y) (hy2 : y ≤ 1099511627776) : pw X d h 6 0 [some (.ref 38), some (.long (Int64.ofInt x)), none, some (.long (Int64.ofInt y)), none, none, none] [] (fun h' v => pw_I h' ∧ pw_E [22] h h' ∧ (pw_gm h' 22 0 = Int.tdiv x (pw_gd x y) ∧ pw_gm h' 22 1 = Int.tdiv y (pw_gd x y)) ∧ (v = .inl none)) := by
  have E : pm_ent 6 = some (3, 7, 1, 4, pmc_6) := rfl
  have E0 : pw_E [22] h h := pw_E.rf _ _
  refine pw_ld E (pc' := 1) (st' := [.long (Int64.ofInt x)]) rfl (fun _ => rfl) ?_
  refine pw_labsC E rfl rfl rfl (by omega) (by omega) ?_
  have hd1 := pw_labB (a := x) (A := 1099511627776) (by omega) (by omega)
  refine pw_ld E (pc' := 5) (st' := [.long (Int64.ofInt y), .long (Int64.ofInt (pw_lab x))]) rfl (fun _ => rfl) ?_
  refine pw_call (m' := 7) (As := [.long (Int64.ofInt (pw_lab x)), .long (Int64.ofInt y)]) (rest := []) (ls'' := [some (.long (Int64.ofInt (pw_lab x))), none, some (.long (Int64.ofInt y)), none, none, none, none, none, none, none, none]) (by omega) E rfl (fun _ => pw_iS rfl rfl rfl) (rfl : pm_ent 7 = some (2, 11, 1, 2, pmc_7)) rfl rfl (cm_7_g (by omega) I (pw_lab x) (by omega) (by omega) (y) (by omega) (by omega)) ?_
  rintro u3 v2 ⟨rfl, x4, rfl, hx4a, hx4b, hx4r⟩
  refine ⟨_, rfl, ?_⟩
  show pw X d h 6 8 [some (.ref 38), some (.long (Int64.ofInt x)), none, some (.long (Int64.ofInt y)), none, none, none] [.long (Int64.ofInt x4)] _
  have hx4r : x4 = pw_gd (pw_lab x) y := hx4r
  have hgd : x4 = pw_gd x y := by rw [hx4r]; exact pw_gd_ab
  have hgp := pw_gd_pos (x := x) (y := y) (by omega)
  refine pw_lst E (pc' := 10) (ls' := [some (.ref 38), some (.long (Int64.ofInt x)), none, some (.long (Int64.ofInt y)), none, some (.long (Int64.ofInt x4)), none]) rfl rfl rfl rfl ?_
  refine pw_ld E (pc' := 11) (st' := [.long (Int64.ofInt y)]) rfl (fun _ => rfl) ?_
  refine pw_ld E (pc' := 12) (st' := [.long (Int64.ofInt 0), .long (Int64.ofInt y)]) rfl (fun _ => rfl) ?_
  refine pw_lcmpC E (pc' := 13) rfl rfl (by omega) (by omega) (by omega) (by omega) (fun c5 hc5 => ?_)
  refine pw_if E (pc' := 23) rfl (by decide) (by omega) (by omega) ?_ ?_
  · intro hc6
    have hc6 : c5 ≤ (0 : Int) := hc6
    exfalso; omega
  · intro hc7
    have hc7 : ¬ (c5 ≤ (0 : Int)) := hc7
    refine pw_ld E (pc' := 18) (st' := [.long (Int64.ofInt x4)]) rfl (fun _ => rfl) ?_
    refine pw_ld E (pc' := 19) (st' := [.long (Int64.ofInt 0), .long (Int64.ofInt x4)]) rfl (fun _ => rfl) ?_
    refine pw_lcmpC E (pc' := 20) rfl rfl (by omega) (by omega) (by omega) (by omega) (fun c8 hc8 => ?_)
    refine pw_if E (pc' := 24) rfl (by decide) (by omega) (by omega) ?_ ?_
    · intro hc9
      have hc9 : (0 : Int) < c8 := hc9
      refine pw_ld E (pc' := 25) (st' := [.ref 38]) rfl (fun _ => rfl) ?_
      refine pw_ld E (pc' := 26) (st' := [.long (Int64.ofInt x), .ref 38]) rfl (fun _ => rfl) ?_
      refine pw_ld E (pc' := 28) (st' := [.long (Int64.ofInt x4), .long (Int64.ofInt x), .ref 38]) rfl (fun _ => rfl) ?_
      refine pw_ldivT E (pc' := 29) rfl rfl (by omega) (by omega) (by omega) (by omega) ?_
      have hd10 := pw_tdB (a := x) (b := x4) (A := 1099511627776) (by omega) (by omega) (by omega)
      refine pw_putL I E (c := 22) (k := 0) (pc' := 32) rfl rfl rfl rfl rfl rfl ?_
      intro h11I h11E
      generalize h11w : pw_w h 22 0 (.long (Int64.ofInt (Int.tdiv x x4))) = h11 at h11I h11E ⊢
      have h11F := E0.tr (h11E.wk (W' := [22]) (by first | rfl | simp))
      refine pw_ld E (pc' := 33) (st' := [.ref 38]) rfl (fun _ => rfl) ?_
      refine pw_ld E (pc' := 34) (st' := [.long (Int64.ofInt y), .ref 38]) rfl (fun _ => rfl) ?_
      refine pw_ld E (pc' := 36) (st' := [.long (Int64.ofInt x4), .long (Int64.ofInt y), .ref 38]) rfl (fun _ => rfl) ?_
      refine pw_ldivT E (pc' := 37) rfl rfl (by omega) (by omega) (by omega) (by omega) ?_
      have hd12 := pw_tdB (a := y) (b := x4) (A := 1099511627776) (by omega) (by omega) (by omega)
      refine pw_putL h11I E (c := 22) (k := 1) (pc' := 40) rfl rfl rfl rfl rfl rfl ?_
      intro h13I h13E
      generalize h13w : pw_w h11 22 1 (.long (Int64.ofInt (Int.tdiv y x4))) = h13 at h13I h13E ⊢
      have h13F := h11F.tr (h13E.wk (W' := [22]) (by first | rfl | simp))
      have he14 : pw_gm h13 22 0 = pw_gm h11 22 0 := by rw [← h13w]; exact pw_gm_ne (by omega)
      have he15 : pw_gm h11 22 0 = Int.tdiv x x4 := by rw [← h11w]; exact pw_gm_eq (c := 22) (k := 0) I rfl rfl (by omega) (by omega)
      have he16 : pw_gm h13 22 1 = Int.tdiv y x4 := by rw [← h13w]; exact pw_gm_eq (c := 22) (k := 1) h11I rfl rfl (by omega) (by omega)
      refine pw_vret E rfl ?_
      exact ⟨h13I, h13F, ⟨by rw [← hgd]; omega, by rw [← hgd]; omega⟩, rfl⟩
    · intro hc17
      have hc17 : ¬ ((0 : Int) < c8) := hc17
      exfalso; omega
set_option maxHeartbeats 4000000 in
theorem cm_6_23g {X : List (Nat × List Value)} {d : Nat} {h : pm_H} (hd : 2 ≤ d) (I : pw_I h) (x : Int) (hx1 : (-1099511627776) ≤ x) (hx2 : x ≤ 1099511627776) (y : Int) (hy1 : 1 ≤ y) (hy2 : y ≤ 1099511627776) : pw X d h 6 0 [some (.ref 39), some (.long (Int64.ofInt x)), none, some (.long (Int64.ofInt y)), none, none, none] [] (fun h' v => pw_I h' ∧ pw_E [23] h h' ∧ (pw_gm h' 23 0 = Int.tdiv x (pw_gd x y) ∧ pw_gm h' 23 1 = Int.tdiv y (pw_gd x y)) ∧ (v = .inl none)) := by
  have E : pm_ent 6 = some (3, 7, 1, 4, pmc_6) := rfl
  have E0 : pw_E [23] h h := pw_E.rf _ _
  refine pw_ld E (pc' := 1) (st' := [.long (Int64.ofInt x)]) rfl (fun _ => rfl) ?_
  refine pw_labsC E rfl rfl rfl (by omega) (by omega) ?_
  have hd1 := pw_labB (a := x) (A := 1099511627776) (by omega) (by omega)
  refine pw_ld E (pc' := 5) (st' := [.long (Int64.ofInt y), .long (Int64.ofInt (pw_lab x))]) rfl (fun _ => rfl) ?_
  refine pw_call (m' := 7) (As := [.long (Int64.ofInt (pw_lab x)), .long (Int64.ofInt y)]) (rest := []) (ls'' := [some (.long (Int64.ofInt (pw_lab x))), none, some (.long (Int64.ofInt y)), none, none, none, none, none, none, none, none]) (by omega) E rfl (fun _ => pw_iS rfl rfl rfl) (rfl : pm_ent 7 = some (2, 11, 1, 2, pmc_7)) rfl rfl (cm_7_g (by omega) I (pw_lab x) (by omega) (by omega) (y) (by omega) (by omega)) ?_
  rintro u3 v2 ⟨rfl, x4, rfl, hx4a, hx4b, hx4r⟩
  refine ⟨_, rfl, ?_⟩
  show pw X d h 6 8 [some (.ref 39), some (.long (Int64.ofInt x)), none, some (.long (Int64.ofInt y)), none, none, none] [.long (Int64.ofInt x4)] _
  have hx4r : x4 = pw_gd (pw_lab x) y := hx4r
  have hgd : x4 = pw_gd x y := by rw [hx4r]; exact pw_gd_ab
  have hgp := pw_gd_pos (x := x) (y := y) (by omega)
  refine pw_lst E (pc' := 10) (ls' := [some (.ref 39), some (.long (Int64.ofInt x)), none, some (.long (Int64.ofInt y)), none, some (.long (Int64.ofInt x4)), none]) rfl rfl rfl rfl ?_
  refine pw_ld E (pc' := 11) (st' := [.long (Int64.ofInt y)]) rfl (fun _ => rfl) ?_
  refine pw_ld E (pc' := 12) (st' := [.long (Int64.ofInt 0), .long (Int64.ofInt y)]) rfl (fun _ => rfl) ?_
  refine pw_lcmpC E (pc' := 13) rfl rfl (by omega) (by omega) (by omega) (by omega) (fun c5 hc5 => ?_)
  refine pw_if E (pc' := 23) rfl (by decide) (by omega) (by omega) ?_ ?_
  · intro hc6
    have hc6 : c5 ≤ (0 : Int) := hc6
    exfalso; omega
  · intro hc7
    have hc7 : ¬ (c5 ≤ (0 : Int)) := hc7
    refine pw_ld E (pc' := 18) (st' := [.long (Int64.ofInt x4)]) rfl (fun _ => rfl) ?_
    refine pw_ld E (pc' := 19) (st' := [.long (Int64.ofInt 0), .long (Int64.ofInt x4)]) rfl (fun _ => rfl) ?_
    refine pw_lcmpC E (pc' := 20) rfl rfl (by omega) (by omega) (by omega) (by omega) (fun c8 hc8 => ?_)
    refine pw_if E (pc' := 24) rfl (by decide) (by omega) (by omega) ?_ ?_
    · intro hc9
      have hc9 : (0 : Int) < c8 := hc9
      refine pw_ld E (pc' := 25) (st' := [.ref 39]) rfl (fun _ => rfl) ?_
      refine pw_ld E (pc' := 26) (st' := [.long (Int64.ofInt x), .ref 39]) rfl (fun _ => rfl) ?_
      refine pw_ld E (pc' := 28) (st' := [.long (Int64.ofInt x4), .long (Int64.ofInt x), .ref 39]) rfl (fun _ => rfl) ?_
      refine pw_ldivT E (pc' := 29) rfl rfl (by omega) (by omega) (by omega) (by omega) ?_
      have hd10 := pw_tdB (a := x) (b := x4) (A := 1099511627776) (by omega) (by omega) (by omega)
      refine pw_putL I E (c := 23) (k := 0) (pc' := 32) rfl rfl rfl rfl rfl rfl ?_
      intro h11I h11E
      generalize h11w : pw_w h 23 0 (.long (Int64.ofInt (Int.tdiv x x4))) = h11 at h11I h11E ⊢
      have h11F := E0.tr (h11E.wk (W' := [23]) (by first | rfl | simp))
      refine pw_ld E (pc' := 33) (st' := [.ref 39]) rfl (fun _ => rfl) ?_
      refine pw_ld E (pc' := 34) (st' := [.long (Int64.ofInt y), .ref 39]) rfl (fun _ => rfl) ?_
      refine pw_ld E (pc' := 36) (st' := [.long (Int64.ofInt x4), .long (Int64.ofInt y), .ref 39]) rfl (fun _ => rfl) ?_
      refine pw_ldivT E (pc' := 37) rfl rfl (by omega) (by omega) (by omega) (by omega) ?_
      have hd12 := pw_tdB (a := y) (b := x4) (A := 1099511627776) (by omega) (by omega) (by omega)
      refine pw_putL h11I E (c := 23) (k := 1) (pc' := 40) rfl rfl rfl rfl rfl rfl ?_
      intro h13I h13E
      generalize h13w : pw_w h11 23 1 (.long (Int64.ofInt (Int.tdiv y x4))) = h13 at h13I h13E ⊢
      have h13F := h11F.tr (h13E.wk (W' := [23]) (by first | rfl | simp))
      have he14 : pw_gm h13 23 0 = pw_gm h11 23 0 := by rw [← h13w]; exact pw_gm_ne (by omega)
      have he15 : pw_gm h11 23 0 = Int.tdiv x x4 := by rw [← h11w]; exact pw_gm_eq (c := 23) (k := 0) I rfl rfl (by omega) (by omega)
      have he16 : pw_gm h13 23 1 = Int.tdiv y x4 := by rw [← h13w]; exact pw_gm_eq (c := 23) (k := 1) h11I rfl rfl (by omega) (by omega)
      refine pw_vret E rfl ?_
      exact ⟨h13I, h13F, ⟨by rw [← hgd]; omega, by rw [← hgd]; omega⟩, rfl⟩
    · intro hc17
      have hc17 : ¬ ((0 : Int) < c8) := hc17
      exfalso; omega
set_option maxHeartbeats 4000000 in
theorem cm_9_22g {X : List (Nat × List Value)} {d : Nat} {h : pm_H} (hd : 1 ≤ d) (I : pw_I h) (n : Int) (hn1 : (-2147483648) ≤ n) (hn2 : n ≤ 2147483647) (hp0 : (-1099511627776) ≤ pw_gm h 22 0) (hp1 : pw_gm h 22 0 ≤ 1099511627776) (hp2 : (-1099511627776) ≤ pw_gm h 22 1) (hp3 : pw_gm h 22 1 ≤ 1099511627776) : pw X d h 9 0 [some (.ref 38), some (pw_i n)] [] (fun h' v => h = h' ∧ ∃ a : Int, v = .inl (some (.long (Int64.ofInt a))) ∧ (-1099511627776) ≤ a ∧ a ≤ 1099511627776 ∧ ((n = 0 → a = pw_gm h 22 0) ∧ (n ≠ 0 → a = pw_gm h 22 1))) := by
  have E : pm_ent 9 = some (2, 2, 1, 2, pmc_9) := rfl
  refine pw_ld E (pc' := 1) (st' := [pw_i n]) rfl (fun _ => rfl) ?_
  refine pw_if E (pc' := 11) rfl (by decide) (by omega) (by omega) ?_ ?_
  · intro hc1
    have hc1 : n ≠ (0 : Int) := hc1
    refine pw_ld E (pc' := 12) (st' := [.ref 38]) rfl (fun _ => rfl) ?_
    refine pw_getLM I E (c := 22) (k := 1) (pc' := 15) rfl rfl rfl rfl rfl rfl ?_
    refine pw_lret E rfl ?_
    exact ⟨rfl, ⟨_, rfl, by omega, by omega, ⟨fun _ => by omega, fun _ => by omega⟩⟩⟩
  · intro hc2
    have hc2 : ¬ (n ≠ (0 : Int)) := hc2
    refine pw_ld E (pc' := 5) (st' := [.ref 38]) rfl (fun _ => rfl) ?_
    refine pw_getLM I E (c := 22) (k := 0) (pc' := 8) rfl rfl rfl rfl rfl rfl ?_
    refine pw_goto E (pc' := 15) rfl (by decide) ?_
    refine pw_lret E rfl ?_
    exact ⟨rfl, ⟨_, rfl, by omega, by omega, ⟨fun _ => by omega, fun _ => by omega⟩⟩⟩
set_option maxHeartbeats 4000000 in
theorem cm_9_23g {X : List (Nat × List Value)} {d : Nat} {h : pm_H} (hd : 1 ≤ d) (I : pw_I h) (n : Int) (hn1 : (-2147483648) ≤ n) (hn2 : n ≤ 2147483647) (hp0 : (-1099511627776) ≤ pw_gm h 23 0) (hp1 : pw_gm h 23 0 ≤ 1099511627776) (hp2 : (-1099511627776) ≤ pw_gm h 23 1) (hp3 : pw_gm h 23 1 ≤ 1099511627776) : pw X d h 9 0 [some (.ref 39), some (pw_i n)] [] (fun h' v => h = h' ∧ ∃ a : Int, v = .inl (some (.long (Int64.ofInt a))) ∧ (-1099511627776) ≤ a ∧ a ≤ 1099511627776 ∧ ((n = 0 → a = pw_gm h 23 0) ∧ (n ≠ 0 → a = pw_gm h 23 1))) := by
  have E : pm_ent 9 = some (2, 2, 1, 2, pmc_9) := rfl
  refine pw_ld E (pc' := 1) (st' := [pw_i n]) rfl (fun _ => rfl) ?_
  refine pw_if E (pc' := 11) rfl (by decide) (by omega) (by omega) ?_ ?_
  · intro hc1
    have hc1 : n ≠ (0 : Int) := hc1
    refine pw_ld E (pc' := 12) (st' := [.ref 39]) rfl (fun _ => rfl) ?_
    refine pw_getLM I E (c := 23) (k := 1) (pc' := 15) rfl rfl rfl rfl rfl rfl ?_
    refine pw_lret E rfl ?_
    exact ⟨rfl, ⟨_, rfl, by omega, by omega, ⟨fun _ => by omega, fun _ => by omega⟩⟩⟩
  · intro hc2
    have hc2 : ¬ (n ≠ (0 : Int)) := hc2
    refine pw_ld E (pc' := 5) (st' := [.ref 39]) rfl (fun _ => rfl) ?_
    refine pw_getLM I E (c := 23) (k := 0) (pc' := 8) rfl rfl rfl rfl rfl rfl ?_
    refine pw_goto E (pc' := 15) rfl (by decide) ?_
    refine pw_lret E rfl ?_
    exact ⟨rfl, ⟨_, rfl, by omega, by omega, ⟨fun _ => by omega, fun _ => by omega⟩⟩⟩
set_option maxHeartbeats 4000000 in
theorem cm_223_g {X : List (Nat × List Value)} {d : Nat} {h : pm_H} (hd : 1 ≤ d) (I : pw_I h) (p : Int) (hp1 : (-1099511627776) ≤ p) (hp2 : p ≤ 1099511627776) (q : Int) (hq1 : 1 ≤ q) (hq2 : q ≤ 1099511627776) : pw X d h 223 0 [some (.long (Int64.ofInt p)), none, some (.long (Int64.ofInt q)), none, none, none, none, none, none, none] [] (fun h' v => h = h' ∧ ∃ a : Int, v = .inl (some (.long (Int64.ofInt a))) ∧ 1 ≤ a ∧ a ≤ 1099511627776 ∧ (a = pw_gd p q)) := by
  have E : pm_ent 223 = some (2, 10, 12, 2, pmc_223) := rfl
  refine pw_ld E (pc' := 1) (st' := [.long (Int64.ofInt p)]) rfl (fun _ => rfl) ?_
  refine pw_ld E (pc' := 2) (st' := [.long (Int64.ofInt 0), .long (Int64.ofInt p)]) rfl (fun _ => rfl) ?_
  refine pw_lcmpC E (pc' := 3) rfl rfl (by omega) (by omega) (by omega) (by omega) (fun c1 hc1 => ?_)
  refine pw_if E (pc' := 11) rfl (by decide) (by omega) (by omega) ?_ ?_
  · intro hc2
    have hc2 : (0 : Int) ≤ c1 := hc2
    refine pw_ld E (pc' := 12) (st' := [.long (Int64.ofInt p)]) rfl (fun _ => rfl) ?_
    refine pw_lst E (pc' := 14) (ls' := [some (.long (Int64.ofInt p)), none, some (.long (Int64.ofInt q)), none, some (.long (Int64.ofInt p)), none, none, none, none, none]) rfl rfl rfl rfl ?_
    refine pw_ld E (pc' := 15) (st' := [.long (Int64.ofInt q)]) rfl (fun _ => rfl) ?_
    refine pw_ld E (pc' := 16) (st' := [.long (Int64.ofInt 0), .long (Int64.ofInt q)]) rfl (fun _ => rfl) ?_
    refine pw_lcmpC E (pc' := 17) rfl rfl (by omega) (by omega) (by omega) (by omega) (fun c3 hc3 => ?_)
    refine pw_if E (pc' := 25) rfl (by decide) (by omega) (by omega) ?_ ?_
    · intro hc4
      have hc4 : (0 : Int) ≤ c3 := hc4
      refine pw_ld E (pc' := 26) (st' := [.long (Int64.ofInt q)]) rfl (fun _ => rfl) ?_
      refine pw_lst E (pc' := 28) (ls' := [some (.long (Int64.ofInt p)), none, some (.long (Int64.ofInt q)), none, some (.long (Int64.ofInt p)), none, some (.long (Int64.ofInt q)), none, none, none]) rfl rfl rfl rfl ?_
      have L28 : ∀ (n28 : Nat) (k28_4 : Int) (k28_6 : Int) (k28_8 : Option Value), 0 ≤ k28_4 → k28_4 ≤ 1099511627776 → 0 ≤ k28_6 → k28_6 ≤ 1099511627776 → pw_gd k28_4 k28_6 = pw_gd p q → 1 ≤ k28_4 + k28_6 → (k28_6).toNat = n28 → pw X d h 223 28 [some (.long (Int64.ofInt p)), none, some (.long (Int64.ofInt q)), none, some (.long (Int64.ofInt k28_4)), none, some (.long (Int64.ofInt k28_6)), none, k28_8, none] [] (fun h' v => h = h' ∧ ∃ a : Int, v = .inl (some (.long (Int64.ofInt a))) ∧ 1 ≤ a ∧ a ≤ 1099511627776 ∧ (a = pw_gd p q)) := by
        intro n28
        induction n28 using Nat.strongRecOn with
        | ind n28 ih28 =>
          intro k28_4 k28_6 k28_8 k28_4a k28_4b k28_6a k28_6b hx28_0 hx28_1 hm28
          refine pw_ld E (pc' := 30) (st' := [.long (Int64.ofInt k28_6)]) rfl (fun _ => rfl) ?_
          refine pw_ld E (pc' := 31) (st' := [.long (Int64.ofInt 0), .long (Int64.ofInt k28_6)]) rfl (fun _ => rfl) ?_
          refine pw_lcmpC E (pc' := 32) rfl rfl (by omega) (by omega) (by omega) (by omega) (fun c5 hc5 => ?_)
          refine pw_if E (pc' := 53) rfl (by decide) (by omega) (by omega) ?_ ?_
          · intro hc6
            have hc6 : c5 = (0 : Int) := hc6
            have hy0 : k28_6 = 0 := by omega
            rw [hy0, pw_gd_0 k28_4a] at hx28_0
            refine pw_ld E (pc' := 55) (st' := [.long (Int64.ofInt k28_4)]) rfl (fun _ => rfl) ?_
            refine pw_lret E rfl ?_
            exact ⟨rfl, ⟨_, rfl, by omega, by omega, by omega⟩⟩
          · intro hc7
            have hc7 : ¬ (c5 = (0 : Int)) := hc7
            refine pw_ld E (pc' := 37) (st' := [.long (Int64.ofInt k28_4)]) rfl (fun _ => rfl) ?_
            refine pw_ld E (pc' := 39) (st' := [.long (Int64.ofInt k28_6), .long (Int64.ofInt k28_4)]) rfl (fun _ => rfl) ?_
            refine pw_lremC E (pc' := 40) rfl rfl (by omega) (by omega) (by omega) (by omega) ?_
            have hd8 := pw_remB (a := k28_4) (b := k28_6) (by omega)
            refine pw_lst E (pc' := 42) (ls' := [some (.long (Int64.ofInt p)), none, some (.long (Int64.ofInt q)), none, some (.long (Int64.ofInt k28_4)), none, some (.long (Int64.ofInt k28_6)), none, some (.long (Int64.ofInt (k28_4 % k28_6))), none]) rfl rfl rfl rfl ?_
            refine pw_ld E (pc' := 44) (st' := [.long (Int64.ofInt k28_6)]) rfl (fun _ => rfl) ?_
            refine pw_lst E (pc' := 46) (ls' := [some (.long (Int64.ofInt p)), none, some (.long (Int64.ofInt q)), none, some (.long (Int64.ofInt k28_6)), none, some (.long (Int64.ofInt k28_6)), none, some (.long (Int64.ofInt (k28_4 % k28_6))), none]) rfl rfl rfl rfl ?_
            refine pw_ld E (pc' := 48) (st' := [.long (Int64.ofInt (k28_4 % k28_6))]) rfl (fun _ => rfl) ?_
            refine pw_lst E (pc' := 50) (ls' := [some (.long (Int64.ofInt p)), none, some (.long (Int64.ofInt q)), none, some (.long (Int64.ofInt k28_6)), none, some (.long (Int64.ofInt (k28_4 % k28_6))), none, some (.long (Int64.ofInt (k28_4 % k28_6))), none]) rfl rfl rfl rfl ?_
            refine pw_goto E (pc' := 28) rfl (by decide) ?_
            exact ih28 _ (by omega) (k28_6) (k28_4 % k28_6) (some (.long (Int64.ofInt (k28_4 % k28_6))))  (by omega) (by omega) (by omega) (by omega) ((pw_gd_st (by omega) (by omega)).trans hx28_0) (by omega) rfl
      exact L28 _ (p) (q) (none)  (by omega) (by omega) (by omega) (by omega) (by first | rfl | exact pw_gd_neg) (by omega) rfl
    · intro hc9
      have hc9 : ¬ ((0 : Int) ≤ c3) := hc9
      exfalso; omega
  · intro hc10
    have hc10 : ¬ ((0 : Int) ≤ c1) := hc10
    refine pw_ld E (pc' := 7) (st' := [.long (Int64.ofInt p)]) rfl (fun _ => rfl) ?_
    refine pw_lnegC E (pc' := 8) rfl rfl ?_
    refine pw_goto E (pc' := 12) rfl (by decide) ?_
    refine pw_lst E (pc' := 14) (ls' := [some (.long (Int64.ofInt p)), none, some (.long (Int64.ofInt q)), none, some (.long (Int64.ofInt (-p))), none, none, none, none, none]) rfl rfl rfl rfl ?_
    refine pw_ld E (pc' := 15) (st' := [.long (Int64.ofInt q)]) rfl (fun _ => rfl) ?_
    refine pw_ld E (pc' := 16) (st' := [.long (Int64.ofInt 0), .long (Int64.ofInt q)]) rfl (fun _ => rfl) ?_
    refine pw_lcmpC E (pc' := 17) rfl rfl (by omega) (by omega) (by omega) (by omega) (fun c11 hc11 => ?_)
    refine pw_if E (pc' := 25) rfl (by decide) (by omega) (by omega) ?_ ?_
    · intro hc12
      have hc12 : (0 : Int) ≤ c11 := hc12
      refine pw_ld E (pc' := 26) (st' := [.long (Int64.ofInt q)]) rfl (fun _ => rfl) ?_
      refine pw_lst E (pc' := 28) (ls' := [some (.long (Int64.ofInt p)), none, some (.long (Int64.ofInt q)), none, some (.long (Int64.ofInt (-p))), none, some (.long (Int64.ofInt q)), none, none, none]) rfl rfl rfl rfl ?_
      have L28 : ∀ (n28 : Nat) (k28_4 : Int) (k28_6 : Int) (k28_8 : Option Value), 0 ≤ k28_4 → k28_4 ≤ 1099511627776 → 0 ≤ k28_6 → k28_6 ≤ 1099511627776 → pw_gd k28_4 k28_6 = pw_gd p q → 1 ≤ k28_4 + k28_6 → (k28_6).toNat = n28 → pw X d h 223 28 [some (.long (Int64.ofInt p)), none, some (.long (Int64.ofInt q)), none, some (.long (Int64.ofInt k28_4)), none, some (.long (Int64.ofInt k28_6)), none, k28_8, none] [] (fun h' v => h = h' ∧ ∃ a : Int, v = .inl (some (.long (Int64.ofInt a))) ∧ 1 ≤ a ∧ a ≤ 1099511627776 ∧ (a = pw_gd p q)) := by
        intro n28
        induction n28 using Nat.strongRecOn with
        | ind n28 ih28 =>
          intro k28_4 k28_6 k28_8 k28_4a k28_4b k28_6a k28_6b hx28_0 hx28_1 hm28
          refine pw_ld E (pc' := 30) (st' := [.long (Int64.ofInt k28_6)]) rfl (fun _ => rfl) ?_
          refine pw_ld E (pc' := 31) (st' := [.long (Int64.ofInt 0), .long (Int64.ofInt k28_6)]) rfl (fun _ => rfl) ?_
          refine pw_lcmpC E (pc' := 32) rfl rfl (by omega) (by omega) (by omega) (by omega) (fun c13 hc13 => ?_)
          refine pw_if E (pc' := 53) rfl (by decide) (by omega) (by omega) ?_ ?_
          · intro hc14
            have hc14 : c13 = (0 : Int) := hc14
            have hy0 : k28_6 = 0 := by omega
            rw [hy0, pw_gd_0 k28_4a] at hx28_0
            refine pw_ld E (pc' := 55) (st' := [.long (Int64.ofInt k28_4)]) rfl (fun _ => rfl) ?_
            refine pw_lret E rfl ?_
            exact ⟨rfl, ⟨_, rfl, by omega, by omega, by omega⟩⟩
          · intro hc15
            have hc15 : ¬ (c13 = (0 : Int)) := hc15
            refine pw_ld E (pc' := 37) (st' := [.long (Int64.ofInt k28_4)]) rfl (fun _ => rfl) ?_
            refine pw_ld E (pc' := 39) (st' := [.long (Int64.ofInt k28_6), .long (Int64.ofInt k28_4)]) rfl (fun _ => rfl) ?_
            refine pw_lremC E (pc' := 40) rfl rfl (by omega) (by omega) (by omega) (by omega) ?_
            have hd16 := pw_remB (a := k28_4) (b := k28_6) (by omega)
            refine pw_lst E (pc' := 42) (ls' := [some (.long (Int64.ofInt p)), none, some (.long (Int64.ofInt q)), none, some (.long (Int64.ofInt k28_4)), none, some (.long (Int64.ofInt k28_6)), none, some (.long (Int64.ofInt (k28_4 % k28_6))), none]) rfl rfl rfl rfl ?_
            refine pw_ld E (pc' := 44) (st' := [.long (Int64.ofInt k28_6)]) rfl (fun _ => rfl) ?_
            refine pw_lst E (pc' := 46) (ls' := [some (.long (Int64.ofInt p)), none, some (.long (Int64.ofInt q)), none, some (.long (Int64.ofInt k28_6)), none, some (.long (Int64.ofInt k28_6)), none, some (.long (Int64.ofInt (k28_4 % k28_6))), none]) rfl rfl rfl rfl ?_
            refine pw_ld E (pc' := 48) (st' := [.long (Int64.ofInt (k28_4 % k28_6))]) rfl (fun _ => rfl) ?_
            refine pw_lst E (pc' := 50) (ls' := [some (.long (Int64.ofInt p)), none, some (.long (Int64.ofInt q)), none, some (.long (Int64.ofInt k28_6)), none, some (.long (Int64.ofInt (k28_4 % k28_6))), none, some (.long (Int64.ofInt (k28_4 % k28_6))), none]) rfl rfl rfl rfl ?_
            refine pw_goto E (pc' := 28) rfl (by decide) ?_
            exact ih28 _ (by omega) (k28_6) (k28_4 % k28_6) (some (.long (Int64.ofInt (k28_4 % k28_6))))  (by omega) (by omega) (by omega) (by omega) ((pw_gd_st (by omega) (by omega)).trans hx28_0) (by omega) rfl
      exact L28 _ (-p) (q) (none)  (by omega) (by omega) (by omega) (by omega) (by first | rfl | exact pw_gd_neg) (by omega) rfl
    · intro hc17
      have hc17 : ¬ ((0 : Int) ≤ c11) := hc17
      exfalso; omega
set_option maxHeartbeats 4000000 in
theorem cm_222_g {X : List (Nat × List Value)} {d : Nat} {h : pm_H} (hd : 2 ≤ d) (I : pw_I h) (wt : Int) (hwt1 : (-2147483648) ≤ wt) (hwt2 : wt ≤ 2147483647) (hp0 : (-1099511627776) ≤ pw_gm h 125 24) (hp1 : pw_gm h 125 24 ≤ 1099511627776) (hp2 : 1 ≤ pw_gm h 125 25) (hp3 : pw_gm h 125 25 ≤ 1099511627776) : pw X d h 222 0 [some (.ref 141), some (pw_i wt), none, none] [] (fun h' v => h = h' ∧ ∃ a : Int, v = .inl (some (.long (Int64.ofInt a))) ∧ (-1099511627776) ≤ a ∧ a ≤ 1099511627776 ∧ ((wt = 0 → a = Int.tdiv (pw_gm h 125 24) (pw_gd (pw_gm h 125 24) (pw_gm h 125 25))) ∧ (wt ≠ 0 → a = Int.tdiv (pw_gm h 125 25) (pw_gd (pw_gm h 125 24) (pw_gm h 125 25))))) := by
  have E : pm_ent 222 = some (2, 4, 12, 2, pmc_222) := rfl
  refine pw_ld E (pc' := 1) (st' := [.ref 141]) rfl (fun _ => rfl) ?_
  refine pw_getLM I E (c := 125) (k := 24) (pc' := 4) rfl rfl rfl rfl rfl rfl ?_
  refine pw_ld E (pc' := 5) (st' := [.ref 141, .long (Int64.ofInt (pw_gm h 125 24))]) rfl (fun _ => rfl) ?_
  refine pw_getM I E (c := 125) (k := 25) (pc' := 8) rfl rfl rfl rfl rfl rfl (fun hf1a hf1b => ?_)
  refine pw_call (m' := 223) (As := [.long (Int64.ofInt (pw_gm h 125 24)), .long (Int64.ofInt (pw_gm h 125 25))]) (rest := []) (ls'' := [some (.long (Int64.ofInt (pw_gm h 125 24))), none, some (.long (Int64.ofInt (pw_gm h 125 25))), none, none, none, none, none, none, none]) (by omega) E rfl (fun _ => pw_iS rfl rfl rfl) (rfl : pm_ent 223 = some (2, 10, 12, 2, pmc_223)) rfl rfl (cm_223_g (by omega) I (pw_gm h 125 24) (by omega) (by omega) (pw_gm h 125 25) (by omega) (by omega)) ?_
  rintro u3 v2 ⟨rfl, x4, rfl, hx4a, hx4b, hx4r⟩
  refine ⟨_, rfl, ?_⟩
  show pw X d h 222 11 [some (.ref 141), some (pw_i wt), none, none] [.long (Int64.ofInt x4)] _
  have hx4r : x4 = pw_gd (pw_gm h 125 24) (pw_gm h 125 25) := hx4r
  refine pw_lstn E (pc' := 12) (ls' := [some (.ref 141), some (pw_i wt), some (.long (Int64.ofInt x4)), none]) rfl rfl rfl rfl ?_
  refine pw_ld E (pc' := 13) (st' := [pw_i wt]) rfl (fun _ => rfl) ?_
  refine pw_if E (pc' := 25) rfl (by decide) (by omega) (by omega) ?_ ?_
  · intro hc5
    have hc5 : wt ≠ (0 : Int) := hc5
    refine pw_ld E (pc' := 26) (st' := [.ref 141]) rfl (fun _ => rfl) ?_
    refine pw_getM I E (c := 125) (k := 25) (pc' := 29) rfl rfl rfl rfl rfl rfl (fun hf6a hf6b => ?_)
    refine pw_ld E (pc' := 30) (st' := [.long (Int64.ofInt x4), .long (Int64.ofInt (pw_gm h 125 25))]) rfl (fun _ => rfl) ?_
    refine pw_ldivT E (pc' := 31) rfl rfl (by omega) (by omega) (by omega) (by omega) ?_
    have hd7 := pw_tdB (a := pw_gm h 125 25) (b := x4) (A := 1099511627776) (by omega) (by omega) (by omega)
    refine pw_lret E rfl ?_
    exact ⟨rfl, ⟨_, rfl, by omega, by omega, by rw [← hx4r]; exact ⟨fun _ => by first | rfl | (exfalso; omega), fun _ => by first | rfl | (exfalso; omega)⟩⟩⟩
  · intro hc8
    have hc8 : ¬ (wt ≠ (0 : Int)) := hc8
    refine pw_ld E (pc' := 17) (st' := [.ref 141]) rfl (fun _ => rfl) ?_
    refine pw_getLM I E (c := 125) (k := 24) (pc' := 20) rfl rfl rfl rfl rfl rfl ?_
    refine pw_ld E (pc' := 21) (st' := [.long (Int64.ofInt x4), .long (Int64.ofInt (pw_gm h 125 24))]) rfl (fun _ => rfl) ?_
    refine pw_ldivT E (pc' := 22) rfl rfl (by omega) (by omega) (by omega) (by omega) ?_
    have hd9 := pw_tdB (a := pw_gm h 125 24) (b := x4) (A := 1099511627776) (by omega) (by omega) (by omega)
    refine pw_goto E (pc' := 31) rfl (by decide) ?_
    refine pw_lret E rfl ?_
    exact ⟨rfl, ⟨_, rfl, by omega, by omega, by rw [← hx4r]; exact ⟨fun _ => by first | rfl | (exfalso; omega), fun _ => by first | rfl | (exfalso; omega)⟩⟩⟩
