/-! the model (printed by wip/tool/mall.py) -/
/-! exact bits, exact counts of kitchens -/
def pw_sr (a b : Int) : Int := (Int32.ofInt a >>> (Int32.ofInt b &&& 31)).toInt
def pw_an (a b : Int) : Int := (Int32.ofInt a &&& Int32.ofInt b).toInt
def pw_p2 (a : Int) : Int := ((2 ^ a.toNat : Nat) : Int)
def pw_bt (s : Int) : Nat → Int
  | 0 => 0
  | k + 1 => pw_bt s k + pw_an (pw_sr s k) 1
theorem pw_i32r (x : Int32) : -2147483648 ≤ x.toInt ∧ x.toInt ≤ 2147483647 := by
  have h1 := x.le_toInt
  have h2 := x.toInt_lt
  constructor <;> omega
theorem pw_sr_r (a b : Int) : -2147483648 ≤ pw_sr a b ∧ pw_sr a b ≤ 2147483647 := pw_i32r _
theorem pw_and1 (x : Int32) : 0 ≤ (x &&& 1).toInt ∧ (x &&& 1).toInt ≤ 1 := by
  obtain ⟨j, hj, e⟩ := pk_andE x (m := 1) 1 rfl
  rw [e]
  rcases (by omega : j = 0 ∨ j = 1) with rfl | rfl <;> decide
theorem pw_an_r (a : Int) : 0 ≤ pw_an a 1 ∧ pw_an a 1 ≤ 1 := pw_and1 _
theorem pw_p2_r {a : Int} (h1 : 0 ≤ a) (h2 : a ≤ 14) : 1 ≤ pw_p2 a ∧ pw_p2 a ≤ 16384 := by
  unfold pw_p2
  have hp : (2 : Nat) ^ a.toNat ≤ 2 ^ 14 := Nat.pow_le_pow_right (by decide) (by omega)
  have hp1 : 1 ≤ (2 : Nat) ^ a.toNat := Nat.one_le_two_pow
  have : (2 : Nat) ^ 14 = 16384 := by decide
  omega
theorem pw_p2_le {a b : Int} (h2 : a ≤ b) : pw_p2 a ≤ pw_p2 b := by
  unfold pw_p2
  have hp : (2 : Nat) ^ a.toNat ≤ 2 ^ b.toNat := Nat.pow_le_pow_right (by decide) (by omega)
  omega
theorem pw_btS {s k : Int} (h : 0 ≤ k) : pw_bt s (k + 1).toNat = pw_bt s k.toNat + pw_an (pw_sr s k) 1 := by
  rw [show (k + 1).toNat = k.toNat + 1 by omega]
  show pw_bt s k.toNat + pw_an (pw_sr s (k.toNat : Int)) 1 = _
  rw [show (k.toNat : Int) = k by omega]
theorem pw_bt_d : ∀ q : Fin 15, ∀ n : Fin 15, q.val ≤ n.val → pw_bt (pw_p2 (q.val : Int) - 1) n.val = (q.val : Int) := by decide +kernel
theorem pw_bt_p {q n : Int} (h0 : 0 ≤ q) (h1 : q ≤ n) (h2 : n ≤ 14) : pw_bt (pw_p2 q - 1) n.toNat = q := by
  have := pw_bt_d ⟨q.toNat, by omega⟩ ⟨n.toNat, by omega⟩ (by show q.toNat ≤ n.toNat; omega)
  dsimp only at this
  rw [show ((q.toNat : Nat) : Int) = q by omega] at this
  exact this
def pw_cd (h : pm_H) (k b e : Int) : Int := if pw_g h 131 k.toNat ≠ 0 ∧ pw_g h 138 (12 * k + b).toNat ≠ 0 ∧ pw_g h 138 (12 * k + e).toNat ≠ 0 then 1 else 0
def pw_c0 (h : pm_H) (b e : Int) : Nat → Int
  | 0 => 0
  | k + 1 => pw_c0 h b e k + (if pw_g h 132 k = 0 then pw_cd h (k : Int) b e else 0)
def pw_c1 (h : pm_H) (b e : Int) : Nat → Int
  | 0 => 0
  | k + 1 => pw_c1 h b e k + (if pw_g h 132 k = 0 then 0 else pw_cd h (k : Int) b e)
theorem pw_cd_r (h : pm_H) (k b e : Int) : 0 ≤ pw_cd h k b e ∧ pw_cd h k b e ≤ 1 := by
  unfold pw_cd
  split <;> omega
theorem pw_cS {h : pm_H} {b e k : Int} (hk : 0 ≤ k) : (pw_g h 132 k.toNat = 0 → pw_c0 h b e (k + 1).toNat = pw_c0 h b e k.toNat + pw_cd h k b e ∧ pw_c1 h b e (k + 1).toNat = pw_c1 h b e k.toNat) ∧ (pw_g h 132 k.toNat ≠ 0 → pw_c0 h b e (k + 1).toNat = pw_c0 h b e k.toNat ∧ pw_c1 h b e (k + 1).toNat = pw_c1 h b e k.toNat + pw_cd h k b e) := by
  rw [show (k + 1).toNat = k.toNat + 1 by omega]
  have e0 : pw_c0 h b e (k.toNat + 1) = pw_c0 h b e k.toNat + (if pw_g h 132 k.toNat = 0 then pw_cd h ((k.toNat : Nat) : Int) b e else 0) := rfl
  have e1 : pw_c1 h b e (k.toNat + 1) = pw_c1 h b e k.toNat + (if pw_g h 132 k.toNat = 0 then 0 else pw_cd h ((k.toNat : Nat) : Int) b e) := rfl
  rw [show ((k.toNat : Nat) : Int) = k by omega] at e0 e1
  rw [e0, e1]
  constructor
  · intro q
    rw [if_pos q, if_pos q]
    omega
  · intro q
    rw [if_neg q, if_neg q]
    omega
theorem pw_c_le {h : pm_H} {b e : Int} : ∀ n k : Nat, pw_c0 h b e k ≤ pw_c0 h b e (k + n) ∧ pw_c1 h b e k ≤ pw_c1 h b e (k + n) := by
  intro n
  induction n with
  | zero => intro k; constructor <;> exact Int.le_refl _
  | succ n ih =>
    intro k
    obtain ⟨h1, h2⟩ := ih k
    have r := pw_cd_r h ((k + n : Nat) : Int) b e
    show pw_c0 h b e k ≤ pw_c0 h b e (k + n) + (if pw_g h 132 (k + n) = 0 then pw_cd h ((k + n : Nat) : Int) b e else 0) ∧ pw_c1 h b e k ≤ pw_c1 h b e (k + n) + (if pw_g h 132 (k + n) = 0 then 0 else pw_cd h ((k + n : Nat) : Int) b e)
    split <;> omega
theorem pw_c_top {h : pm_H} {b e k : Int} (h1 : 0 ≤ k) (h2 : k ≤ 24) : pw_c0 h b e k.toNat ≤ pw_c0 h b e 24 ∧ pw_c1 h b e k.toNat ≤ pw_c1 h b e 24 := by
  have := pw_c_le (h := h) (b := b) (e := e) (24 - k.toNat) k.toNat
  rw [show k.toNat + (24 - k.toNat) = 24 by omega] at this
  exact this
theorem pw_cdE {W : List Nat} {h h' : pm_H} (I : pw_I h) (E : pw_E W h h') (hn : (W.contains 131 || (W.contains 132 || W.contains 138)) = false) (k b e : Int) : pw_cd h' k b e = pw_cd h k b e ∧ pw_g h' 132 k.toNat = pw_g h 132 k.toNat := by
  obtain ⟨h1, h2⟩ := Bool.or_eq_false_iff.mp hn
  obtain ⟨h2, h3⟩ := Bool.or_eq_false_iff.mp h2
  unfold pw_cd
  rw [pw_Eg (c := 131) I E rfl h1, pw_Eg (c := 138) I E rfl h3, pw_Eg (c := 138) I E rfl h3, pw_Eg (c := 132) I E rfl h2]
  exact ⟨rfl, rfl⟩
section Ph
variable {X : List (Nat × List Value)} {d : Nat} {h : pm_H} {m pc pc' len na nl own rt : Nat} {C : pm_T (Instr × Nat)} {ls : pm_L} {r : List Value} {Q : pm_H → (Option Value ⊕ Unit) → Prop} {i : Instr}
theorem pw_iiE {f : Int32 → Int32 → Int32} {a b c : Int} (he : pm_ent m = some (na, nl, own, rt, C)) (hq : pm_get C pc = some (i, len)) (hs : ∀ ih : pm_I, pm_dsp X i ih d h m own pc len ls (pw_i b :: pw_i a :: r) = ih d h m pc' ls (.int (f (Int32.ofInt a) (Int32.ofInt b)) :: r)) (hc : (f (Int32.ofInt a) (Int32.ofInt b)).toInt = c) (H : pw X d h m pc' ls (pw_i c :: r) Q) : pw X d h m pc ls (pw_i b :: pw_i a :: r) Q := by
  have e : pw_i c = .int (f (Int32.ofInt a) (Int32.ofInt b)) := by
    unfold pw_i
    rw [← hc, Int32.ofInt_toInt]
  rw [e] at H
  exact pw_ld he hq hs H
theorem pw_shlE {b : Int} (he : pm_ent m = some (na, nl, own, rt, C)) (hq : pm_get C pc = some (.ishl, len)) (hc : pc + len = pc') (h1 : 0 ≤ b) (h2 : b ≤ 14) (H : pw X d h m pc' ls (pw_i (pw_p2 b) :: r) Q) : pw X d h m pc ls (pw_i b :: pw_i 1 :: r) Q := by
  subst hc
  obtain ⟨k, rfl⟩ := Int.eq_ofNat_of_zero_le h1
  refine pw_ld he hq (st' := pw_i (pw_p2 (k : Int)) :: r) (pc' := pc + len) (fun ih => ?_) H
  have e := pw_sh1 k (by omega)
  show pm_fn (pc + len) (fun q => ih d h m q ls (.int (Int32.ofInt 1 <<< (Int32.ofInt (k : Int) &&& 31)) :: r)) = _
  rw [e, pm_fn_eq]
  rfl
end Ph
theorem pw_cE {W : List Nat} {h h' : pm_H} (I : pw_I h) (E : pw_E W h h') (hn : (W.contains 131 || (W.contains 132 || W.contains 138)) = false) (b e : Int) : ∀ n : Nat, pw_c0 h' b e n = pw_c0 h b e n ∧ pw_c1 h' b e n = pw_c1 h b e n := by
  intro n
  induction n with
  | zero => exact ⟨rfl, rfl⟩
  | succ n ih =>
    have q := pw_cdE I E hn (n : Int) b e
    rw [show ((n : Nat) : Int).toNat = n by omega] at q
    have e0 : pw_c0 h' b e (n + 1) = pw_c0 h' b e n + (if pw_g h' 132 n = 0 then pw_cd h' (n : Int) b e else 0) := rfl
    have e1 : pw_c1 h' b e (n + 1) = pw_c1 h' b e n + (if pw_g h' 132 n = 0 then 0 else pw_cd h' (n : Int) b e) := rfl
    rw [e0, e1, ih.1, ih.2, q.1, q.2]
    exact ⟨rfl, rfl⟩

