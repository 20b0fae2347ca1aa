/-! THE NUMBER MACHINE (own text): values, cells and locals are numbers, ints of the script are symbols; slots of 72 bits -/
def pz_sl (P j : Nat) : Nat := Nat.mod (Nat.shiftRight P (Nat.mul 72 (Nat.succ j))) 4722366482869645213696
/-- the lowest 72 bits hold no slot, but change with every store: the kernel tells long numbers apart by their lowest bits -/
def pz_mix (P j v : Nat) : Nat := Nat.xor (Nat.mod P 4722366482869645213696) (Nat.mod (Nat.add (Nat.mul 5 (Nat.mod P 4722366482869645213696)) (Nat.add v (Nat.succ j))) 18446744073709551616)
def pz_up (P j v : Nat) : Nat := Nat.xor (Nat.xor P (Nat.shiftLeft (Nat.xor (pz_sl P j) v) (Nat.mul 72 (Nat.succ j)))) (pz_mix P j v)
theorem pz_sl_eq (P j : Nat) : pz_sl P j = (P >>> (72 * (j + 1))) % 2 ^ 72 := rfl
theorem pz_up_eq (P j v : Nat) : pz_up P j v = (P ^^^ ((pz_sl P j ^^^ v) <<< (72 * (j + 1)))) ^^^ pz_mix P j v := rfl
theorem pz_sl_bit (P j b : Nat) : (pz_sl P j).testBit b = (decide (b < 72) && P.testBit (72 * (j + 1) + b)) := by
  rw [pz_sl_eq, Nat.testBit_mod_two_pow, Nat.testBit_shiftRight]
theorem pz_sl_lt (P j : Nat) : pz_sl P j < 2 ^ 72 := by
  rw [pz_sl_eq]
  exact Nat.mod_lt _ (Nat.two_pow_pos 72)
theorem pz_big {v b : Nat} (hv : v < 2 ^ 72) (hb : ¬ b < 72) : v.testBit b = false :=
  Nat.testBit_lt_two_pow (Nat.lt_of_lt_of_le hv (Nat.pow_le_pow_right (by decide) (by omega)))
theorem pz_mix_lt (P j v : Nat) : pz_mix P j v < 2 ^ 72 := by
  have e : pz_mix P j v = (P % 4722366482869645213696) ^^^ ((5 * (P % 4722366482869645213696) + (v + (j + 1))) % 18446744073709551616) := rfl
  rw [e]
  exact Nat.xor_lt_two_pow (Nat.mod_lt _ (by decide)) (Nat.lt_trans (Nat.mod_lt _ (by decide)) (by decide))
theorem pz_up_same {P j v : Nat} (hv : v < 2 ^ 72) : pz_sl (pz_up P j v) j = v := by
  apply Nat.eq_of_testBit_eq
  intro b
  rw [pz_sl_bit, pz_up_eq, Nat.testBit_xor, Nat.testBit_xor, Nat.testBit_shiftLeft, Nat.add_sub_cancel_left, Nat.testBit_xor, pz_sl_bit, decide_eq_true (show 72 * (j + 1) + b ≥ 72 * (j + 1) by omega), pz_big (pz_mix_lt P j v) (show ¬ 72 * (j + 1) + b < 72 by omega)]
  by_cases hb : b < 72
  · rw [decide_eq_true hb]
    cases P.testBit (72 * (j + 1) + b) <;> cases v.testBit b <;> rfl
  · rw [pz_big hv hb, decide_eq_false hb]
    rfl
theorem pz_up_ne {P i j v : Nat} (hv : v < 2 ^ 72) (h : i ≠ j) : pz_sl (pz_up P j v) i = pz_sl P i := by
  apply Nat.eq_of_testBit_eq
  intro b
  rw [pz_sl_bit, pz_sl_bit, pz_up_eq, Nat.testBit_xor, Nat.testBit_xor, Nat.testBit_shiftLeft, pz_big (pz_mix_lt P j v) (show ¬ 72 * (i + 1) + b < 72 by omega)]
  by_cases hb : b < 72
  · by_cases hi : i < j
    · rw [decide_eq_false (show ¬ 72 * (i + 1) + b ≥ 72 * (j + 1) by omega)]
      cases P.testBit (72 * (i + 1) + b) <;> cases decide (b < 72) <;> rfl
    · rw [Nat.testBit_xor, pz_big (pz_sl_lt P j) (show ¬ 72 * (i + 1) + b - 72 * (j + 1) < 72 by omega), pz_big hv (show ¬ 72 * (i + 1) + b - 72 * (j + 1) < 72 by omega)]
      cases P.testBit (72 * (i + 1) + b) <;> cases decide (b < 72) <;> cases decide (72 * (i + 1) + b ≥ 72 * (j + 1)) <;> rfl
  · rw [decide_eq_false hb]
    rfl
theorem pz_zero (j : Nat) : pz_sl 0 j = 0 := by
  rw [pz_sl_eq, Nat.zero_shiftRight]
/-- the slots alone -/
def pz_s0 (P j : Nat) : Nat := Nat.mod (Nat.shiftRight P (Nat.mul 72 j)) 4722366482869645213696
theorem pz_s0_eq (P j : Nat) : pz_s0 P j = (P >>> (72 * j)) % 2 ^ 72 := rfl
theorem pz_sW (L j : Nat) : pz_sl (4722366482869645213696 * L) j = pz_s0 L j := by
  rw [pz_sl_eq, pz_s0_eq]
  show ((2 ^ 72 * L) >>> (72 * (j + 1))) % 2 ^ 72 = _
  rw [show 72 * (j + 1) = 72 + 72 * j by omega, Nat.shiftRight_add]
  congr 2
  rw [Nat.shiftRight_eq_div_pow, Nat.mul_div_cancel_left _ (Nat.two_pow_pos 72)]
theorem pz_sS (P j : Nat) : pz_sl P j = pz_s0 (P >>> 72) j := by
  rw [pz_sl_eq, pz_s0_eq, ← Nat.shiftRight_add, show 72 * (j + 1) = 72 + 72 * j by omega]
/-- a slot in front -/
theorem pz_cons0 {c L : Nat} (hc : c < 2 ^ 72) : pz_s0 (c + 4722366482869645213696 * L) 0 = c := by
  rw [pz_s0_eq]
  show ((c + 2 ^ 72 * L) >>> 0) % 2 ^ 72 = c
  rw [Nat.shiftRight_zero, Nat.add_mul_mod_self_left, Nat.mod_eq_of_lt hc]
theorem pz_cons1 {c L : Nat} (hc : c < 2 ^ 72) (j : Nat) : pz_s0 (c + 4722366482869645213696 * L) (j + 1) = pz_s0 L j := by
  rw [pz_s0_eq, pz_s0_eq]
  show ((c + 2 ^ 72 * L) >>> (72 * (j + 1))) % 2 ^ 72 = _
  rw [show 72 * (j + 1) = 72 + 72 * j by omega, Nat.shiftRight_add]
  congr 2
  rw [Nat.shiftRight_eq_div_pow, Nat.add_mul_div_left _ _ (Nat.two_pow_pos 72), Nat.div_eq_of_lt hc, Nat.zero_add]
/-! what the numbers mean -/
abbrev pz_E : Type := List (Nat × Nat) × List (Nat × Nat × Bool)
abbrev pz_C : Type := Nat × Nat × Nat
abbrev pz_H : Type := Nat × List (List pz_C)
abbrev pz_O : Type := pz_E × pz_H × Nat
abbrev pz_R : Type := Option (List pz_O)
/-- an instruction: its number, two numbers, its length, targets -/
abbrev pz_I : Type := Nat × Nat × Nat × Nat × List Nat
/-- a method: its number, locals, its class' number, what it answers, its code -/
abbrev pz_M : Type := Nat × Nat × Nat × Nat × pm_T pz_I
/-- what symbols stand for: ints, longs, cells; the script's length -/
abbrev pz_V : Type := (Nat → Int32) × (Nat → Int64) × (Nat → pm_C) × Nat
def pz_zi (V : pz_V) (k : Nat) : Int32 := V.1 (k % 16) + Int32.ofNat (k / 16)
def pz_v (V : pz_V) (c : Nat) : Value := if c % 8 = 0 then .int (Int32.ofNat (c / 8)) else if c % 8 = 1 then .long (Int64.ofNat (c / 8)) else if c % 8 = 2 then .ref (c / 8) else if c % 8 = 4 then .int (pz_zi V (c / 8)) else if c % 8 = 5 then .long (V.2.1 (c / 8)) else .null
def pz_o (V : pz_V) (c : Nat) : Option Value := if c % 8 = 7 then none else some (pz_v V c)
def pz_e (V : pz_V) (t c : Nat) : Value := if t = 3 then .long (Int64.ofNat c) else if t < 5 then pz_v V (4 * c) else if c = 0 then .null else .ref (c - 1)
def pz_c (V : pz_V) (q : pz_C) : pm_C := if q.1 = 99 then V.2.2.1 q.2.1 else if q.1 < 99 then .inl (q.1, (List.range q.2.1).map fun j => pz_e V q.1 (pz_sl q.2.2 j)) else .inr (q.1 - 100, (List.range q.2.1).map fun j => pz_v V (pz_sl q.2.2 j))
noncomputable def pz_at (cs : List (List pz_C)) (k : Nat) : Option pz_C := Option.rec none (fun r => pm_nth r (Nat.mod k 16)) (pm_nth cs (Nat.div k 16))
noncomputable def pz_set (cs : List (List pz_C)) (k : Nat) (c : pz_C) : List (List pz_C) := Option.rec cs (fun r => pm_set cs (Nat.div k 16) (pm_set r (Nat.mod k 16) c)) (pm_nth cs (Nat.div k 16))
noncomputable def pz_h (V : pz_V) (h : pz_H) : pm_H := (List.range h.1).map fun k => pz_c V ((pz_at h.2 k).getD (99, 0, 0))
def pz_l (V : pz_V) (n L : Nat) : pm_L := (List.range n).map fun k => pz_o V (pz_sl L k)
def pz_r (V : pz_V) (r : Nat) : Option Value ⊕ Unit := if r = 0 then .inl none else if r = 1 then .inr () else .inl (some (pz_v V (r - 2)))
def pz_b (x : Int32) : Nat := (x.toBitVec.toNat + 2147483648) % 4294967296
/-- the symbols keep what is known of them -/
def pz_k (V : pz_V) (C : pz_E) : Prop := (∀ i lo hi, C.1[i]? = some (lo, hi) → lo ≤ pz_b (V.1 i) ∧ pz_b (V.1 i) ≤ hi) ∧ ∀ q ∈ C.2, (V.1 q.1 = V.1 q.2.1) ↔ q.2.2 = true
theorem pz_l_len (V : pz_V) (n L : Nat) : (pz_l V n L).length = n := by simp [pz_l]
theorem pz_l_get {V : pz_V} {n L k : Nat} (h : k < n) : (pz_l V n L)[k]? = some (pz_o V (pz_sl L k)) := by
  unfold pz_l
  rw [List.getElem?_map, List.getElem?_range h]; rfl
theorem pz_l_up {V : pz_V} {n L k c : Nat} (hc : c < 2 ^ 72) : pz_l V n (pz_up L k c) = (pz_l V n L).set k (pz_o V c) := by
  apply List.ext_getElem?
  intro j
  by_cases hj : j < n
  · rw [pz_l_get hj]
    by_cases hk : k = j
    · subst hk
      rw [pz_up_same hc, List.getElem?_set_self (by rw [pz_l_len]; exact hj)]
    · rw [pz_up_ne hc (Ne.symm hk), List.getElem?_set_ne hk, pz_l_get hj]
  · rw [List.getElem?_eq_none (by rw [pz_l_len]; omega), List.getElem?_eq_none (by rw [List.length_set, pz_l_len]; omega)]
theorem pz_o_some {V : pz_V} {c : Nat} (h : c % 8 ≠ 7) : pz_o V c = some (pz_v V c) := if_neg h
theorem pz_v0 {V : pz_V} {c : Nat} (h : c % 8 = 0) : pz_v V c = .int (Int32.ofNat (c / 8)) := if_pos h
theorem pz_v1 {V : pz_V} {c : Nat} (h : c % 8 = 1) : pz_v V c = .long (Int64.ofNat (c / 8)) := by
  unfold pz_v; rw [if_neg (by omega), if_pos h]
theorem pz_v2 {V : pz_V} {c : Nat} (h : c % 8 = 2) : pz_v V c = .ref (c / 8) := by
  unfold pz_v; rw [if_neg (by omega), if_neg (by omega), if_pos h]
theorem pz_v3 {V : pz_V} {c : Nat} (h : c % 8 = 3) : pz_v V c = .null := by
  unfold pz_v; rw [if_neg (by omega), if_neg (by omega), if_neg (by omega), if_neg (by omega), if_neg (by omega)]
theorem pz_v4 {V : pz_V} {c : Nat} (h : c % 8 = 4) : pz_v V c = .int (pz_zi V (c / 8)) := by
  unfold pz_v; rw [if_neg (by omega), if_neg (by omega), if_neg (by omega), if_pos h]
theorem pz_v5 {V : pz_V} {c : Nat} (h : c % 8 = 5) : pz_v V c = .long (V.2.1 (c / 8)) := by
  unfold pz_v; rw [if_neg (by omega), if_neg (by omega), if_neg (by omega), if_neg (by omega), if_pos h]
theorem pz_vI {V : pz_V} {c : Nat} (h : c % 4 = 0) : ∃ x : Int32, pz_v V c = .int x := by
  rcases (by omega : c % 8 = 0 ∨ c % 8 = 4) with h | h
  · exact ⟨_, pz_v0 h⟩
  · exact ⟨_, pz_v4 h⟩
theorem pz_vi (V : pz_V) (b : Nat) : pz_v V (8 * b) = .int (Int32.ofNat b) := by
  rw [pz_v0 (by omega), show 8 * b / 8 = b by omega]
theorem pz_vl (V : pz_V) (b : Nat) : pz_v V (8 * b + 1) = .long (Int64.ofNat b) := by
  rw [pz_v1 (by omega), show (8 * b + 1) / 8 = b by omega]
theorem pz_vr (V : pz_V) (b : Nat) : pz_v V (8 * b + 2) = .ref b := by
  rw [pz_v2 (by omega), show (8 * b + 2) / 8 = b by omega]
theorem pz_vs (V : pz_V) (k : Nat) : pz_v V (8 * k + 4) = .int (pz_zi V k) := by
  rw [pz_v4 (by omega), show (8 * k + 4) / 8 = k by omega]
/-! cells -/
theorem pz_h_len (V : pz_V) (h : pz_H) : (pz_h V h).length = h.1 := by simp [pz_h]
theorem pz_h_get {V : pz_V} {h : pz_H} {k : Nat} {q : pz_C} (hk : k < h.1) (hq : pz_at h.2 k = some q) : (pz_h V h)[k]? = some (pz_c V q) := by
  unfold pz_h
  rw [List.getElem?_map, List.getElem?_range hk]
  show some (pz_c V ((pz_at h.2 k).getD (99, 0, 0))) = _
  rw [hq]; rfl
theorem pz_at_eq (cs : List (List pz_C)) (k : Nat) : pz_at cs k = (cs[k / 16]?).bind fun r => r[k % 16]? := by
  unfold pz_at
  rw [pm_nth_eq, show cs[Nat.div k 16]? = cs[k / 16]? from rfl]
  cases cs[k / 16]? with
  | none => rfl
  | some r => exact pm_nth_eq r _
theorem pz_at_set {cs : List (List pz_C)} {k : Nat} {q c : pz_C} (hq : pz_at cs k = some q) (j : Nat) : pz_at (pz_set cs k c) j = if j = k then some c else pz_at cs j := by
  rw [pz_at_eq] at hq
  cases hr : cs[k / 16]? with
  | none => rw [hr] at hq; cases hq
  | some r =>
    rw [hr] at hq
    have hq : r[k % 16]? = some q := hq
    have e : pz_set cs k c = cs.set (k / 16) (r.set (k % 16) c) := by
      unfold pz_set
      rw [pm_nth_eq, show cs[Nat.div k 16]? = cs[k / 16]? from rfl, hr]
      show pm_set cs (k / 16) (pm_set r (k % 16) c) = _
      rw [pm_set_eq, pm_set_eq]
    rw [e, pz_at_eq, pz_at_eq]
    have h1 : k / 16 < cs.length := (List.getElem?_eq_some_iff.mp hr).1
    have h2 : k % 16 < r.length := (List.getElem?_eq_some_iff.mp hq).1
    by_cases hj : j / 16 = k / 16
    · rw [hj, List.getElem?_set_self h1, hr]
      show (r.set (k % 16) c)[j % 16]? = if j = k then some c else r[j % 16]?
      by_cases hm : j % 16 = k % 16
      · rw [hm, List.getElem?_set_self h2, if_pos (by omega)]
      · rw [List.getElem?_set_ne (Ne.symm hm), if_neg (fun e => hm (by rw [e]))]
    · rw [List.getElem?_set_ne (Ne.symm hj), if_neg (fun e => hj (by rw [e]))]
theorem pz_h_set {V : pz_V} {h : pz_H} {k : Nat} {q c : pz_C} (hq : pz_at h.2 k = some q) : pz_h V (h.1, pz_set h.2 k c) = (pz_h V h).set k (pz_c V c) := by
  apply List.ext_getElem?
  intro j
  by_cases hj : j < h.1
  · unfold pz_h
    rw [List.getElem?_map, List.getElem?_range hj]
    show some (pz_c V ((pz_at (pz_set h.2 k c) j).getD (99, 0, 0))) = _
    rw [pz_at_set hq]
    by_cases hk : j = k
    · subst hk
      rw [if_pos rfl, List.getElem?_set_self (by simpa using hj)]; rfl
    · rw [if_neg hk, List.getElem?_set_ne (Ne.symm hk), List.getElem?_map, List.getElem?_range hj]; rfl
  · rw [List.getElem?_eq_none (by rw [pz_h_len]; exact Nat.le_of_not_lt hj), List.getElem?_eq_none (by rw [List.length_set, pz_h_len]; omega)]
theorem pz_h_push {V : pz_V} {h : pz_H} {q c : pz_C} (hq : pz_at h.2 h.1 = some q) : pz_h V (h.1 + 1, pz_set h.2 h.1 c) = pz_h V h ++ [pz_c V c] := by
  unfold pz_h
  rw [List.range_succ, List.map_append]
  congr 1
  · apply List.map_congr_left
    intro k hk
    show pz_c V ((pz_at (pz_set h.2 h.1 c) k).getD (99, 0, 0)) = _
    rw [pz_at_set hq, if_neg (by have := List.mem_range.mp hk; omega)]
  · show [pz_c V ((pz_at (pz_set h.2 h.1 c) h.1).getD (99, 0, 0))] = _
    rw [pz_at_set hq, if_pos rfl]; rfl
theorem pz_c_arr {V : pz_V} {t n P : Nat} (h : t < 99) : pz_c V (t, n, P) = .inl (t, (List.range n).map fun j => pz_e V t (pz_sl P j)) := by
  unfold pz_c
  rw [if_neg (by show ¬ t = 99; omega), if_pos h]
theorem pz_c_obj {V : pz_V} {ci n P : Nat} : pz_c V (100 + ci, n, P) = .inr (ci, (List.range n).map fun j => pz_v V (pz_sl P j)) := by
  unfold pz_c
  rw [if_neg (by show ¬ 100 + ci = 99; omega), if_neg (by show ¬ 100 + ci < 99; omega), show 100 + ci - 100 = ci by omega]
theorem pz_row_get {α : Type} {f : Nat → α} {n k : Nat} (h : k < n) : ((List.range n).map f)[k]? = some (f k) := by
  rw [List.getElem?_map, List.getElem?_range h]; rfl
theorem pz_row_up {α : Type} {g : Nat → α} {n P k c : Nat} (hc : c < 2 ^ 72) : ((List.range n).map fun j => g (pz_sl (pz_up P k c) j)) = ((List.range n).map fun j => g (pz_sl P j)).set k (g c) := by
  apply List.ext_getElem?
  intro j
  by_cases hj : j < n
  · rw [pz_row_get hj]
    by_cases hk : k = j
    · subst hk
      rw [pz_up_same hc, List.getElem?_set_self (by simpa using hj)]
    · rw [pz_up_ne hc (Ne.symm hk), List.getElem?_set_ne hk, pz_row_get hj]
  · rw [List.getElem?_eq_none (by simpa using hj), List.getElem?_eq_none (by simpa using hj)]
