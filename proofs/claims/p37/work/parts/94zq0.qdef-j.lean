section
/-! choosing: sorting, and what it is (printed by wip/tool/mchoo.py) -/
/-- the place at which v goes among the first n of s -/
def pc_ip (s : Nat → Int) (v : Int) : Nat → Nat
  | 0 => 0
  | n + 1 => if v < s n then pc_ip s v n else n + 1
/-- v put among the first n of s -/
def pc_is (s : Nat → Int) (v : Int) (n j : Nat) : Int := if j < pc_ip s v n then s j else if j = pc_ip s v n then v else s (j - 1)
/-- the first n of v, sorted -/
def pc_so (v : Nat → Int) : Nat → Nat → Int
  | 0 => fun _ => 0
  | n + 1 => pc_is (pc_so v n) (v n) n
theorem pc_isI {s : Nat → Int} {v : Int} {n j : Nat} : (j < pc_ip s v n → pc_is s v n j = s j) ∧ (j = pc_ip s v n → pc_is s v n j = v) ∧ (pc_ip s v n < j → pc_is s v n j = s (j - 1)) := by
  unfold pc_is
  refine ⟨fun q => if_pos q, fun q => ?_, fun q => ?_⟩
  · rw [if_neg (by omega), if_pos q]
  · rw [if_neg (by omega), if_neg (by omega)]
/-- what stands while one is put in: its place may still be p -/
def pc_IN (s g : Nat → Int) (n p v : Int) : Prop := (∀ j : Nat, (j : Int) < p → g j = s j) ∧ (∀ j : Nat, p < (j : Int) → (j : Int) ≤ n → g j = s (j - 1)) ∧ (∀ j : Nat, p ≤ (j : Int) → (j : Int) < n → v < s j)
theorem pc_IN.z {s g : Nat → Int} {n v : Int} (H : ∀ j : Nat, (j : Int) < n → g j = s j) : pc_IN s g n n v := ⟨H, fun j h1 h2 => by omega, fun j h1 h2 => by omega⟩
theorem pc_IN.st {s : Nat → Int} {g g' : pm_H} {c : Nat} {lo hi n p v : Int} (H : pc_IN s (pw_g g c) n p v) (hs : pw_T[c]? = some (.inl (0, 24, lo, hi))) (h0 : 0 < p) (h1 : p ≤ 23) (hn : p ≤ n) (hv : v < pw_g g c (p - 1).toNat) (I : pw_I g) (w : pw_w g c p.toNat (pw_i (pw_g g c (p - 1).toNat)) = g') : pc_IN s (pw_g g' c) n (p + (-1)) v := by
  have r := pw_gA (j := p - 1) I hs (by decide) (by omega) (by omega)
  have e1 : pw_g g' c p.toNat = pw_g g c (p - 1).toNat := by rw [← w]; exact pw_g_eqA I hs (by omega) (by omega) (by omega)
  have n1 : ∀ j : Nat, j ≠ p.toNat → pw_g g' c j = pw_g g c j := fun j hj => by rw [← w]; exact pw_g_ne (fun q => hj q.2.symm)
  have e2 := H.1 (p - 1).toNat (by omega)
  refine ⟨fun j hj => ?_, fun j h2 h3 => ?_, fun j h2 h3 => ?_⟩
  · rw [n1 j (by omega)]; exact H.1 j (by omega)
  · rcases (by omega : j = p.toNat ∨ p < (j : Int)) with q | q
    · rw [q, e1, e2, show p.toNat - 1 = (p - 1).toNat by omega]
    · rw [n1 j (by omega)]; exact H.2.1 j q h3
  · rcases (by omega : j = (p - 1).toNat ∨ p ≤ (j : Int)) with q | q
    · rw [q, ← e2]; exact hv
    · exact H.2.2 j q h3
theorem pc_soS {v : Nat → Int} {n : Nat} : pc_so v (n + 1) = pc_is (pc_so v n) (v n) n := rfl
/-- the row behind i steps of sorting -/
def pc_SI (r g : Nat → Int) (i : Int) : Prop := (∀ j : Nat, (j : Int) < i → g j = pc_so r i.toNat j) ∧ ∀ j : Nat, i ≤ (j : Int) → g j = r j
/-- behind i nothing has changed -/
def pc_TL (r g : Nat → Int) (i : Int) : Prop := ∀ j : Nat, i < (j : Int) → g j = r j
theorem pc_SI.z {r : Nat → Int} : pc_SI r r 1 := by
  refine ⟨fun j hj => ?_, fun j _ => rfl⟩
  rw [show j = 0 by omega]
  exact ((pc_isI (s := pc_so r 0) (v := r 0) (n := 0) (j := 0)).2.1 rfl).symm
theorem pc_TL.up {r : Nat → Int} {g g' : pm_H} {c : Nat} {n p : Int} {x : Value} (H : pc_TL r (pw_g g c) n) (h0 : 0 ≤ p) (hn : p ≤ n) (w : pw_w g c p.toNat x = g') : pc_TL r (pw_g g' c) n := fun j hj => by
  rw [← w, pw_g_ne (fun q => by have := q.2; omega)]
  exact H j hj
theorem pc_SI.st {r : Nat → Int} {g' : Nat → Int} {i v : Int} (h0 : 0 ≤ i) (hv : v = r i.toNat) (H : ∀ j : Nat, (j : Int) < i + 1 → g' j = pc_is (pc_so r i.toNat) v i.toNat j) (t : pc_TL r g' i) : pc_SI r g' (i + 1) := by
  refine ⟨fun j hj => ?_, fun j hj => t j (by omega)⟩
  rw [H j hj, show (i + 1).toNat = i.toNat + 1 by omega, pc_soS, hv]
/-- the changes of a side, in their order -/
def pc_G (sd ch : Nat → Int) (s : Int) : Nat → Nat → Int
  | 0 => fun _ => 0
  | k + 1 => fun j => if sd k = s ∧ (j : Int) = pv_N sd s k then ch k else pc_G sd ch s k j
theorem pc_GS {sd ch : Nat → Int} {s : Int} {k j : Nat} : pc_G sd ch s (k + 1) j = if sd k = s ∧ (j : Int) = pv_N sd s k then ch k else pc_G sd ch s k j := rfl
/-- the row holds what was gathered up to k -/
def pc_GA (sd ch : Nat → Int) (s : Int) (g : Nat → Int) (k : Int) : Prop := ∀ j : Nat, (j : Int) < pv_N sd s k.toNat → g j = pc_G sd ch s k.toNat j
theorem pc_GA.z {sd ch : Nat → Int} {s : Int} {g : Nat → Int} : pc_GA sd ch s g 0 := fun j hj => by
  have e : pv_N sd s (Int.toNat 0) = 0 := rfl
  omega
theorem pc_GA.no {sd ch : Nat → Int} {s k : Int} {g : Nat → Int} (H : pc_GA sd ch s g k) (h0 : 0 ≤ k) (q : ¬ (sd k.toNat = s)) : pc_GA sd ch s g (k + 1) := fun j hj => by
  rw [(pv_Ns h0).2 q] at hj
  rw [show (k + 1).toNat = k.toNat + 1 by omega, pc_GS, if_neg (fun z => q z.1)]
  exact H j hj
theorem pc_GA.yes {sd ch : Nat → Int} {s k n x : Int} {g g' : pm_H} (H : pc_GA sd ch s (pw_g g 19) k) (h0 : 0 ≤ k) (h1 : n ≤ 23) (hn : n = pv_N sd s k.toNat) (q : sd k.toNat = s) (hx : x = ch k.toNat) (x1 : -2147483648 ≤ x) (x2 : x ≤ 2147483647) (I : pw_I g) (w : pw_w g 19 n.toNat (pw_i x) = g') : pc_GA sd ch s (pw_g g' 19) (k + 1) := fun j hj => by
  have nb := pv_NB (sd := sd) (s := s) k.toNat
  rw [(pv_Ns h0).1 q] at hj
  rw [show (k + 1).toNat = k.toNat + 1 by omega, pc_GS]
  rcases (by omega : j = n.toNat ∨ (j : Int) < n) with r | r
  · rw [if_pos ⟨q, by omega⟩, r, ← w, ← hx]
    exact pw_g_eqA I rfl (by omega) x1 x2
  · rw [if_neg (fun z => by have := z.2; omega), ← w, pw_g_ne (fun z => by have := z.2; omega)]
    exact H j (by omega)
/-- the row is sorted -/
def pc_SO (r g : Nat → Int) (n : Int) : Prop := ∀ j : Nat, (j : Int) < n → g j = pc_so r n.toNat j
theorem pc_SI.so {r g : Nat → Int} {i n : Int} (H : pc_SI r g i) (hn : n = 0 ∨ i = n) : pc_SO r g n := fun j hj => by
  rcases hn with q | q
  · omega
  · rw [← q] at hj ⊢; exact H.1 j hj
end
section
/-! odds: bits, ways, rows (printed by wip/tool/modd.py) -/
/-- bit k of s, how many bits, the sum of what they mark -/
def pb_b (s k : Nat) : Nat := s / 2 ^ k % 2
def pb_n (s : Nat) : Nat → Nat
  | 0 => 0
  | k + 1 => pb_n s k + pb_b s k
def pb_S (r : Nat → Int) (s : Nat) : Nat → Int
  | 0 => 0
  | k + 1 => pb_S r s k + (if pb_b s k = 1 then r k else 0)
theorem pb_nI (n : Nat) : nI n = Int32.ofInt (n : Int) := rfl
theorem pb_tI {n : Nat} (h : n < 2147483648) : (nI n).toInt = (n : Int) := pw_toInt (a := (n : Int)) (by omega) (by omega)
theorem pb_31 : ∀ q : Fin 31, ((Int32.ofInt (q.val : Int) &&& 31).toBitVec.smod 32).toNat = q.val := by decide +kernel
theorem pb_bit {s k : Int} (h0 : 0 ≤ s) (h1 : s ≤ 2147483647) (k0 : 0 ≤ k) (k1 : k ≤ 30) : pw_an (pw_sr s k) 1 = (pb_b s.toNat k.toNat : Int) := by
  have hk := pb_31 ⟨k.toNat, by omega⟩
  dsimp only at hk
  rw [show ((k.toNat : Nat) : Int) = k by omega] at hk
  have hm : s.toNat / 2 ^ k.toNat ≤ s.toNat := Nat.div_le_self _ _
  have e1 : pw_sr s k = ((s.toNat / 2 ^ k.toNat : Nat) : Int) := by
    have e := pk_shrN (n := s.toNat) (by omega) (Int32.ofInt k &&& 31) k.toNat hk
    rw [pb_nI s.toNat, show ((s.toNat : Nat) : Int) = s by omega] at e
    unfold pw_sr
    rw [e, pb_tI (by omega)]
  have e2 := pk_andN (n := s.toNat / 2 ^ k.toNat) (by omega) (m := 1) 1 rfl
  have hr : s.toNat / 2 ^ k.toNat % 2 ^ 1 < 2 ^ 1 := Nat.mod_lt _ (by decide)
  have h21 : 2 ^ 1 = 2 := rfl
  have e3 : (nI (s.toNat / 2 ^ k.toNat) &&& 1).toInt = ((s.toNat / 2 ^ k.toNat % 2 ^ 1 : Nat) : Int) := by rw [e2, pb_tI (by omega)]
  rw [e1]
  exact e3
theorem pb_b2 (s k : Nat) : pb_b s k < 2 := Nat.mod_lt _ (by decide)
theorem pb_bhi {s n k : Nat} (h : s < 2 ^ n) (hk : n ≤ k) : pb_b s k = 0 := by
  unfold pb_b
  rw [Nat.div_eq_of_lt (Nat.lt_of_lt_of_le h (Nat.pow_le_pow_right (by decide) hk))]
theorem pb_nhi {s n : Nat} (h : s < 2 ^ n) : ∀ d : Nat, pb_n s (n + d) = pb_n s n := by
  intro d
  induction d with
  | zero => rfl
  | succ d ih =>
    show pb_n s (n + d) + pb_b s (n + d) = _
    have a := pb_bhi h (show n ≤ n + d by omega)
    omega
theorem pb_Shi {r : Nat → Int} {s n : Nat} (h : s < 2 ^ n) : ∀ d : Nat, pb_S r s (n + d) = pb_S r s n := by
  intro d
  induction d with
  | zero => rfl
  | succ d ih =>
    show pb_S r s (n + d) + (if pb_b s (n + d) = 1 then r (n + d) else 0) = _
    have a := pb_bhi h (show n ≤ n + d by omega)
    rw [if_neg (by omega), ih]
    omega
theorem pb_SC {r r' : Nat → Int} {s : Nat} : ∀ n : Nat, (∀ k : Nat, k < n → pb_b s k = 1 → r k = r' k) → pb_S r s n = pb_S r' s n := by
  intro n
  induction n with
  | zero => intro _; rfl
  | succ n ih =>
    intro H
    have e : pb_S r s (n + 1) = pb_S r s n + (if pb_b s n = 1 then r n else 0) := rfl
    have e' : pb_S r' s (n + 1) = pb_S r' s n + (if pb_b s n = 1 then r' n else 0) := rfl
    rw [e, e', ih (fun k hk => H k (by omega))]
    by_cases q : pb_b s n = 1
    · rw [if_pos q, if_pos q, H n (Nat.lt_succ_self n) q]
    · rw [if_neg q, if_neg q]
theorem pb_nB (s : Nat) : ∀ n : Nat, pb_n s n ≤ n := by
  intro n
  induction n with
  | zero => exact Nat.le_refl _
  | succ n ih =>
    have e : pb_n s (n + 1) = pb_n s n + pb_b s n := rfl
    have b := pb_b2 s n
    omega
theorem pb_np : ∀ q : Fin 15, ∀ n : Fin 15, q.val ≤ n.val → pb_n (2 ^ q.val - 1) n.val = q.val := by decide +kernel
theorem pb_SS {r : Nat → Int} {s : Nat} {k : Int} (hk : 0 ≤ k) : (pb_b s k.toNat = 1 → pb_S r s (k + 1).toNat = pb_S r s k.toNat + r k.toNat) ∧ (pb_b s k.toNat ≠ 1 → pb_S r s (k + 1).toNat = pb_S r s k.toNat) := by
  rw [show (k + 1).toNat = k.toNat + 1 by omega]
  have e : pb_S r s (k.toNat + 1) = pb_S r s k.toNat + (if pb_b s k.toNat = 1 then r k.toNat else 0) := rfl
  rw [e]
  exact ⟨fun q => by rw [if_pos q], fun q => by rw [if_neg q]; omega⟩
theorem pb_nS {s : Nat} {k : Int} (hk : 0 ≤ k) : pb_n s (k + 1).toNat = pb_n s k.toNat + pb_b s k.toNat := by
  rw [show (k + 1).toNat = k.toNat + 1 by omega]
  rfl
/-- and with a mask -/
def pb_an (a m : Int) : Int := ((a.toNat &&& m.toNat : Nat) : Int)
theorem pb_anB {a m : Int} (h0 : 0 ≤ a) (h1 : 0 ≤ m) : 0 ≤ pb_an a m ∧ pb_an a m ≤ a ∧ pb_an a m ≤ m := by
  unfold pb_an
  have l1 : a.toNat &&& m.toNat ≤ a.toNat := Nat.and_le_left
  have l2 : a.toNat &&& m.toNat ≤ m.toNat := Nat.and_le_right
  omega
theorem pb_anE {a m : Int} (h0 : 0 ≤ a) (h1 : a ≤ 2147483647) (h2 : 0 ≤ m) (h3 : m ≤ 2147483647) : (Int32.ofInt a &&& Int32.ofInt m).toInt = pb_an a m := by
  have l1 : a.toNat &&& m.toNat ≤ a.toNat := Nat.and_le_left
  have e : nI (a.toNat &&& m.toNat) = nI a.toNat &&& nI m.toNat := Int32.toBitVec_inj.mp BitVec.ofNat_and
  rw [pb_nI a.toNat, pb_nI m.toNat, show ((a.toNat : Nat) : Int) = a by omega, show ((m.toNat : Nat) : Int) = m by omega] at e
  rw [← e, pb_tI (by omega)]
  rfl
theorem pb_16 : ∀ q : Fin 17, (((Int32.ofInt (q.val : Int)).toUInt32 &&& Int32.toUInt32 31).toBitVec % 32).toNat = q.val := by decide +kernel
theorem pb_usE {a k : Int} (h0 : 0 ≤ a) (h1 : a ≤ 2147483647) (k0 : 0 ≤ k) (k1 : k ≤ 16) : ((Int32.ofInt a).toUInt32 >>> ((Int32.ofInt k).toUInt32 &&& Int32.toUInt32 31)).toInt32.toInt = a / ((2 ^ k.toNat : Nat) : Int) := by
  have hk := pb_16 ⟨k.toNat, by omega⟩
  dsimp only at hk
  rw [show ((k.toNat : Nat) : Int) = k by omega] at hk
  have hm : a.toNat / 2 ^ k.toNat ≤ a.toNat := Nat.div_le_self _ _
  have e := pk_ushrN (n := a.toNat) (by omega) (Int32.ofInt k) k.toNat hk
  rw [pb_nI a.toNat, show ((a.toNat : Nat) : Int) = a by omega] at e
  rw [e, pb_tI (by omega)]
  show ((a.toNat : Nat) : Int) / ((2 ^ k.toNat : Nat) : Int) = _
  rw [show ((a.toNat : Nat) : Int) = a by omega]
/-- the JDK's count of bits, by its steps -/
def pb_bc1 (x : Int) : Int := x - pb_an (x / 2) 1431655765
def pb_bc2 (x : Int) : Int := pb_an x 858993459 + pb_an (x / 4) 858993459
def pb_bc3 (x : Int) : Int := pb_an (x + x / 16) 252645135
def pb_bc4 (x : Int) : Int := x + x / 256
def pb_bc5 (x : Int) : Int := pb_an (x + x / 65536) 63
def pb_bc (x : Int) : Int := pb_bc5 (pb_bc4 (pb_bc3 (pb_bc2 (pb_bc1 x))))
def pb_n14 (s : Nat) : Nat := pb_b s 0 + pb_b s 1 + pb_b s 2 + pb_b s 3 + pb_b s 4 + pb_b s 5 + pb_b s 6 + pb_b s 7 + pb_b s 8 + pb_b s 9 + pb_b s 10 + pb_b s 11 + pb_b s 12 + pb_b s 13
theorem pb_n14E (s : Nat) : pb_n s 14 = pb_n14 s := by
  have h0 : pb_n s 1 = pb_n s 0 + pb_b s 0 := rfl
  have h1 : pb_n s 2 = pb_n s 1 + pb_b s 1 := rfl
  have h2 : pb_n s 3 = pb_n s 2 + pb_b s 2 := rfl
  have h3 : pb_n s 4 = pb_n s 3 + pb_b s 3 := rfl
  have h4 : pb_n s 5 = pb_n s 4 + pb_b s 4 := rfl
  have h5 : pb_n s 6 = pb_n s 5 + pb_b s 5 := rfl
  have h6 : pb_n s 7 = pb_n s 6 + pb_b s 6 := rfl
  have h7 : pb_n s 8 = pb_n s 7 + pb_b s 7 := rfl
  have h8 : pb_n s 9 = pb_n s 8 + pb_b s 8 := rfl
  have h9 : pb_n s 10 = pb_n s 9 + pb_b s 9 := rfl
  have h10 : pb_n s 11 = pb_n s 10 + pb_b s 10 := rfl
  have h11 : pb_n s 12 = pb_n s 11 + pb_b s 11 := rfl
  have h12 : pb_n s 13 = pb_n s 12 + pb_b s 12 := rfl
  have h13 : pb_n s 14 = pb_n s 13 + pb_b s 13 := rfl
  have z : pb_n s 0 = 0 := rfl
  unfold pb_n14
  omega
def pb_all (n : Nat) : Bool := Nat.rec true (fun k ih => cond (decide (pb_bc (Int.ofNat k) = Int.ofNat (pb_n14 k))) ih false) n
theorem pb_all_S (n : Nat) : pb_all (n + 1) = cond (decide (pb_bc (Int.ofNat n) = Int.ofNat (pb_n14 n))) (pb_all n) false := rfl
theorem pb_all_of : ∀ n : Nat, pb_all n = true → ∀ k : Nat, k < n → pb_bc (k : Int) = (pb_n14 k : Int) := by
  intro n
  induction n with
  | zero => intro _ k hk; exact absurd hk (Nat.not_lt_zero k)
  | succ n ih =>
    intro H k hk
    rw [pb_all_S] at H
    by_cases q : pb_bc (Int.ofNat n) = Int.ofNat (pb_n14 n)
    · rw [decide_eq_true q] at H
      rcases (by omega : k < n ∨ k = n) with e | e
      · exact ih H k e
      · rw [e]; exact q
    · rw [decide_eq_false q] at H
      exact absurd H Bool.false_ne_true
theorem pb_bcE {x : Int} (h0 : 0 ≤ x) (h1 : x ≤ 16383) : pb_bc x = (pb_n x.toNat 14 : Int) := by
  have e := pb_all_of 16384 (by decide +kernel) x.toNat (by omega)
  rw [show ((x.toNat : Nat) : Int) = x by omega, ← pb_n14E] at e
  exact e
/-- how many ways, and how many of them as far -/
def po_W (q : Int) (m : Nat) : Nat → Int
  | 0 => 0
  | s + 1 => po_W q m s + (if (pb_n s m : Int) = q then 1 else 0)
def po_F (r : Nat → Int) (al tf ow q : Int) (m : Nat) : Nat → Int
  | 0 => 0
  | s + 1 => po_F r al tf ow q m s + (if (pb_n s m : Int) = q ∧ (ow ≤ pb_S r s m * al - tf ∨ ow ≤ -(pb_S r s m * al - tf)) then 1 else 0)
theorem po_B {r : Nat → Int} {al tf ow q : Int} {m : Nat} : ∀ n : Nat, 0 ≤ po_F r al tf ow q m n ∧ po_F r al tf ow q m n ≤ po_W q m n ∧ po_W q m n ≤ n := by
  intro n
  induction n with
  | zero => exact ⟨Int.le_refl _, Int.le_refl _, Int.le_refl _⟩
  | succ n ih =>
    have e : po_W q m (n + 1) = po_W q m n + (if (pb_n n m : Int) = q then 1 else 0) := rfl
    have e' : po_F r al tf ow q m (n + 1) = po_F r al tf ow q m n + (if (pb_n n m : Int) = q ∧ (ow ≤ pb_S r n m * al - tf ∨ ow ≤ -(pb_S r n m * al - tf)) then 1 else 0) := rfl
    rw [e, e']
    by_cases z : (pb_n n m : Int) = q
    · rw [if_pos z]
      split <;> omega
    · rw [if_neg z, if_neg (fun w => z w.1)]
      omega
theorem po_Ws {q s : Int} {m : Nat} (hs : 0 ≤ s) : ((pb_n s.toNat m : Int) = q → po_W q m (s + 1).toNat = po_W q m s.toNat + 1) ∧ (¬ ((pb_n s.toNat m : Int) = q) → po_W q m (s + 1).toNat = po_W q m s.toNat) := by
  rw [show (s + 1).toNat = s.toNat + 1 by omega]
  have e : po_W q m (s.toNat + 1) = po_W q m s.toNat + (if (pb_n s.toNat m : Int) = q then 1 else 0) := rfl
  rw [e]
  exact ⟨fun z => by rw [if_pos z], fun z => by rw [if_neg z]; omega⟩
theorem po_Wp {q : Int} {m : Nat} (q0 : 0 ≤ q) (hq : q ≤ m) (hm : m ≤ 14) : ∀ n : Nat, 2 ^ q.toNat ≤ n → 1 ≤ po_W q m n := by
  intro n
  induction n with
  | zero =>
    intro hn
    have := Nat.one_le_two_pow (n := q.toNat)
    omega
  | succ n ih =>
    intro hn
    have e : po_W q m (n + 1) = po_W q m n + (if (pb_n n m : Int) = q then 1 else 0) := rfl
    have b := po_B (r := fun _ => 0) (al := 0) (tf := 0) (ow := 0) (q := q) (m := m) n
    rcases (by omega : 2 ^ q.toNat ≤ n ∨ n = 2 ^ q.toNat - 1) with z | z
    · have := ih z
      rw [e]
      split <;> omega
    · have w := pb_np ⟨q.toNat, by omega⟩ ⟨m, by omega⟩ (by show q.toNat ≤ m; omega)
      dsimp only at w
      rw [← z] at w
      rw [e, if_pos (by omega)]
      omega
theorem po_WC {q : Int} {m m' : Nat} : ∀ n : Nat, (∀ s : Nat, s < n → pb_n s m = pb_n s m') → po_W q m n = po_W q m' n := by
  intro n
  induction n with
  | zero => intro _; rfl
  | succ n ih =>
    intro H
    show po_W q m n + (if (pb_n n m : Int) = q then 1 else 0) = po_W q m' n + (if (pb_n n m' : Int) = q then 1 else 0)
    rw [ih (fun s hs => H s (by omega)), H n (Nat.lt_succ_self n)]
/-- those on a side, in their order -/
def pc_M (sd : Nat → Int) : Nat → Int
  | 0 => 0
  | k + 1 => pc_M sd k + (if sd k ≠ -1 then 1 else 0)
def pc_B (sd ch : Nat → Int) : Nat → Nat → Int
  | 0 => fun _ => 0
  | k + 1 => fun j => if sd k ≠ -1 ∧ (j : Int) = pc_M sd k then ch k else pc_B sd ch k j
theorem pc_BS {sd ch : Nat → Int} {k j : Nat} : pc_B sd ch (k + 1) j = if sd k ≠ -1 ∧ (j : Int) = pc_M sd k then ch k else pc_B sd ch k j := rfl
theorem pc_MB {sd : Nat → Int} : ∀ n : Nat, 0 ≤ pc_M sd n ∧ pc_M sd n ≤ n := by
  intro n
  induction n with
  | zero => exact ⟨Int.le_refl _, Int.le_refl _⟩
  | succ n ih =>
    have e : pc_M sd (n + 1) = pc_M sd n + (if sd n ≠ -1 then 1 else 0) := rfl
    rw [e]
    split <;> omega
theorem pc_Ms {sd : Nat → Int} {k : Int} (hk : 0 ≤ k) : (sd k.toNat ≠ -1 → pc_M sd (k + 1).toNat = pc_M sd k.toNat + 1) ∧ (sd k.toNat = -1 → pc_M sd (k + 1).toNat = pc_M sd k.toNat) := by
  rw [show (k + 1).toNat = k.toNat + 1 by omega]
  have e : pc_M sd (k.toNat + 1) = pc_M sd k.toNat + (if sd k.toNat ≠ -1 then 1 else 0) := rfl
  rw [e]
  exact ⟨fun q => by rw [if_pos q], fun q => by rw [if_neg (fun z => z q)]; omega⟩
/-- the row is filled from the first k -/
def pc_BA (sd ch g : Nat → Int) (k : Int) : Prop := ∀ j : Nat, (j : Int) < pc_M sd k.toNat → g j = pc_B sd ch k.toNat j
theorem pc_BA.z {sd ch g : Nat → Int} : pc_BA sd ch g 0 := fun j hj => by
  have e : pc_M sd (Int.toNat 0) = 0 := rfl
  omega
theorem pc_BA.no {sd ch g : Nat → Int} {k : Int} (H : pc_BA sd ch g k) (h0 : 0 ≤ k) (q : sd k.toNat = -1) : pc_BA sd ch g (k + 1) := fun j hj => by
  rw [(pc_Ms h0).2 q] at hj
  rw [show (k + 1).toNat = k.toNat + 1 by omega, pc_BS, if_neg (fun z => z.1 q)]
  exact H j hj
theorem pc_BA.yes {sd ch : Nat → Int} {c : Nat} {lo hi k n x : Int} {g g' : pm_H} (H : pc_BA sd ch (pw_g g c) k) (hs : pw_T[c]? = some (.inl (0, 24, lo, hi))) (h0 : 0 ≤ k) (h1 : n ≤ 23) (hn : n = pc_M sd k.toNat) (q : sd k.toNat ≠ -1) (hx : x = ch k.toNat) (x1 : -2147483648 ≤ x) (x2 : x ≤ 2147483647) (I : pw_I g) (w : pw_w g c n.toNat (pw_i x) = g') : pc_BA sd ch (pw_g g' c) (k + 1) := fun j hj => by
  have nb := pc_MB (sd := sd) k.toNat
  rw [(pc_Ms h0).1 q] at hj
  rw [show (k + 1).toNat = k.toNat + 1 by omega, pc_BS]
  rcases (by omega : j = n.toNat ∨ (j : Int) < n) with r | r
  · rw [if_pos ⟨q, by omega⟩, r, ← w, ← hx]
    exact pw_g_eqA I hs (by omega) x1 x2
  · rw [if_neg (fun z => by have := z.2; omega), ← w, pw_g_ne (fun z => by have := z.2; omega)]
    exact H j (by omega)
theorem po_p2E {s a : Int} (h0 : 0 ≤ s) (h : s = pw_p2 a) : s.toNat = 2 ^ a.toNat := by
  unfold pw_p2 at h
  omega
theorem po_sdmE {W : List Nat} {h h' : pm_H} {b e : Int} (I : pw_I h) (E : pw_E W h h') (hn : ((W.contains 131 || (W.contains 132 || W.contains 138)) || (W.contains 1015 || (W.contains 139 || W.contains 140))) = false) : pv_sdm h' b e = pv_sdm h b e ∧ pv_chm h' b e = pv_chm h b e := by
  obtain ⟨h1, h3⟩ := Bool.or_eq_false_iff.mp hn
  obtain ⟨h1, h2⟩ := Bool.or_eq_false_iff.mp h1
  obtain ⟨h2, h4⟩ := Bool.or_eq_false_iff.mp h2
  refine ⟨funext (fun k => ?_), funext (fun k => ?_)⟩
  · unfold pv_sdm
    rw [pw_Eg (c := 131) I E rfl h1, pw_Eg (c := 132) I E rfl h2, pw_Eg (c := 138) I E rfl h4, pw_Eg (c := 138) I E rfl h4]
  · unfold pv_chm
    rw [pv_hmkE I E h3, pv_hmkE I E h3]
theorem pb_us1 {a : Int} (h0 : 0 ≤ a) (h1 : a ≤ 2147483647) : ((Int32.ofInt a).toUInt32 >>> ((Int32.ofInt 1).toUInt32 &&& Int32.toUInt32 31)).toInt32.toInt = a / 2 := pb_usE h0 h1 (by decide) (by decide)
theorem pb_us2 {a : Int} (h0 : 0 ≤ a) (h1 : a ≤ 2147483647) : ((Int32.ofInt a).toUInt32 >>> ((Int32.ofInt 2).toUInt32 &&& Int32.toUInt32 31)).toInt32.toInt = a / 4 := pb_usE h0 h1 (by decide) (by decide)
theorem pb_us4 {a : Int} (h0 : 0 ≤ a) (h1 : a ≤ 2147483647) : ((Int32.ofInt a).toUInt32 >>> ((Int32.ofInt 4).toUInt32 &&& Int32.toUInt32 31)).toInt32.toInt = a / 16 := pb_usE h0 h1 (by decide) (by decide)
theorem pb_us8 {a : Int} (h0 : 0 ≤ a) (h1 : a ≤ 2147483647) : ((Int32.ofInt a).toUInt32 >>> ((Int32.ofInt 8).toUInt32 &&& Int32.toUInt32 31)).toInt32.toInt = a / 256 := pb_usE h0 h1 (by decide) (by decide)
theorem pb_us16 {a : Int} (h0 : 0 ≤ a) (h1 : a ≤ 2147483647) : ((Int32.ofInt a).toUInt32 >>> ((Int32.ofInt 16).toUInt32 &&& Int32.toUInt32 31)).toInt32.toInt = a / 65536 := pb_usE h0 h1 (by decide) (by decide)
end
section
/-! lots: signs, sums of draws (printed by wip/tool/mlot.py) -/
/-- the sign of a number -/
def pl_sg (x : Int) : Int := if x < 0 then -1 else if 0 < x then 1 else 0
theorem pl_sgI {x : Int} : (x < 0 → pl_sg x = -1) ∧ (0 < x → pl_sg x = 1) ∧ (x = 0 → pl_sg x = 0) := by
  unfold pl_sg
  exact ⟨fun q => if_pos q, fun q => by rw [if_neg (by omega), if_pos q], fun q => by rw [if_neg (by omega), if_neg (by omega)]⟩
/-- what a row says of a sum: how many of its first places have the sign -/
def pl_i (g : Nat → Int) (u sgn : Int) : Nat → Int
  | 0 => 0
  | j + 1 => pl_i g u sgn j + (if pl_sg (u - g j) = sgn then 1 else 0)
def pl_o (f g : Nat → Int) (sgn : Int) (nb : Nat) : Nat → Int
  | 0 => 0
  | i + 1 => pl_o f g sgn nb i + pl_i g (f i) sgn nb
/-- the same told by the draws -/
def pl_I (T : Nat → Int) (k : Int) (m : Nat) (u sgn : Int) : Nat → Int
  | 0 => 0
  | t + 1 => pl_I T k m u sgn t + (if (pb_n t m : Int) = k ∧ pl_sg (u - T t) = sgn then 1 else 0)
def pl_O (S T : Nat → Int) (k : Int) (m : Nat) (sgn : Int) (nb : Nat) : Nat → Int
  | 0 => 0
  | s + 1 => pl_O S T k m sgn nb s + (if (pb_n s m : Int) = k then pl_I T k m (S s) sgn nb else 0)
theorem pl_iS {g : Nat → Int} {u sgn j : Int} (hj : 0 ≤ j) : (pl_sg (u - g j.toNat) = sgn → pl_i g u sgn (j + 1).toNat = pl_i g u sgn j.toNat + 1) ∧ (¬ (pl_sg (u - g j.toNat) = sgn) → pl_i g u sgn (j + 1).toNat = pl_i g u sgn j.toNat) := by
  rw [show (j + 1).toNat = j.toNat + 1 by omega]
  have e : pl_i g u sgn (j.toNat + 1) = pl_i g u sgn j.toNat + (if pl_sg (u - g j.toNat) = sgn then 1 else 0) := rfl
  rw [e]
  exact ⟨fun q => by rw [if_pos q], fun q => by rw [if_neg q]; omega⟩
theorem pl_oS {f g : Nat → Int} {sgn i : Int} {nb : Nat} (hi : 0 ≤ i) : pl_o f g sgn nb (i + 1).toNat = pl_o f g sgn nb i.toNat + pl_i g (f i.toNat) sgn nb := by
  rw [show (i + 1).toNat = i.toNat + 1 by omega]
  rfl
theorem pl_IS {T : Nat → Int} {k u sgn t : Int} {m : Nat} (ht : 0 ≤ t) : ((pb_n t.toNat m : Int) = k → pl_sg (u - T t.toNat) = sgn → pl_I T k m u sgn (t + 1).toNat = pl_I T k m u sgn t.toNat + 1) ∧ (¬ (pl_sg (u - T t.toNat) = sgn) → pl_I T k m u sgn (t + 1).toNat = pl_I T k m u sgn t.toNat) ∧ (¬ ((pb_n t.toNat m : Int) = k) → pl_I T k m u sgn (t + 1).toNat = pl_I T k m u sgn t.toNat) := by
  rw [show (t + 1).toNat = t.toNat + 1 by omega]
  have e : pl_I T k m u sgn (t.toNat + 1) = pl_I T k m u sgn t.toNat + (if (pb_n t.toNat m : Int) = k ∧ pl_sg (u - T t.toNat) = sgn then 1 else 0) := rfl
  rw [e]
  exact ⟨fun q w => by rw [if_pos ⟨q, w⟩], fun w => by rw [if_neg (fun z => w z.2)]; omega, fun w => by rw [if_neg (fun z => w z.1)]; omega⟩
theorem pl_OS {S T : Nat → Int} {k sgn s : Int} {m nb : Nat} (hs : 0 ≤ s) : ((pb_n s.toNat m : Int) = k → pl_O S T k m sgn nb (s + 1).toNat = pl_O S T k m sgn nb s.toNat + pl_I T k m (S s.toNat) sgn nb) ∧ (¬ ((pb_n s.toNat m : Int) = k) → pl_O S T k m sgn nb (s + 1).toNat = pl_O S T k m sgn nb s.toNat) := by
  rw [show (s + 1).toNat = s.toNat + 1 by omega]
  have e : pl_O S T k m sgn nb (s.toNat + 1) = pl_O S T k m sgn nb s.toNat + (if (pb_n s.toNat m : Int) = k then pl_I T k m (S s.toNat) sgn nb else 0) := rfl
  rw [e]
  exact ⟨fun q => by rw [if_pos q], fun q => by rw [if_neg q]; omega⟩
theorem pl_IB {T : Nat → Int} {k u sgn : Int} {m : Nat} : ∀ n : Nat, 0 ≤ pl_I T k m u sgn n ∧ pl_I T k m u sgn n ≤ po_W k m n := by
  intro n
  induction n with
  | zero => exact ⟨Int.le_refl _, Int.le_refl _⟩
  | succ n ih =>
    have e : pl_I T k m u sgn (n + 1) = pl_I T k m u sgn n + (if (pb_n n m : Int) = k ∧ pl_sg (u - T n) = sgn then 1 else 0) := rfl
    have e' : po_W k m (n + 1) = po_W k m n + (if (pb_n n m : Int) = k then 1 else 0) := rfl
    rw [e, e']
    by_cases z : (pb_n n m : Int) = k
    · rw [if_pos z]
      split <;> omega
    · rw [if_neg z, if_neg (fun w => z w.1)]
      omega
theorem pl_OB {S T : Nat → Int} {k sgn : Int} {m nb : Nat} (hn : nb ≤ 512) : ∀ n : Nat, 0 ≤ pl_O S T k m sgn nb n ∧ pl_O S T k m sgn nb n ≤ 512 * (n : Int) := by
  intro n
  induction n with
  | zero => exact ⟨Int.le_refl _, Int.le_refl _⟩
  | succ n ih =>
    have e : pl_O S T k m sgn nb (n + 1) = pl_O S T k m sgn nb n + (if (pb_n n m : Int) = k then pl_I T k m (S n) sgn nb else 0) := rfl
    have b := pl_IB (T := T) (k := k) (u := S n) (sgn := sgn) (m := m) nb
    have w := (po_B (r := fun _ => 0) (al := 0) (tf := 0) (ow := 0) (q := k) (m := m) nb).2.2
    rw [e]
    split <;> omega
theorem pl_OY {S T : Nat → Int} {k sgn : Int} {m nb : Nat} : ∀ n : Nat, pl_O S T k m sgn nb n ≤ po_W k m n * po_W k m nb := by
  intro n
  induction n with
  | zero => show (0 : Int) ≤ 0 * _; rw [Int.zero_mul]; exact Int.le_refl _
  | succ n ih =>
    have e : pl_O S T k m sgn nb (n + 1) = pl_O S T k m sgn nb n + (if (pb_n n m : Int) = k then pl_I T k m (S n) sgn nb else 0) := rfl
    have e' : po_W k m (n + 1) = po_W k m n + (if (pb_n n m : Int) = k then 1 else 0) := rfl
    have b := pl_IB (T := T) (k := k) (u := S n) (sgn := sgn) (m := m) nb
    rw [e, e', Int.add_mul]
    by_cases z : (pb_n n m : Int) = k
    · rw [if_pos z, if_pos z, Int.one_mul]; omega
    · rw [if_neg z, if_neg z, Int.zero_mul]; omega
theorem po_Wm {q : Int} {m a : Nat} : ∀ d : Nat, po_W q m a ≤ po_W q m (a + d) := by
  intro d
  induction d with
  | zero => exact Int.le_refl _
  | succ d ih =>
    have e : po_W q m (a + d + 1) = po_W q m (a + d) + (if (pb_n (a + d) m : Int) = q then 1 else 0) := rfl
    show po_W q m a ≤ po_W q m (a + d + 1)
    rw [e]
    split <;> omega
theorem po_WL {q : Int} {m a b : Nat} (h : a < b) (ha : (pb_n a m : Int) = q) : po_W q m a < po_W q m b := by
  have e : po_W q m (a + 1) = po_W q m a + (if (pb_n a m : Int) = q then 1 else 0) := rfl
  rw [if_pos ha] at e
  have := po_Wm (q := q) (m := m) (a := a + 1) (b - (a + 1))
  rw [show a + 1 + (b - (a + 1)) = b by omega] at this
  omega
/-- the row holds the sums of the draws that have k members, one behind another -/
def pl_A (T : Nat → Int) (k : Int) (m : Nat) (g : Nat → Int) (n : Int) : Prop := ∀ s : Nat, (s : Int) < n → (pb_n s m : Int) = k → g (po_W k m s).toNat = T s
theorem pl_A.z {T g : Nat → Int} {k : Int} {m : Nat} : pl_A T k m g 0 := fun s hs => by omega
theorem pl_A.no {T g : Nat → Int} {k n : Int} {m : Nat} (H : pl_A T k m g n) (h0 : 0 ≤ n) (q : ¬ ((pb_n n.toNat m : Int) = k)) : pl_A T k m g (n + 1) := fun s hs hk => by
  rcases (by omega : (s : Int) < n ∨ s = n.toNat) with e | e
  · exact H s e hk
  · rw [e] at hk; exact absurd hk q
theorem pl_A.yes {T : Nat → Int} {c : Nat} {lo hi k n x v : Int} {m : Nat} {g g' : pm_H} (H : pl_A T k m (pw_g g c) n) (hs : pw_T[c]? = some (.inl (0, 512, lo, hi))) (h0 : 0 ≤ n) (h1 : x ≤ 511) (hx : x = po_W k m n.toNat) (hk : (pb_n n.toNat m : Int) = k) (hv : v = T n.toNat) (v1 : -2147483648 ≤ v) (v2 : v ≤ 2147483647) (I : pw_I g) (w : pw_w g c x.toNat (pw_i v) = g') : pl_A T k m (pw_g g' c) (n + 1) := fun s hsn hsk => by
  have wb := po_B (r := fun _ => 0) (al := 0) (tf := 0) (ow := 0) (q := k) (m := m) n.toNat
  rcases (by omega : (s : Int) < n ∨ s = n.toNat) with e | e
  · have l := po_WL (q := k) (m := m) (a := s) (b := n.toNat) (by omega) hsk
    have b2 := po_B (r := fun _ => 0) (al := 0) (tf := 0) (ow := 0) (q := k) (m := m) s
    rw [← w, pw_g_ne (fun z => by have := z.2; omega)]
    exact H s e hsk
  · rw [e, ← hx, ← w, ← hv]
    exact pw_g_eqA I hs (by omega) v1 v2
theorem pl_reI {T g : Nat → Int} {k u sgn : Int} {m : Nat} : ∀ n : Nat, pl_A T k m g n → pl_i g u sgn (po_W k m n).toNat = pl_I T k m u sgn n := by
  intro n
  induction n with
  | zero => intro _; rfl
  | succ n ih =>
    intro H
    have i := ih (fun s hs hk => H s (by omega) hk)
    have wb := po_B (r := fun _ => 0) (al := 0) (tf := 0) (ow := 0) (q := k) (m := m) n
    have e : po_W k m (n + 1) = po_W k m n + (if (pb_n n m : Int) = k then 1 else 0) := rfl
    have eI : pl_I T k m u sgn (n + 1) = pl_I T k m u sgn n + (if (pb_n n m : Int) = k ∧ pl_sg (u - T n) = sgn then 1 else 0) := rfl
    by_cases q : (pb_n n m : Int) = k
    · rw [if_pos q] at e
      have ei : pl_i g u sgn ((po_W k m n).toNat + 1) = pl_i g u sgn (po_W k m n).toNat + (if pl_sg (u - g (po_W k m n).toNat) = sgn then 1 else 0) := rfl
      rw [e, show (po_W k m n + 1).toNat = (po_W k m n).toNat + 1 by omega, ei, eI, i, H n (by omega) q]
      by_cases z : pl_sg (u - T n) = sgn
      · rw [if_pos z, if_pos ⟨q, z⟩]
      · rw [if_neg z, if_neg (fun w => z w.2)]
    · rw [if_neg q, Int.add_zero] at e
      rw [e, eI, i, if_neg (fun w => q w.1), Int.add_zero]
theorem pl_reO {S T f g : Nat → Int} {k sgn : Int} {m N : Nat} (G : pl_A T k m g N) : ∀ n : Nat, pl_A S k m f n → pl_o f g sgn (po_W k m N).toNat (po_W k m n).toNat = pl_O S T k m sgn N n := by
  intro n
  induction n with
  | zero => intro _; rfl
  | succ n ih =>
    intro H
    have i := ih (fun s hs hk => H s (by omega) hk)
    have wb := po_B (r := fun _ => 0) (al := 0) (tf := 0) (ow := 0) (q := k) (m := m) n
    have e : po_W k m (n + 1) = po_W k m n + (if (pb_n n m : Int) = k then 1 else 0) := rfl
    have eO : pl_O S T k m sgn N (n + 1) = pl_O S T k m sgn N n + (if (pb_n n m : Int) = k then pl_I T k m (S n) sgn N else 0) := rfl
    by_cases q : (pb_n n m : Int) = k
    · rw [if_pos q] at e
      have eo : pl_o f g sgn (po_W k m N).toNat ((po_W k m n).toNat + 1) = pl_o f g sgn (po_W k m N).toNat (po_W k m n).toNat + pl_i g (f (po_W k m n).toNat) sgn (po_W k m N).toNat := rfl
      rw [e, show (po_W k m n + 1).toNat = (po_W k m n).toNat + 1 by omega, eo, eO, i, H n (by omega) q, pl_reI N G, if_pos q]
    · rw [if_neg q, Int.add_zero] at e
      rw [e, eO, i, if_neg q, Int.add_zero]
theorem pl_IC {T T' : Nat → Int} {k u sgn : Int} {m m' : Nat} : ∀ n : Nat, (∀ s : Nat, s < n → pb_n s m = pb_n s m' ∧ T s = T' s) → pl_I T k m u sgn n = pl_I T' k m' u sgn n := by
  intro n
  induction n with
  | zero => intro _; rfl
  | succ n ih =>
    intro H
    show pl_I T k m u sgn n + (if (pb_n n m : Int) = k ∧ pl_sg (u - T n) = sgn then 1 else 0) = pl_I T' k m' u sgn n + (if (pb_n n m' : Int) = k ∧ pl_sg (u - T' n) = sgn then 1 else 0)
    rw [ih (fun s hs => H s (by omega)), (H n (Nat.lt_succ_self n)).1, (H n (Nat.lt_succ_self n)).2]
theorem pl_OC {S S' T T' : Nat → Int} {k sgn : Int} {m m' nb : Nat} (HT : ∀ s : Nat, s < nb → pb_n s m = pb_n s m' ∧ T s = T' s) : ∀ n : Nat, (∀ s : Nat, s < n → pb_n s m = pb_n s m' ∧ S s = S' s) → pl_O S T k m sgn nb n = pl_O S' T' k m' sgn nb n := by
  intro n
  induction n with
  | zero => intro _; rfl
  | succ n ih =>
    intro H
    show pl_O S T k m sgn nb n + (if (pb_n n m : Int) = k then pl_I T k m (S n) sgn nb else 0) = pl_O S' T' k m' sgn nb n + (if (pb_n n m' : Int) = k then pl_I T' k m' (S' n) sgn nb else 0)
    rw [ih (fun s hs => H s (by omega)), (H n (Nat.lt_succ_self n)).1, (H n (Nat.lt_succ_self n)).2, pl_IC nb HT]
/-- the changes of a side, as a row of its own; the sums of its draws -/
def pl_T (sd ch : Nat → Int) (sx : Int) (s : Nat) : Int := pb_S (pc_G sd ch sx 24) s 14
def pl_X (sd ch : Nat → Int) (k : Int) : Int := pl_O (pl_T sd ch 0) (pl_T sd ch 1) k 14 (pl_sg (pv_U sd ch)) (2 ^ (pv_N sd 1 24).toNat) (2 ^ (pv_N sd 0 24).toNat)
def pl_Y (sd : Nat → Int) (k : Int) : Int := po_W k 14 (2 ^ (pv_N sd 0 24).toNat) * po_W k 14 (2 ^ (pv_N sd 1 24).toNat)
theorem pc_GC {sd sd' ch ch' : Nat → Int} {sx : Int} : ∀ n : Nat, (∀ k : Nat, k < n → sd k = sd' k ∧ (sd k = sx → ch k = ch' k)) → pc_G sd ch sx n = pc_G sd' ch' sx n := by
  intro n
  induction n with
  | zero => intro _; rfl
  | succ n ih =>
    intro H
    have h1 := (pv_cg (sd := sd) (sd' := sd') (ch := ch) (ch' := ch') (s := sx) n (fun k hk => H k (by omega))).1
    obtain ⟨a, b⟩ := H n (Nat.lt_succ_self n)
    refine funext (fun j => ?_)
    rw [pc_GS, pc_GS, ih (fun k hk => H k (by omega)), h1, ← a]
    by_cases q : sd n = sx
    · rw [b q]
    · rw [if_neg (fun z => q z.1), if_neg (fun z => q z.1)]
theorem pc_GB {sd ch : Nat → Int} {sx : Int} : ∀ n : Nat, (∀ k : Nat, k < n → sd k = sx → -2000 ≤ ch k ∧ ch k ≤ 2000) → ∀ j : Nat, (j : Int) < pv_N sd sx n → -2000 ≤ pc_G sd ch sx n j ∧ pc_G sd ch sx n j ≤ 2000 := by
  intro n
  induction n with
  | zero =>
    intro _ j hj
    have e : pv_N sd sx 0 = 0 := rfl
    omega
  | succ n ih =>
    intro H j hj
    have e : pv_N sd sx (n + 1) = pv_N sd sx n + (if sd n = sx then 1 else 0) := rfl
    rw [pc_GS]
    by_cases q : sd n = sx ∧ (j : Int) = pv_N sd sx n
    · rw [if_pos q]; exact H n (Nat.lt_succ_self n) q.1
    · rw [if_neg q]
      refine ih (fun k hk => H k (by omega)) j ?_
      rw [e] at hj
      by_cases w : sd n = sx
      · rw [if_pos w] at hj
        have : ¬ ((j : Int) = pv_N sd sx n) := fun z => q ⟨w, z⟩
        omega
      · rw [if_neg w] at hj
        omega
theorem pl_cg {sd sd' ch ch' : Nat → Int} {k : Int} (H : ∀ k : Nat, k < 24 → sd k = sd' k ∧ (sd k ≠ -1 → ch k = ch' k)) : pl_X sd ch k = pl_X sd' ch' k ∧ pl_Y sd k = pl_Y sd' k := by
  obtain ⟨u1, u2, u3, u4, u5⟩ := pv_Ucg H
  have g0 := pc_GC (sx := 0) 24 (fun k hk => ⟨(H k hk).1, fun e => (H k hk).2 (by omega)⟩)
  have g1 := pc_GC (sx := 1) 24 (fun k hk => ⟨(H k hk).1, fun e => (H k hk).2 (by omega)⟩)
  have t0 : pl_T sd ch 0 = pl_T sd' ch' 0 := by unfold pl_T; rw [g0]
  have t1 : pl_T sd ch 1 = pl_T sd' ch' 1 := by unfold pl_T; rw [g1]
  unfold pl_X pl_Y
  rw [t0, t1, u1, u4, u5]
  exact ⟨rfl, rfl⟩
theorem pl_pow {a : Int} (h : a ≤ 9) : 1 ≤ 2 ^ a.toNat ∧ 2 ^ a.toNat ≤ 512 := by
  have p : 2 ^ a.toNat ≤ 2 ^ 9 := Nat.pow_le_pow_right (by decide) (by omega)
  have e : 2 ^ 9 = 512 := rfl
  have q := Nat.one_le_two_pow (n := a.toNat)
  omega
theorem pl_WB {k a : Int} {m : Nat} (k1 : 1 ≤ k) (ka : k ≤ a) (ha : a ≤ 9) (hm : 9 ≤ m) (hm2 : m ≤ 14) : 1 ≤ po_W k m (2 ^ a.toNat) ∧ po_W k m (2 ^ a.toNat) ≤ 512 := by
  have w := po_Wp (q := k) (m := m) (by omega) (by omega) hm2 (2 ^ a.toNat) (Nat.pow_le_pow_right (by decide) (by omega))
  have b := po_B (r := fun _ => 0) (al := 0) (tf := 0) (ow := 0) (q := k) (m := m) (2 ^ a.toNat)
  have p := pl_pow ha
  omega
theorem pl_XB {sd ch : Nat → Int} {k : Int} (k1 : 1 ≤ k) (k2 : k ≤ pv_N sd 0 24) (k3 : k ≤ pv_N sd 1 24) (n0 : pv_N sd 0 24 ≤ 9) (n1 : pv_N sd 1 24 ≤ 9) : 0 ≤ pl_X sd ch k ∧ pl_X sd ch k ≤ 262144 ∧ 1 ≤ pl_Y sd k ∧ pl_Y sd k ≤ 262144 ∧ pl_X sd ch k ≤ pl_Y sd k := by
  have w0 := pl_WB (m := 14) k1 k2 n0 (by decide) (by decide)
  have w1 := pl_WB (m := 14) k1 k3 n1 (by decide) (by decide)
  have p0 := pl_pow n0
  have p1 := pl_pow n1
  have b := pl_OB (S := pl_T sd ch 0) (T := pl_T sd ch 1) (k := k) (sgn := pl_sg (pv_U sd ch)) (m := 14) (nb := 2 ^ (pv_N sd 1 24).toNat) (by omega) (2 ^ (pv_N sd 0 24).toNat)
  have y := pl_OY (S := pl_T sd ch 0) (T := pl_T sd ch 1) (k := k) (sgn := pl_sg (pv_U sd ch)) (m := 14) (nb := 2 ^ (pv_N sd 1 24).toNat) (2 ^ (pv_N sd 0 24).toNat)
  have mm := pw_mulB (a := po_W k 14 (2 ^ (pv_N sd 0 24).toNat)) (b := po_W k 14 (2 ^ (pv_N sd 1 24).toNat)) (A := 512) (B := 512) (by omega) (by omega) (by omega) (by omega)
  have m3 := mm.2.2 w0.1 w1.1
  unfold pl_X pl_Y
  omega
theorem pl_9 {r r' : Nat → Int} {s : Nat} {a : Int} (ha : a ≤ 9) (hs : s < 2 ^ a.toNat) (H : ∀ j : Nat, (j : Int) < a → r j = r' j) : pb_n s 9 = pb_n s 14 ∧ pb_S r s 9 = pb_S r' s 14 := by
  have p := pl_pow ha
  have h9 : s < 2 ^ 9 := by
    have e : 2 ^ 9 = 512 := rfl
    omega
  have n := pb_nhi h9 5
  have S := pb_Shi (r := r) h9 5
  refine ⟨n.symm, S.symm.trans (pb_SC _ (fun j _ hb => ?_))⟩
  rcases (by omega : (j : Int) < a ∨ a.toNat ≤ j) with q | q
  · exact H j q
  · have := pb_bhi hs q
    omega
theorem pl_14 {r r' : Nat → Int} {s : Nat} {a : Int} (hs : s < 2 ^ a.toNat) (H : ∀ j : Nat, (j : Int) < a → r j = r' j) : pb_S r s 14 = pb_S r' s 14 := pb_SC _ (fun j _ hb => by
  rcases (by omega : (j : Int) < a ∨ a.toNat ≤ j) with q | q
  · exact H j q
  · have := pb_bhi hs q
    omega)
theorem pl_rowB {g : Nat → Int} {s : Nat} {a : Int} (hs : s < 2 ^ a.toNat) (hb : ∀ j : Nat, (j : Int) < a → -2000 ≤ g j ∧ g j ≤ 2000) : ∀ j : Nat, pb_b s j = 1 → -2000 ≤ g j ∧ g j ≤ 2000 := by
  intro j hj
  rcases (by omega : (j : Int) < a ∨ a.toNat ≤ j) with q | q
  · exact hb j q
  · have := pb_bhi hs q
    omega
theorem pl_lt9 {s a : Int} (h0 : 0 ≤ s) (h : s < pw_p2 a) : s.toNat < 2 ^ a.toNat := by
  unfold pw_p2 at h
  omega
theorem pl_p2N {a : Int} : pw_p2 a = ((2 ^ a.toNat : Nat) : Int) := rfl
/-- so much of a hundred, told of the fraction or of what it was made of -/
theorem pl_ge {X Y A B p : Int} (hY : 0 < Y) (hA : A = Int.tdiv X (pw_gd X Y)) (hB : B = Int.tdiv Y (pw_gd X Y)) : p * B ≤ A * 100 ↔ p * Y ≤ 100 * X := by
  obtain ⟨l1, l2, -⟩ := pw_lw (x := X) (y := Y) hY
  have gp := (pw_gd_pos (x := X) (y := Y) hY).1
  rw [← hA] at l1
  rw [← hB] at l2
  have e1 : p * Y = pw_gd X Y * (p * B) := by rw [← Int.mul_assoc, Int.mul_comm (pw_gd X Y) p, Int.mul_assoc, l2]
  have e2 : 100 * X = pw_gd X Y * (A * 100) := by rw [← Int.mul_assoc, l1, Int.mul_comm]
  rw [e1, e2]
  exact ⟨fun h => Int.mul_le_mul_of_nonneg_left h (by omega), fun h => Int.le_of_mul_le_mul_left h (by omega)⟩
/-- lots can be drawn, k of them -/
def pl_ok (sd : Nat → Int) (k : Int) : Prop := pv_N sd 0 24 ≤ 9 ∧ pv_N sd 1 24 ≤ 9 ∧ k ≤ pv_N sd 0 24 ∧ k ≤ pv_N sd 1 24
def pl_gd (sd ch : Nat → Int) (p k : Int) : Prop := pl_ok sd k ∧ p * pl_Y sd k ≤ 100 * pl_X sd ch k
theorem pl_okcg {sd sd' ch ch' : Nat → Int} {p k : Int} (H : ∀ k : Nat, k < 24 → sd k = sd' k ∧ (sd k ≠ -1 → ch k = ch' k)) : (pl_ok sd k ↔ pl_ok sd' k) ∧ (pl_gd sd ch p k ↔ pl_gd sd' ch' p k) := by
  obtain ⟨u1, u2, u3, u4, u5⟩ := pv_Ucg H
  obtain ⟨x1, x2⟩ := pl_cg (k := k) H
  unfold pl_gd pl_ok
  rw [x1, x2, u4, u5]
  exact ⟨Iff.rfl, Iff.rfl⟩
theorem pl_GAy {sd ch : Nat → Int} {c q9 : Nat} {lo hi s k n x : Int} {g g' : pm_H} (H : pc_GA sd ch s (pw_g g c) k) (hs : pw_T[c]? = some (.inl (0, q9, lo, hi))) (h0 : 0 ≤ k) (h1 : n < q9) (hn : n = pv_N sd s k.toNat) (q : sd k.toNat = s) (hx : x = ch k.toNat) (x1 : -2147483648 ≤ x) (x2 : x ≤ 2147483647) (I : pw_I g) (w : pw_w g c n.toNat (pw_i x) = g') : pc_GA sd ch s (pw_g g' c) (k + 1) := fun j hj => by
  have nb := pv_NB (sd := sd) (s := s) k.toNat
  rw [(pv_Ns h0).1 q] at hj
  rw [show (k + 1).toNat = k.toNat + 1 by omega, pc_GS]
  rcases (by omega : j = n.toNat ∨ (j : Int) < n) with r | r
  · rw [if_pos ⟨q, by omega⟩, r, ← w, ← hx]
    exact pw_g_eqA I hs (by omega) x1 x2
  · rw [if_neg (fun z => by have := z.2; omega), ← w, pw_g_ne (fun z => by have := z.2; omega)]
    exact H j (by omega)
theorem pv_Nm {sd : Nat → Int} {s : Int} {a : Nat} : ∀ d : Nat, pv_N sd s a ≤ pv_N sd s (a + d) := by
  intro d
  induction d with
  | zero => exact Int.le_refl _
  | succ d ih =>
    have e : pv_N sd s (a + d + 1) = pv_N sd s (a + d) + (if sd (a + d) = s then 1 else 0) := rfl
    show pv_N sd s a ≤ pv_N sd s (a + d + 1)
    rw [e]
    split <;> omega
theorem pv_Nm24 {sd : Nat → Int} {s k : Int} (h0 : 0 ≤ k) (h1 : k ≤ 24) : pv_N sd s k.toNat ≤ pv_N sd s 24 := by
  have := pv_Nm (sd := sd) (s := s) (a := k.toNat) (24 - k.toNat)
  rw [show k.toNat + (24 - k.toNat) = 24 by omega] at this
  exact this
theorem pc_GA.rowB {sd ch g : Nat → Int} {s : Int} (H : pc_GA sd ch s g 24) (hb : ∀ k : Nat, k < 24 → sd k = s → -2000 ≤ ch k ∧ ch k ≤ 2000) : ∀ j : Nat, (j : Int) < pv_N sd s 24 → -2000 ≤ g j ∧ g j ≤ 2000 := fun j hj => by
  have e24 : (24 : Int).toNat = 24 := rfl
  have h := H j (by rw [e24]; exact hj)
  rw [e24] at h
  rw [h]
  exact pc_GB 24 hb j hj
theorem pc_GA.row {sd ch g : Nat → Int} {s : Int} (H : pc_GA sd ch s g 24) : ∀ j : Nat, (j : Int) < pv_N sd s 24 → g j = pc_G sd ch s 24 j := fun j hj => H j hj
/-- the model's sums of draws -/
def pl_R (g : Nat → Int) (s : Nat) : Int := pb_S g s 9
theorem pl_XM {sd ch r0 r1 : Nat → Int} {k : Int} (G0 : pc_GA sd ch 0 r0 24) (G1 : pc_GA sd ch 1 r1 24) (n0 : pv_N sd 0 24 ≤ 9) (n1 : pv_N sd 1 24 ≤ 9) : pl_O (pl_R r0) (pl_R r1) k 9 (pl_sg (pv_U sd ch)) (2 ^ (pv_N sd 1 24).toNat) (2 ^ (pv_N sd 0 24).toNat) = pl_X sd ch k ∧ po_W k 9 (2 ^ (pv_N sd 0 24).toNat) * po_W k 9 (2 ^ (pv_N sd 1 24).toNat) = pl_Y sd k := by
  have h0 : ∀ s : Nat, s < 2 ^ (pv_N sd 0 24).toNat → pb_n s 9 = pb_n s 14 ∧ pl_R r0 s = pl_T sd ch 0 s := fun s hs => pl_9 n0 hs G0.row
  have h1 : ∀ s : Nat, s < 2 ^ (pv_N sd 1 24).toNat → pb_n s 9 = pb_n s 14 ∧ pl_R r1 s = pl_T sd ch 1 s := fun s hs => pl_9 n1 hs G1.row
  refine ⟨pl_OC h1 _ h0, ?_⟩
  unfold pl_Y
  rw [po_WC _ (fun s hs => (h0 s hs).1), po_WC _ (fun s hs => (h1 s hs).1)]
theorem pl_pm {a b w : Int} (h : a = b + 1) : a * w = b * w + w := by rw [h, Int.add_mul, Int.one_mul]
theorem pl_nogd {sd ch : Nat → Int} {p m : Int} (h : ((9 < pv_N sd 0 24 ∨ 9 < pv_N sd 1 24) ∧ m = 0) ∨ (pv_N sd 0 24 ≤ 9 ∧ pv_N sd 1 24 ≤ 9 ∧ m = min (pv_N sd 0 24) (pv_N sd 1 24))) {k : Int} (hk : m < k) (H : ∀ j : Int, 1 ≤ j → j < k → ¬ pl_gd sd ch p j) : ∀ j : Int, 1 ≤ j → ¬ pl_gd sd ch p j := fun j hj q => by
  obtain ⟨o1, o2, o3, o4⟩ := q.1
  exact H j hj (by omega) q
theorem pl_nx {sd ch : Nat → Int} {p k : Int} (H : ∀ j : Int, 1 ≤ j → j < k → ¬ pl_gd sd ch p j) (hk : ¬ pl_gd sd ch p k) : ∀ j : Int, 1 ≤ j → j < k + 1 → ¬ pl_gd sd ch p j := fun j hj hjk => by
  rcases (by omega : j < k ∨ j = k) with e | e
  · exact H j hj e
  · rw [e]; exact hk
end
section
/-! draws of the class, exactly -/
set_option maxHeartbeats 4000000 in
theorem cm_326_s {X : List (Nat × List Value)} {d : Nat} {h : pm_H} (hd : 1 ≤ d) (I : pw_I h) (x : Int) (hx1 : 0 ≤ x) (hx2 : x ≤ 16383) : pw X d h 326 0 [some (pw_i x)] [] (fun h' v => h = h' ∧ ∃ a : Int, v = .inl (some (pw_i a)) ∧ 0 ≤ a ∧ a ≤ 14 ∧ (a = (pb_n x.toNat 14 : Int))) := by
  have E : pm_ent 326 = some (1, 1, 15, 0, pmc_326) := rfl
  refine pw_ld E (pc' := 1) (st' := [pw_i x]) rfl (fun _ => rfl) ?_
  refine pw_ld E (pc' := 2) (st' := [pw_i x, pw_i x]) rfl (fun _ => rfl) ?_
  refine pw_ld E (pc' := 3) (st' := [pw_i 1, pw_i x, pw_i x]) rfl (fun _ => rfl) ?_
  refine pw_iiE (f := fun x y => (x.toUInt32 >>> (y.toUInt32 &&& Int32.toUInt32 31)).toInt32) (c := x / 2) E (pc' := 4) rfl (fun _ => rfl) (pb_us1 (by omega) (by omega)) ?_
  refine pw_ldcw (a := 1431655765) E (pc' := 7) rfl rfl rfl (by decide) ?_
  refine pw_iiE (f := fun x y => x &&& y) (c := pb_an (x / 2) 1431655765) E (pc' := 8) rfl (fun _ => rfl) (pb_anE (by omega) (by omega) (by decide) (by decide)) ?_
  have hp1 := pb_anB (a := x / 2) (m := 1431655765) (by omega) (by decide)
  refine pw_sub E (pc' := 9) rfl rfl ?_
  refine pw_istn E (pc' := 10) (ls' := [some (pw_i (x - (pb_an (x / 2) 1431655765)))]) rfl rfl rfl rfl ?_
  refine pw_ld E (pc' := 11) (st' := [pw_i (x - (pb_an (x / 2) 1431655765))]) rfl (fun _ => rfl) ?_
  refine pw_ldcw (a := 858993459) E (pc' := 14) rfl rfl rfl (by decide) ?_
  refine pw_iiE (f := fun x y => x &&& y) (c := pb_an (x - (pb_an (x / 2) 1431655765)) 858993459) E (pc' := 15) rfl (fun _ => rfl) (pb_anE (by omega) (by omega) (by decide) (by decide)) ?_
  have hp2 := pb_anB (a := x - (pb_an (x / 2) 1431655765)) (m := 858993459) (by omega) (by decide)
  refine pw_ld E (pc' := 16) (st' := [pw_i (x - (pb_an (x / 2) 1431655765)), pw_i (pb_an (x - (pb_an (x / 2) 1431655765)) 858993459)]) rfl (fun _ => rfl) ?_
  refine pw_ld E (pc' := 17) (st' := [pw_i 2, pw_i (x - (pb_an (x / 2) 1431655765)), pw_i (pb_an (x - (pb_an (x / 2) 1431655765)) 858993459)]) rfl (fun _ => rfl) ?_
  refine pw_iiE (f := fun x y => (x.toUInt32 >>> (y.toUInt32 &&& Int32.toUInt32 31)).toInt32) (c := (x - (pb_an (x / 2) 1431655765)) / 4) E (pc' := 18) rfl (fun _ => rfl) (pb_us2 (by omega) (by omega)) ?_
  refine pw_ldcw (a := 858993459) E (pc' := 21) rfl rfl rfl (by decide) ?_
  refine pw_iiE (f := fun x y => x &&& y) (c := pb_an ((x - (pb_an (x / 2) 1431655765)) / 4) 858993459) E (pc' := 22) rfl (fun _ => rfl) (pb_anE (by omega) (by omega) (by decide) (by decide)) ?_
  have hp3 := pb_anB (a := (x - (pb_an (x / 2) 1431655765)) / 4) (m := 858993459) (by omega) (by decide)
  refine pw_add E (pc' := 23) rfl rfl ?_
  refine pw_istn E (pc' := 24) (ls' := [some (pw_i ((pb_an (x - (pb_an (x / 2) 1431655765)) 858993459) + (pb_an ((x - (pb_an (x / 2) 1431655765)) / 4) 858993459)))]) rfl rfl rfl rfl ?_
  refine pw_ld E (pc' := 25) (st' := [pw_i ((pb_an (x - (pb_an (x / 2) 1431655765)) 858993459) + (pb_an ((x - (pb_an (x / 2) 1431655765)) / 4) 858993459))]) rfl (fun _ => rfl) ?_
  refine pw_ld E (pc' := 26) (st' := [pw_i ((pb_an (x - (pb_an (x / 2) 1431655765)) 858993459) + (pb_an ((x - (pb_an (x / 2) 1431655765)) / 4) 858993459)), pw_i ((pb_an (x - (pb_an (x / 2) 1431655765)) 858993459) + (pb_an ((x - (pb_an (x / 2) 1431655765)) / 4) 858993459))]) rfl (fun _ => rfl) ?_
  refine pw_ld E (pc' := 27) (st' := [pw_i 4, pw_i ((pb_an (x - (pb_an (x / 2) 1431655765)) 858993459) + (pb_an ((x - (pb_an (x / 2) 1431655765)) / 4) 858993459)), pw_i ((pb_an (x - (pb_an (x / 2) 1431655765)) 858993459) + (pb_an ((x - (pb_an (x / 2) 1431655765)) / 4) 858993459))]) rfl (fun _ => rfl) ?_
  refine pw_iiE (f := fun x y => (x.toUInt32 >>> (y.toUInt32 &&& Int32.toUInt32 31)).toInt32) (c := ((pb_an (x - (pb_an (x / 2) 1431655765)) 858993459) + (pb_an ((x - (pb_an (x / 2) 1431655765)) / 4) 858993459)) / 16) E (pc' := 28) rfl (fun _ => rfl) (pb_us4 (by omega) (by omega)) ?_
  refine pw_add E (pc' := 29) rfl rfl ?_
  refine pw_ldcw (a := 252645135) E (pc' := 32) rfl rfl rfl (by decide) ?_
  refine pw_iiE (f := fun x y => x &&& y) (c := pb_an (((pb_an (x - (pb_an (x / 2) 1431655765)) 858993459) + (pb_an ((x - (pb_an (x / 2) 1431655765)) / 4) 858993459)) + (((pb_an (x - (pb_an (x / 2) 1431655765)) 858993459) + (pb_an ((x - (pb_an (x / 2) 1431655765)) / 4) 858993459)) / 16)) 252645135) E (pc' := 33) rfl (fun _ => rfl) (pb_anE (by omega) (by omega) (by decide) (by decide)) ?_
  have hp4 := pb_anB (a := ((pb_an (x - (pb_an (x / 2) 1431655765)) 858993459) + (pb_an ((x - (pb_an (x / 2) 1431655765)) / 4) 858993459)) + (((pb_an (x - (pb_an (x / 2) 1431655765)) 858993459) + (pb_an ((x - (pb_an (x / 2) 1431655765)) / 4) 858993459)) / 16)) (m := 252645135) (by omega) (by decide)
  refine pw_istn E (pc' := 34) (ls' := [some (pw_i (pb_an (((pb_an (x - (pb_an (x / 2) 1431655765)) 858993459) + (pb_an ((x - (pb_an (x / 2) 1431655765)) / 4) 858993459)) + (((pb_an (x - (pb_an (x / 2) 1431655765)) 858993459) + (pb_an ((x - (pb_an (x / 2) 1431655765)) / 4) 858993459)) / 16)) 252645135))]) rfl rfl rfl rfl ?_
  refine pw_ld E (pc' := 35) (st' := [pw_i (pb_an (((pb_an (x - (pb_an (x / 2) 1431655765)) 858993459) + (pb_an ((x - (pb_an (x / 2) 1431655765)) / 4) 858993459)) + (((pb_an (x - (pb_an (x / 2) 1431655765)) 858993459) + (pb_an ((x - (pb_an (x / 2) 1431655765)) / 4) 858993459)) / 16)) 252645135)]) rfl (fun _ => rfl) ?_
  refine pw_ld E (pc' := 36) (st' := [pw_i (pb_an (((pb_an (x - (pb_an (x / 2) 1431655765)) 858993459) + (pb_an ((x - (pb_an (x / 2) 1431655765)) / 4) 858993459)) + (((pb_an (x - (pb_an (x / 2) 1431655765)) 858993459) + (pb_an ((x - (pb_an (x / 2) 1431655765)) / 4) 858993459)) / 16)) 252645135), pw_i (pb_an (((pb_an (x - (pb_an (x / 2) 1431655765)) 858993459) + (pb_an ((x - (pb_an (x / 2) 1431655765)) / 4) 858993459)) + (((pb_an (x - (pb_an (x / 2) 1431655765)) 858993459) + (pb_an ((x - (pb_an (x / 2) 1431655765)) / 4) 858993459)) / 16)) 252645135)]) rfl (fun _ => rfl) ?_
  refine pw_bip E (pc' := 38) rfl rfl (by decide) ?_
  refine pw_iiE (f := fun x y => (x.toUInt32 >>> (y.toUInt32 &&& Int32.toUInt32 31)).toInt32) (c := (pb_an (((pb_an (x - (pb_an (x / 2) 1431655765)) 858993459) + (pb_an ((x - (pb_an (x / 2) 1431655765)) / 4) 858993459)) + (((pb_an (x - (pb_an (x / 2) 1431655765)) 858993459) + (pb_an ((x - (pb_an (x / 2) 1431655765)) / 4) 858993459)) / 16)) 252645135) / 256) E (pc' := 39) rfl (fun _ => rfl) (pb_us8 (by omega) (by omega)) ?_
  refine pw_add E (pc' := 40) rfl rfl ?_
  refine pw_istn E (pc' := 41) (ls' := [some (pw_i ((pb_an (((pb_an (x - (pb_an (x / 2) 1431655765)) 858993459) + (pb_an ((x - (pb_an (x / 2) 1431655765)) / 4) 858993459)) + (((pb_an (x - (pb_an (x / 2) 1431655765)) 858993459) + (pb_an ((x - (pb_an (x / 2) 1431655765)) / 4) 858993459)) / 16)) 252645135) + ((pb_an (((pb_an (x - (pb_an (x / 2) 1431655765)) 858993459) + (pb_an ((x - (pb_an (x / 2) 1431655765)) / 4) 858993459)) + (((pb_an (x - (pb_an (x / 2) 1431655765)) 858993459) + (pb_an ((x - (pb_an (x / 2) 1431655765)) / 4) 858993459)) / 16)) 252645135) / 256)))]) rfl rfl rfl rfl ?_
  refine pw_ld E (pc' := 42) (st' := [pw_i ((pb_an (((pb_an (x - (pb_an (x / 2) 1431655765)) 858993459) + (pb_an ((x - (pb_an (x / 2) 1431655765)) / 4) 858993459)) + (((pb_an (x - (pb_an (x / 2) 1431655765)) 858993459) + (pb_an ((x - (pb_an (x / 2) 1431655765)) / 4) 858993459)) / 16)) 252645135) + ((pb_an (((pb_an (x - (pb_an (x / 2) 1431655765)) 858993459) + (pb_an ((x - (pb_an (x / 2) 1431655765)) / 4) 858993459)) + (((pb_an (x - (pb_an (x / 2) 1431655765)) 858993459) + (pb_an ((x - (pb_an (x / 2) 1431655765)) / 4) 858993459)) / 16)) 252645135) / 256))]) rfl (fun _ => rfl) ?_
  refine pw_ld E (pc' := 43) (st' := [pw_i ((pb_an (((pb_an (x - (pb_an (x / 2) 1431655765)) 858993459) + (pb_an ((x - (pb_an (x / 2) 1431655765)) / 4) 858993459)) + (((pb_an (x - (pb_an (x / 2) 1431655765)) 858993459) + (pb_an ((x - (pb_an (x / 2) 1431655765)) / 4) 858993459)) / 16)) 252645135) + ((pb_an (((pb_an (x - (pb_an (x / 2) 1431655765)) 858993459) + (pb_an ((x - (pb_an (x / 2) 1431655765)) / 4) 858993459)) + (((pb_an (x - (pb_an (x / 2) 1431655765)) 858993459) + (pb_an ((x - (pb_an (x / 2) 1431655765)) / 4) 858993459)) / 16)) 252645135) / 256)), pw_i ((pb_an (((pb_an (x - (pb_an (x / 2) 1431655765)) 858993459) + (pb_an ((x - (pb_an (x / 2) 1431655765)) / 4) 858993459)) + (((pb_an (x - (pb_an (x / 2) 1431655765)) 858993459) + (pb_an ((x - (pb_an (x / 2) 1431655765)) / 4) 858993459)) / 16)) 252645135) + ((pb_an (((pb_an (x - (pb_an (x / 2) 1431655765)) 858993459) + (pb_an ((x - (pb_an (x / 2) 1431655765)) / 4) 858993459)) + (((pb_an (x - (pb_an (x / 2) 1431655765)) 858993459) + (pb_an ((x - (pb_an (x / 2) 1431655765)) / 4) 858993459)) / 16)) 252645135) / 256))]) rfl (fun _ => rfl) ?_
  refine pw_bip E (pc' := 45) rfl rfl (by decide) ?_
  refine pw_iiE (f := fun x y => (x.toUInt32 >>> (y.toUInt32 &&& Int32.toUInt32 31)).toInt32) (c := ((pb_an (((pb_an (x - (pb_an (x / 2) 1431655765)) 858993459) + (pb_an ((x - (pb_an (x / 2) 1431655765)) / 4) 858993459)) + (((pb_an (x - (pb_an (x / 2) 1431655765)) 858993459) + (pb_an ((x - (pb_an (x / 2) 1431655765)) / 4) 858993459)) / 16)) 252645135) + ((pb_an (((pb_an (x - (pb_an (x / 2) 1431655765)) 858993459) + (pb_an ((x - (pb_an (x / 2) 1431655765)) / 4) 858993459)) + (((pb_an (x - (pb_an (x / 2) 1431655765)) 858993459) + (pb_an ((x - (pb_an (x / 2) 1431655765)) / 4) 858993459)) / 16)) 252645135) / 256)) / 65536) E (pc' := 46) rfl (fun _ => rfl) (pb_us16 (by omega) (by omega)) ?_
  refine pw_add E (pc' := 47) rfl rfl ?_
  refine pw_istn E (pc' := 48) (ls' := [some (pw_i (((pb_an (((pb_an (x - (pb_an (x / 2) 1431655765)) 858993459) + (pb_an ((x - (pb_an (x / 2) 1431655765)) / 4) 858993459)) + (((pb_an (x - (pb_an (x / 2) 1431655765)) 858993459) + (pb_an ((x - (pb_an (x / 2) 1431655765)) / 4) 858993459)) / 16)) 252645135) + ((pb_an (((pb_an (x - (pb_an (x / 2) 1431655765)) 858993459) + (pb_an ((x - (pb_an (x / 2) 1431655765)) / 4) 858993459)) + (((pb_an (x - (pb_an (x / 2) 1431655765)) 858993459) + (pb_an ((x - (pb_an (x / 2) 1431655765)) / 4) 858993459)) / 16)) 252645135) / 256)) + (((pb_an (((pb_an (x - (pb_an (x / 2) 1431655765)) 858993459) + (pb_an ((x - (pb_an (x / 2) 1431655765)) / 4) 858993459)) + (((pb_an (x - (pb_an (x / 2) 1431655765)) 858993459) + (pb_an ((x - (pb_an (x / 2) 1431655765)) / 4) 858993459)) / 16)) 252645135) + ((pb_an (((pb_an (x - (pb_an (x / 2) 1431655765)) 858993459) + (pb_an ((x - (pb_an (x / 2) 1431655765)) / 4) 858993459)) + (((pb_an (x - (pb_an (x / 2) 1431655765)) 858993459) + (pb_an ((x - (pb_an (x / 2) 1431655765)) / 4) 858993459)) / 16)) 252645135) / 256)) / 65536)))]) rfl rfl rfl rfl ?_
  refine pw_ld E (pc' := 49) (st' := [pw_i (((pb_an (((pb_an (x - (pb_an (x / 2) 1431655765)) 858993459) + (pb_an ((x - (pb_an (x / 2) 1431655765)) / 4) 858993459)) + (((pb_an (x - (pb_an (x / 2) 1431655765)) 858993459) + (pb_an ((x - (pb_an (x / 2) 1431655765)) / 4) 858993459)) / 16)) 252645135) + ((pb_an (((pb_an (x - (pb_an (x / 2) 1431655765)) 858993459) + (pb_an ((x - (pb_an (x / 2) 1431655765)) / 4) 858993459)) + (((pb_an (x - (pb_an (x / 2) 1431655765)) 858993459) + (pb_an ((x - (pb_an (x / 2) 1431655765)) / 4) 858993459)) / 16)) 252645135) / 256)) + (((pb_an (((pb_an (x - (pb_an (x / 2) 1431655765)) 858993459) + (pb_an ((x - (pb_an (x / 2) 1431655765)) / 4) 858993459)) + (((pb_an (x - (pb_an (x / 2) 1431655765)) 858993459) + (pb_an ((x - (pb_an (x / 2) 1431655765)) / 4) 858993459)) / 16)) 252645135) + ((pb_an (((pb_an (x - (pb_an (x / 2) 1431655765)) 858993459) + (pb_an ((x - (pb_an (x / 2) 1431655765)) / 4) 858993459)) + (((pb_an (x - (pb_an (x / 2) 1431655765)) 858993459) + (pb_an ((x - (pb_an (x / 2) 1431655765)) / 4) 858993459)) / 16)) 252645135) / 256)) / 65536))]) rfl (fun _ => rfl) ?_
  refine pw_bip E (pc' := 51) rfl rfl (by decide) ?_
  refine pw_iiE (f := fun x y => x &&& y) (c := pb_an (((pb_an (((pb_an (x - (pb_an (x / 2) 1431655765)) 858993459) + (pb_an ((x - (pb_an (x / 2) 1431655765)) / 4) 858993459)) + (((pb_an (x - (pb_an (x / 2) 1431655765)) 858993459) + (pb_an ((x - (pb_an (x / 2) 1431655765)) / 4) 858993459)) / 16)) 252645135) + ((pb_an (((pb_an (x - (pb_an (x / 2) 1431655765)) 858993459) + (pb_an ((x - (pb_an (x / 2) 1431655765)) / 4) 858993459)) + (((pb_an (x - (pb_an (x / 2) 1431655765)) 858993459) + (pb_an ((x - (pb_an (x / 2) 1431655765)) / 4) 858993459)) / 16)) 252645135) / 256)) + (((pb_an (((pb_an (x - (pb_an (x / 2) 1431655765)) 858993459) + (pb_an ((x - (pb_an (x / 2) 1431655765)) / 4) 858993459)) + (((pb_an (x - (pb_an (x / 2) 1431655765)) 858993459) + (pb_an ((x - (pb_an (x / 2) 1431655765)) / 4) 858993459)) / 16)) 252645135) + ((pb_an (((pb_an (x - (pb_an (x / 2) 1431655765)) 858993459) + (pb_an ((x - (pb_an (x / 2) 1431655765)) / 4) 858993459)) + (((pb_an (x - (pb_an (x / 2) 1431655765)) 858993459) + (pb_an ((x - (pb_an (x / 2) 1431655765)) / 4) 858993459)) / 16)) 252645135) / 256)) / 65536)) 63) E (pc' := 52) rfl (fun _ => rfl) (pb_anE (by omega) (by omega) (by decide) (by decide)) ?_
  have hp5 := pb_anB (a := ((pb_an (((pb_an (x - (pb_an (x / 2) 1431655765)) 858993459) + (pb_an ((x - (pb_an (x / 2) 1431655765)) / 4) 858993459)) + (((pb_an (x - (pb_an (x / 2) 1431655765)) 858993459) + (pb_an ((x - (pb_an (x / 2) 1431655765)) / 4) 858993459)) / 16)) 252645135) + ((pb_an (((pb_an (x - (pb_an (x / 2) 1431655765)) 858993459) + (pb_an ((x - (pb_an (x / 2) 1431655765)) / 4) 858993459)) + (((pb_an (x - (pb_an (x / 2) 1431655765)) 858993459) + (pb_an ((x - (pb_an (x / 2) 1431655765)) / 4) 858993459)) / 16)) 252645135) / 256)) + (((pb_an (((pb_an (x - (pb_an (x / 2) 1431655765)) 858993459) + (pb_an ((x - (pb_an (x / 2) 1431655765)) / 4) 858993459)) + (((pb_an (x - (pb_an (x / 2) 1431655765)) 858993459) + (pb_an ((x - (pb_an (x / 2) 1431655765)) / 4) 858993459)) / 16)) 252645135) + ((pb_an (((pb_an (x - (pb_an (x / 2) 1431655765)) 858993459) + (pb_an ((x - (pb_an (x / 2) 1431655765)) / 4) 858993459)) + (((pb_an (x - (pb_an (x / 2) 1431655765)) 858993459) + (pb_an ((x - (pb_an (x / 2) 1431655765)) / 4) 858993459)) / 16)) 252645135) / 256)) / 65536)) (m := 63) (by omega) (by decide)
  refine pw_iret E rfl ?_
  have hbc : pb_an (((pb_an (((pb_an (x - (pb_an (x / 2) 1431655765)) 858993459) + (pb_an ((x - (pb_an (x / 2) 1431655765)) / 4) 858993459)) + (((pb_an (x - (pb_an (x / 2) 1431655765)) 858993459) + (pb_an ((x - (pb_an (x / 2) 1431655765)) / 4) 858993459)) / 16)) 252645135) + ((pb_an (((pb_an (x - (pb_an (x / 2) 1431655765)) 858993459) + (pb_an ((x - (pb_an (x / 2) 1431655765)) / 4) 858993459)) + (((pb_an (x - (pb_an (x / 2) 1431655765)) 858993459) + (pb_an ((x - (pb_an (x / 2) 1431655765)) / 4) 858993459)) / 16)) 252645135) / 256)) + (((pb_an (((pb_an (x - (pb_an (x / 2) 1431655765)) 858993459) + (pb_an ((x - (pb_an (x / 2) 1431655765)) / 4) 858993459)) + (((pb_an (x - (pb_an (x / 2) 1431655765)) 858993459) + (pb_an ((x - (pb_an (x / 2) 1431655765)) / 4) 858993459)) / 16)) 252645135) + ((pb_an (((pb_an (x - (pb_an (x / 2) 1431655765)) 858993459) + (pb_an ((x - (pb_an (x / 2) 1431655765)) / 4) 858993459)) + (((pb_an (x - (pb_an (x / 2) 1431655765)) 858993459) + (pb_an ((x - (pb_an (x / 2) 1431655765)) / 4) 858993459)) / 16)) 252645135) / 256)) / 65536)) 63 = (pb_n x.toNat 14 : Int) := pb_bcE hx1 hx2
  have hb14 := pb_nB x.toNat 14
  exact ⟨rfl, ⟨_, rfl, by omega, by omega, hbc⟩⟩
set_option maxHeartbeats 4000000 in
theorem cm_89_s {X : List (Nat × List Value)} {d : Nat} {h : pm_H} (hd : 1 ≤ d) (I : pw_I h) (mb : Int) (hmb1 : 0 ≤ mb) (hmb2 : mb ≤ 16383) (hp0 : ∀ j : Nat, pb_b mb.toNat j = 1 → -2000 ≤ pw_g h 19 j ∧ pw_g h 19 j ≤ 2000) : pw X d h 89 0 [some (.ref 32), some (pw_i mb), none, none] [] (fun h' v => h = h' ∧ ∃ a : Int, v = .inl (some (pw_i a)) ∧ (-28000) ≤ a ∧ a ≤ 28000 ∧ (a = pb_S (pw_g h 19) mb.toNat 14)) := by
  have E : pm_ent 89 = some (2, 4, 8, 0, pmc_89) := rfl
  refine pw_ld E (pc' := 1) (st' := [pw_i 0]) rfl (fun _ => rfl) ?_
  refine pw_istn E (pc' := 2) (ls' := [some (.ref 32), some (pw_i mb), some (pw_i 0), none]) rfl rfl rfl rfl ?_
  refine pw_ld E (pc' := 3) (st' := [pw_i 0]) rfl (fun _ => rfl) ?_
  refine pw_istn E (pc' := 4) (ls' := [some (.ref 32), some (pw_i mb), some (pw_i 0), some (pw_i 0)]) rfl rfl rfl rfl ?_
  have L4 : ∀ (n4 : Nat) (k4_2 : Int) (k4_3 : Int), (-28000) ≤ k4_2 → k4_2 ≤ 28000 → 0 ≤ k4_3 → k4_3 ≤ 14 → k4_2 = pb_S (pw_g h 19) mb.toNat (k4_3).toNat → (-2000) * k4_3 ≤ k4_2 → k4_2 ≤ 2000 * k4_3 → (14 - k4_3).toNat = n4 → pw X d h 89 4 [some (.ref 32), some (pw_i mb), some (pw_i k4_2), some (pw_i k4_3)] [] (fun h' v => h = h' ∧ ∃ a : Int, v = .inl (some (pw_i a)) ∧ (-28000) ≤ a ∧ a ≤ 28000 ∧ (a = pb_S (pw_g h 19) mb.toNat 14)) := by
    intro n4
    induction n4 using Nat.strongRecOn with
    | ind n4 ih4 =>
      intro k4_2 k4_3 k4_2a k4_2b k4_3a k4_3b hx4_0 hx4_1 hx4_2 hm4
      refine pw_ld E (pc' := 5) (st' := [pw_i k4_3]) rfl (fun _ => rfl) ?_
      refine pw_bip E (pc' := 7) rfl rfl (by decide) ?_
      refine pw_if2 E (pc' := 37) rfl (by decide) (by omega) (by omega) (by decide) (by decide) ?_ ?_
      · intro hc1
        change (14 : Int) ≤ k4_3 at hc1
        rw [show (k4_3).toNat = 14 by omega] at hx4_0
        refine pw_ld E (pc' := 38) (st' := [pw_i k4_2]) rfl (fun _ => rfl) ?_
        refine pw_iret E rfl ?_
        exact ⟨rfl, ⟨_, rfl, by omega, by omega, by omega⟩⟩
      · intro hc2
        change ¬ ((14 : Int) ≤ k4_3) at hc2
        have o1 := pb_SS (r := pw_g h 19) (s := mb.toNat) (k := k4_3) (by omega)
        have hbit := pb_bit (s := mb) (k := k4_3) (by omega) (by omega) (by omega) (by omega)
        have hb2 := pb_b2 (mb).toNat (k4_3).toNat
        refine pw_ld E (pc' := 11) (st' := [pw_i k4_2]) rfl (fun _ => rfl) ?_
        refine pw_ld E (pc' := 12) (st' := [pw_i mb, pw_i k4_2]) rfl (fun _ => rfl) ?_
        refine pw_ld E (pc' := 13) (st' := [pw_i k4_3, pw_i mb, pw_i k4_2]) rfl (fun _ => rfl) ?_
        refine pw_iiE (f := fun x y => x >>> (y &&& 31)) (c := pw_sr mb k4_3) E (pc' := 14) rfl (fun _ => rfl) rfl ?_
        have hp3 := pw_sr_r mb k4_3
        refine pw_ld E (pc' := 15) (st' := [pw_i 1, pw_i (pw_sr mb k4_3), pw_i k4_2]) rfl (fun _ => rfl) ?_
        refine pw_iiE (f := fun x y => x &&& y) (c := pw_an (pw_sr mb k4_3) 1) E (pc' := 16) rfl (fun _ => rfl) rfl ?_
        have hp4 := pw_an_r (pw_sr mb k4_3)
        refine pw_if E (pc' := 28) rfl (by decide) (by omega) (by omega) ?_ ?_
        · intro hc5
          change pw_an (pw_sr mb k4_3) 1 = (0 : Int) at hc5
          refine pw_ld E (pc' := 29) (st' := [pw_i 0, pw_i k4_2]) rfl (fun _ => rfl) ?_
          refine pw_add E (pc' := 30) rfl rfl ?_
          refine pw_istn E (pc' := 31) (ls' := [some (.ref 32), some (pw_i mb), some (pw_i (k4_2 + 0)), some (pw_i k4_3)]) rfl rfl rfl rfl ?_
          refine pw_inc E (pc' := 34) (ls' := [some (.ref 32), some (pw_i mb), some (pw_i (k4_2 + 0)), some (pw_i (k4_3 + 1))]) rfl rfl rfl rfl ?_
          refine pw_goto E (pc' := 4) rfl (by decide) ?_
          exact ih4 _ (by omega) (k4_2 + 0) (k4_3 + 1)  (by omega) (by omega) (by omega) (by omega) (by omega) (by omega) (by omega) rfl
        · intro hc6
          change ¬ (pw_an (pw_sr mb k4_3) 1 = (0 : Int)) at hc6
          refine pw_ld E (pc' := 20) (st' := [.ref 32, pw_i k4_2]) rfl (fun _ => rfl) ?_
          refine pw_getR (b := 35) I E (c := 16) (k := 2) (pc' := 23) rfl rfl rfl rfl rfl rfl rfl ?_
          refine pw_ld E (pc' := 24) (st' := [pw_i k4_3, .ref 35, pw_i k4_2]) rfl (fun _ => rfl) ?_
          refine pw_ald2 I E (c := 19) (pc' := 25) rfl rfl rfl (by decide) rfl (by decide) (by omega) (by omega) rfl (fun hf7a hf7b => ?_)
          have o2 := hp0 (k4_3).toNat (by omega)
          refine pw_goto E (pc' := 29) rfl (by decide) ?_
          refine pw_add E (pc' := 30) rfl rfl ?_
          refine pw_istn E (pc' := 31) (ls' := [some (.ref 32), some (pw_i mb), some (pw_i (k4_2 + (pw_g h 19 (k4_3.toNat)))), some (pw_i k4_3)]) rfl rfl rfl rfl ?_
          refine pw_inc E (pc' := 34) (ls' := [some (.ref 32), some (pw_i mb), some (pw_i (k4_2 + (pw_g h 19 (k4_3.toNat)))), some (pw_i (k4_3 + 1))]) rfl rfl rfl rfl ?_
          refine pw_goto E (pc' := 4) rfl (by decide) ?_
          exact ih4 _ (by omega) (k4_2 + (pw_g h 19 (k4_3.toNat))) (k4_3 + 1)  (by omega) (by omega) (by omega) (by omega) (by omega) (by omega) (by omega) rfl
  exact L4 _ (0) (0)  (by omega) (by omega) (by omega) (by omega) rfl (by omega) (by omega) rfl
set_option maxHeartbeats 4000000 in
theorem cm_92_s {X : List (Nat × List Value)} {d : Nat} {h : pm_H} (hd : 1 ≤ d) (I : pw_I h) (sd : Int) (hsd1 : 0 ≤ sd) (hsd2 : sd ≤ 1) : pw X d h 92 0 [some (.ref 32), some (pw_i sd), none, none] [] (fun h' v => pw_I h' ∧ pw_E [19] h h' ∧ (pc_GA (pw_g h 17) (pw_g h 18) sd (pw_g h' 19) 24) ∧ (∃ a : Int, v = .inl (some (pw_i a)) ∧ 0 ≤ a ∧ a ≤ 24 ∧ (a = pv_N (pw_g h 17) sd 24))) := by
  have E : pm_ent 92 = some (2, 4, 8, 0, pmc_92) := rfl
  have E0 : pw_E [19] h h := pw_E.rf _ _
  refine pw_ld E (pc' := 1) (st' := [pw_i 0]) rfl (fun _ => rfl) ?_
  refine pw_istn E (pc' := 2) (ls' := [some (.ref 32), some (pw_i sd), some (pw_i 0), none]) rfl rfl rfl rfl ?_
  refine pw_ld E (pc' := 3) (st' := [pw_i 0]) rfl (fun _ => rfl) ?_
  refine pw_istn E (pc' := 4) (ls' := [some (.ref 32), some (pw_i sd), some (pw_i 0), some (pw_i 0)]) rfl rfl rfl rfl ?_
  have L4 : ∀ (n4 : Nat) (k4_2 : Int) (k4_3 : Int) (gh4 : pm_H), pw_I gh4 → pw_E [19] h gh4 → 0 ≤ k4_2 → k4_2 ≤ 24 → 0 ≤ k4_3 → k4_3 ≤ 24 → k4_2 ≤ k4_3 → k4_2 = pv_N (pw_g h 17) sd (k4_3).toNat → pc_GA (pw_g h 17) (pw_g h 18) sd (pw_g gh4 19) k4_3 → (24 - k4_3).toNat = n4 → pw X d gh4 92 4 [some (.ref 32), some (pw_i sd), some (pw_i k4_2), some (pw_i k4_3)] [] (fun h' v => pw_I h' ∧ pw_E [19] h h' ∧ (pc_GA (pw_g h 17) (pw_g h 18) sd (pw_g h' 19) 24) ∧ (∃ a : Int, v = .inl (some (pw_i a)) ∧ 0 ≤ a ∧ a ≤ 24 ∧ (a = pv_N (pw_g h 17) sd 24))) := by
    intro n4
    induction n4 using Nat.strongRecOn with
    | ind n4 ih4 =>
      intro k4_2 k4_3 gh4 I4 E4 k4_2a k4_2b k4_3a k4_3b hx4_0 hx4_1 hx4_2 hm4
      refine pw_ld E (pc' := 5) (st' := [pw_i k4_3]) rfl (fun _ => rfl) ?_
      refine pw_bip E (pc' := 7) rfl rfl (by decide) ?_
      refine pw_if2 E (pc' := 41) rfl (by decide) (by omega) (by omega) (by decide) (by decide) ?_ ?_
      · intro hc1
        change (24 : Int) ≤ k4_3 at hc1
        rw [show (k4_3).toNat = 24 by omega] at hx4_1
        refine pw_ld E (pc' := 42) (st' := [pw_i k4_2]) rfl (fun _ => rfl) ?_
        refine pw_iret E rfl ?_
        exact ⟨I4, E4, ⟨(by rw [show (24 : Int) = k4_3 by omega]; exact hx4_2), ⟨_, rfl, by omega, by omega, by omega⟩⟩⟩
      · intro hc2
        change ¬ ((24 : Int) ≤ k4_3) at hc2
        have o1 := pv_Ns (sd := pw_g h 17) (s := sd) (k := k4_3) (by omega)
        have q7 : pw_g gh4 17 (k4_3).toNat = pw_g h 17 (k4_3).toNat := pw_Eg (c := 17) I E4 rfl rfl _
        have q8 : pw_g h 18 (k4_3).toNat = pw_g gh4 18 (k4_3).toNat := (pw_Eg (c := 18) I E4 rfl rfl _).symm
        refine pw_ld E (pc' := 11) (st' := [.ref 32]) rfl (fun _ => rfl) ?_
        refine pw_getR (b := 33) I4 E (c := 16) (k := 0) (pc' := 14) rfl rfl rfl rfl rfl rfl rfl ?_
        refine pw_ld E (pc' := 15) (st' := [pw_i k4_3, .ref 33]) rfl (fun _ => rfl) ?_
        refine pw_ald2 I4 E (c := 17) (pc' := 16) rfl rfl rfl (by decide) rfl (by decide) (by omega) (by omega) rfl (fun hf3a hf3b => ?_)
        refine pw_ld E (pc' := 17) (st' := [pw_i sd, pw_i (pw_g gh4 17 (k4_3.toNat))]) rfl (fun _ => rfl) ?_
        refine pw_if2 E (pc' := 35) rfl (by decide) (by omega) (by omega) (by omega) (by omega) ?_ ?_
        · intro hc4
          change pw_g gh4 17 (k4_3.toNat) ≠ sd at hc4
          refine pw_inc E (pc' := 38) (ls' := [some (.ref 32), some (pw_i sd), some (pw_i k4_2), some (pw_i (k4_3 + 1))]) rfl rfl rfl rfl ?_
          refine pw_goto E (pc' := 4) rfl (by decide) ?_
          exact ih4 _ (by omega) (k4_2) (k4_3 + 1) gh4 I4 E4 (by omega) (by omega) (by omega) (by omega) (by omega) (by omega) (by first | exact pc_GA.yes hx4_2 (by omega) (by omega) hx4_1 (by omega) (q8.symm) (by omega) (by omega) I4 (by assumption) | exact pc_GA.no hx4_2 (by omega) (by omega)) rfl
        · intro hc5
          change ¬ (pw_g gh4 17 (k4_3.toNat) ≠ sd) at hc5
          refine pw_ld E (pc' := 21) (st' := [.ref 32]) rfl (fun _ => rfl) ?_
          refine pw_getR (b := 35) I4 E (c := 16) (k := 2) (pc' := 24) rfl rfl rfl rfl rfl rfl rfl ?_
          refine pw_ld E (pc' := 25) (st' := [pw_i k4_2, .ref 35]) rfl (fun _ => rfl) ?_
          refine pw_ld E (pc' := 26) (st' := [.ref 32, pw_i k4_2, .ref 35]) rfl (fun _ => rfl) ?_
          refine pw_getR (b := 34) I4 E (c := 16) (k := 1) (pc' := 29) rfl rfl rfl rfl rfl rfl rfl ?_
          refine pw_ld E (pc' := 30) (st' := [pw_i k4_3, .ref 34, pw_i k4_2, .ref 35]) rfl (fun _ => rfl) ?_
          refine pw_ald2 I4 E (c := 18) (pc' := 31) rfl rfl rfl (by decide) rfl (by decide) (by omega) (by omega) rfl (fun hf6a hf6b => ?_)
          refine pw_ast0 I4 E (c := 19) (pc' := 32) rfl rfl rfl (by decide) rfl (by decide) (by omega) (by omega) rfl (by omega) (by omega) (by omega) (by omega) rfl ?_
          intro h7I h7E
          generalize h7w : pw_w gh4 19 (k4_2.toNat) (pw_i (pw_g gh4 18 (k4_3.toNat))) = h7 at h7I h7E ⊢
          have h7F := E4.tr (h7E.wk (W' := [19]) (by first | rfl | simp))
          refine pw_inc E (pc' := 35) (ls' := [some (.ref 32), some (pw_i sd), some (pw_i (k4_2 + 1)), some (pw_i k4_3)]) rfl rfl rfl rfl ?_
          refine pw_inc E (pc' := 38) (ls' := [some (.ref 32), some (pw_i sd), some (pw_i (k4_2 + 1)), some (pw_i (k4_3 + 1))]) rfl rfl rfl rfl ?_
          refine pw_goto E (pc' := 4) rfl (by decide) ?_
          exact ih4 _ (by omega) (k4_2 + 1) (k4_3 + 1) h7 h7I h7F (by omega) (by omega) (by omega) (by omega) (by omega) (by omega) (by first | exact pc_GA.yes hx4_2 (by omega) (by omega) hx4_1 (by omega) (q8.symm) (by omega) (by omega) I4 (by assumption) | exact pc_GA.no hx4_2 (by omega) (by omega)) rfl
  exact L4 _ (0) (0) h I E0 (by omega) (by omega) (by omega) (by omega) (by omega) rfl pc_GA.z rfl
set_option maxHeartbeats 4000000 in
theorem cm_327_s {X : List (Nat × List Value)} {d : Nat} {h : pm_H} (hd : 1 ≤ d) (I : pw_I h) (x : Int) (hx1 : (-2147483648) ≤ x) (hx2 : x ≤ 2147483647) (y : Int) (hy1 : (-2147483648) ≤ y) (hy2 : y ≤ 2147483647) : pw X d h 327 0 [some (pw_i x), some (pw_i y)] [] (fun h' v => h = h' ∧ ∃ a : Int, v = .inl (some (pw_i a)) ∧ (-1) ≤ a ∧ a ≤ 1 ∧ (a = pl_sg (x - y))) := by
  have E : pm_ent 327 = some (2, 2, 15, 0, pmc_327) := rfl
  refine pw_ld E (pc' := 1) (st' := [pw_i x]) rfl (fun _ => rfl) ?_
  refine pw_ld E (pc' := 2) (st' := [pw_i y, pw_i x]) rfl (fun _ => rfl) ?_
  refine pw_if2 E (pc' := 9) rfl (by decide) (by omega) (by omega) (by omega) (by omega) ?_ ?_
  · intro hc1
    change y ≤ x at hc1
    refine pw_ld E (pc' := 10) (st' := [pw_i x]) rfl (fun _ => rfl) ?_
    refine pw_ld E (pc' := 11) (st' := [pw_i y, pw_i x]) rfl (fun _ => rfl) ?_
    refine pw_if2 E (pc' := 18) rfl (by decide) (by omega) (by omega) (by omega) (by omega) ?_ ?_
    · intro hc2
      change x ≠ y at hc2
      refine pw_ld E (pc' := 19) (st' := [pw_i 1]) rfl (fun _ => rfl) ?_
      refine pw_iret E rfl ?_
      have sI := pl_sgI (x := x - y)
      exact ⟨rfl, ⟨_, rfl, by omega, by omega, (sI.2.1 (by omega)).symm⟩⟩
    · intro hc3
      change ¬ (x ≠ y) at hc3
      refine pw_ld E (pc' := 15) (st' := [pw_i 0]) rfl (fun _ => rfl) ?_
      refine pw_goto E (pc' := 19) rfl (by decide) ?_
      refine pw_iret E rfl ?_
      have sI := pl_sgI (x := x - y)
      exact ⟨rfl, ⟨_, rfl, by omega, by omega, (sI.2.2 (by omega)).symm⟩⟩
  · intro hc4
    change ¬ (y ≤ x) at hc4
    refine pw_ld E (pc' := 6) (st' := [pw_i ((-1))]) rfl (fun _ => rfl) ?_
    refine pw_goto E (pc' := 19) rfl (by decide) ?_
    refine pw_iret E rfl ?_
    have sI := pl_sgI (x := x - y)
    exact ⟨rfl, ⟨_, rfl, by omega, by omega, (sI.1 (by omega)).symm⟩⟩
set_option maxHeartbeats 4000000 in
theorem cm_328_s {X : List (Nat × List Value)} {d : Nat} {h : pm_H} (hd : 1 ≤ d) (I : pw_I h) (x : Int) (hx1 : (-1099511627776) ≤ x) (hx2 : x ≤ 1099511627776) (y : Int) (hy1 : (-1099511627776) ≤ y) (hy2 : y ≤ 1099511627776) : pw X d h 328 0 [some (.long (Int64.ofInt x)), none, some (.long (Int64.ofInt y)), none] [] (fun h' v => h = h' ∧ ∃ a : Int, v = .inl (some (pw_i a)) ∧ (-1) ≤ a ∧ a ≤ 1 ∧ (a = pl_sg (x - y))) := by
  have E : pm_ent 328 = some (2, 4, 16, 0, pmc_328) := rfl
  refine pw_ld E (pc' := 1) (st' := [.long (Int64.ofInt x)]) rfl (fun _ => rfl) ?_
  refine pw_ld E (pc' := 2) (st' := [.long (Int64.ofInt y), .long (Int64.ofInt x)]) rfl (fun _ => rfl) ?_
  refine pw_lcmpC E (pc' := 3) rfl rfl (by omega) (by omega) (by omega) (by omega) (fun c1 hc1 => ?_)
  refine pw_if E (pc' := 10) rfl (by decide) (by omega) (by omega) ?_ ?_
  · intro hc2
    change (0 : Int) ≤ c1 at hc2
    refine pw_ld E (pc' := 11) (st' := [.long (Int64.ofInt x)]) rfl (fun _ => rfl) ?_
    refine pw_ld E (pc' := 12) (st' := [.long (Int64.ofInt y), .long (Int64.ofInt x)]) rfl (fun _ => rfl) ?_
    refine pw_lcmpC E (pc' := 13) rfl rfl (by omega) (by omega) (by omega) (by omega) (fun c3 hc3 => ?_)
    refine pw_if E (pc' := 20) rfl (by decide) (by omega) (by omega) ?_ ?_
    · intro hc4
      change c3 ≠ (0 : Int) at hc4
      refine pw_ld E (pc' := 21) (st' := [pw_i 1]) rfl (fun _ => rfl) ?_
      refine pw_iret E rfl ?_
      have sI := pl_sgI (x := x - y)
      exact ⟨rfl, ⟨_, rfl, by omega, by omega, (sI.2.1 (by omega)).symm⟩⟩
    · intro hc5
      change ¬ (c3 ≠ (0 : Int)) at hc5
      refine pw_ld E (pc' := 17) (st' := [pw_i 0]) rfl (fun _ => rfl) ?_
      refine pw_goto E (pc' := 21) rfl (by decide) ?_
      refine pw_iret E rfl ?_
      have sI := pl_sgI (x := x - y)
      exact ⟨rfl, ⟨_, rfl, by omega, by omega, (sI.2.2 (by omega)).symm⟩⟩
  · intro hc6
    change ¬ ((0 : Int) ≤ c1) at hc6
    refine pw_ld E (pc' := 7) (st' := [pw_i ((-1))]) rfl (fun _ => rfl) ?_
    refine pw_goto E (pc' := 21) rfl (by decide) ?_
    refine pw_iret E rfl ?_
    have sI := pl_sgI (x := x - y)
    exact ⟨rfl, ⟨_, rfl, by omega, by omega, (sI.1 (by omega)).symm⟩⟩
set_option maxHeartbeats 4000000 in
theorem cm_91_20s {X : List (Nat × List Value)} {d : Nat} {h : pm_H} (hd : 2 ≤ d) (I : pw_I h) (sd : Int) (hsd1 : 0 ≤ sd) (hsd2 : sd ≤ 1) (k0 : Int) (hk01 : 1 ≤ k0) (hk02 : k0 ≤ 9) (hp0 : pv_Bd h) (hp1 : pv_N (pw_g h 17) sd 24 ≤ 9) : pw X d h 91 0 [some (.ref 32), some (pw_i sd), some (pw_i k0), some (.ref 36), none, none, none] [] (fun h' v => pw_I h' ∧ pw_E [19, 20] h h' ∧ (pl_A (pl_T (pw_g h 17) (pw_g h 18) sd) k0 14 (pw_g h' 20) (pw_p2 (pv_N (pw_g h 17) sd 24))) ∧ (∃ a : Int, v = .inl (some (pw_i a)) ∧ 0 ≤ a ∧ a ≤ 512 ∧ (a = po_W k0 14 (2 ^ (pv_N (pw_g h 17) sd 24).toNat)))) := by
  have E : pm_ent 91 = some (4, 7, 8, 0, pmc_91) := rfl
  have E0 : pw_E [19, 20] h h := pw_E.rf _ _
  refine pw_ld E (pc' := 1) (st' := [.ref 32]) rfl (fun _ => rfl) ?_
  refine pw_ld E (pc' := 2) (st' := [pw_i sd, .ref 32]) rfl (fun _ => rfl) ?_
  obtain ⟨f1l, f1h, -⟩ := pw_obj (c := 16) I rfl
  refine pw_call (m' := 92) (As := [.ref 32, pw_i sd]) (rest := []) (ls'' := [some (.ref 32), some (pw_i sd), none, none]) (Nat.le_trans (by decide) hd) E rfl (fun _ => pw_iV rfl rfl rfl rfl (pw_cellI f1h rfl)) (rfl : pm_ent 92 = some (2, 4, 8, 0, pmc_92)) rfl rfl (cm_92_s (pw_dp hd (by decide)) I (sd) (by omega) (by omega)) ?_
  rintro h2 v3 ⟨h2I, h2E, hqga, x4, rfl, hx4a, hx4b, hx4r⟩
  refine ⟨_, rfl, ?_⟩
  have h2F := E0.tr (h2E.wk (W' := [19, 20]) (by first | rfl | simp))
  show pw X d h2 91 5 [some (.ref 32), some (pw_i sd), some (pw_i k0), some (.ref 36), none, none, none] [pw_i x4] _
  change x4 = pv_N (pw_g h 17) sd 24 at hx4r
  have hH2 : ∀ j : Nat, (j : Int) < pv_N (pw_g h 17) sd 24 → pw_g h2 19 j = pc_G (pw_g h 17) (pw_g h 18) sd 24 j := hqga.row
  have hRB := pc_GA.rowB hqga (fun k hk hs => hp0 k hk (by omega))
  refine pw_bip E (pc' := 7) rfl rfl (by decide) ?_
  refine pw_min E rfl rfl (by omega) (by omega) (by decide) (by decide) rfl ?_
  have hmn : min x4 9 = pv_N (pw_g h 17) sd 24 := by omega
  have hpm : pw_p2 (min x4 9) = pw_p2 (pv_N (pw_g h 17) sd 24) := by rw [hmn]
  have hn0 := pv_NB (sd := pw_g h 17) (s := sd) 24
  have hp9 := pw_p2_le (a := pv_N (pw_g h 17) sd 24) (b := 9) (by omega)
  have e9 : pw_p2 9 = 512 := rfl
  have hp1 := pw_p2_r (a := pv_N (pw_g h 17) sd 24) (by omega) (by omega)
  refine pw_ist E (pc' := 12) (ls' := [some (.ref 32), some (pw_i sd), some (pw_i k0), some (.ref 36), some (pw_i (min x4 9)), none, none]) rfl rfl rfl rfl ?_
  refine pw_ld E (pc' := 13) (st' := [pw_i 0]) rfl (fun _ => rfl) ?_
  refine pw_ist E (pc' := 15) (ls' := [some (.ref 32), some (pw_i sd), some (pw_i k0), some (.ref 36), some (pw_i (min x4 9)), some (pw_i 0), none]) rfl rfl rfl rfl ?_
  refine pw_ld E (pc' := 16) (st' := [pw_i 0]) rfl (fun _ => rfl) ?_
  refine pw_ist E (pc' := 18) (ls' := [some (.ref 32), some (pw_i sd), some (pw_i k0), some (.ref 36), some (pw_i (min x4 9)), some (pw_i 0), some (pw_i 0)]) rfl rfl rfl rfl ?_
  have L18 : ∀ (n18 : Nat) (k18_5 : Int) (k18_6 : Int) (gh18 : pm_H), pw_I gh18 → pw_E [19, 20] h gh18 → 0 ≤ k18_5 → k18_5 ≤ 512 → 0 ≤ k18_6 → k18_6 ≤ 512 → k18_5 ≤ k18_6 → k18_5 = po_W k0 14 (k18_6).toNat → pl_A (pl_T (pw_g h 17) (pw_g h 18) sd) k0 14 (pw_g gh18 20) k18_6 → k18_6 ≤ pw_p2 (pv_N (pw_g h 17) sd 24) → 0 ≤ k18_6 → (∀ j : Nat, (j : Int) < pv_N (pw_g h 17) sd 24 → pw_g gh18 19 j = pc_G (pw_g h 17) (pw_g h 18) sd 24 j) → (512 - k18_6).toNat = n18 → pw X d gh18 91 18 [some (.ref 32), some (pw_i sd), some (pw_i k0), some (.ref 36), some (pw_i (min x4 9)), some (pw_i k18_5), some (pw_i k18_6)] [] (fun h' v => pw_I h' ∧ pw_E [19, 20] h h' ∧ (pl_A (pl_T (pw_g h 17) (pw_g h 18) sd) k0 14 (pw_g h' 20) (pw_p2 (pv_N (pw_g h 17) sd 24))) ∧ (∃ a : Int, v = .inl (some (pw_i a)) ∧ 0 ≤ a ∧ a ≤ 512 ∧ (a = po_W k0 14 (2 ^ (pv_N (pw_g h 17) sd 24).toNat)))) := by
    intro n18
    induction n18 using Nat.strongRecOn with
    | ind n18 ih18 =>
      intro k18_5 k18_6 gh18 I18 E18 k18_5a k18_5b k18_6a k18_6b hx18_0 hx18_1 hx18_2 hx18_3 hx18_4 hx18_5 hm18
      refine pw_ld E (pc' := 20) (st' := [pw_i k18_6]) rfl (fun _ => rfl) ?_
      refine pw_ld E (pc' := 21) (st' := [pw_i 1, pw_i k18_6]) rfl (fun _ => rfl) ?_
      refine pw_ld E (pc' := 23) (st' := [pw_i (min x4 9), pw_i 1, pw_i k18_6]) rfl (fun _ => rfl) ?_
      refine pw_shlE E (pc' := 24) rfl rfl (by omega) (by omega) ?_
      have hp5 := pw_p2_r (a := min x4 9) (by omega) (by omega)
      refine pw_if2 E (pc' := 55) rfl (by decide) (by omega) (by omega) (by omega) (by omega) ?_ ?_
      · intro hc6
        change pw_p2 (min x4 9) ≤ k18_6 at hc6
        have hK : k18_6 = pw_p2 (pv_N (pw_g h 17) sd 24) := by omega
        have hK2 : (k18_6).toNat = 2 ^ (pv_N (pw_g h 17) sd 24).toNat := po_p2E (by omega) hK
        rw [hK2] at hx18_1
        rw [hK] at hx18_2
        refine pw_ld E (pc' := 57) (st' := [pw_i k18_5]) rfl (fun _ => rfl) ?_
        refine pw_iret E rfl ?_
        exact ⟨I18, E18, ⟨hx18_2, ⟨_, rfl, by omega, by omega, by omega⟩⟩⟩
      · intro hc7
        change ¬ (pw_p2 (min x4 9) ≤ k18_6) at hc7
        have hsk : (k18_6).toNat < 2 ^ (pv_N (pw_g h 17) sd 24).toNat := pl_lt9 (by omega) (by omega)
        have w1 := po_Ws (q := k0) (m := 14) (s := k18_6) (by omega)
        refine pw_ld E (pc' := 29) (st' := [pw_i k18_6]) rfl (fun _ => rfl) ?_
        refine pw_call (m' := 326) (As := [pw_i k18_6]) (rest := []) (ls'' := [some (pw_i k18_6)]) (Nat.le_trans (by decide) hd) E rfl (fun _ => pw_iS rfl rfl rfl) (rfl : pm_ent 326 = some (1, 1, 15, 0, pmc_326)) rfl rfl (cm_326_s (pw_dp hd (by decide)) I18 (k18_6) (by omega) (by omega)) ?_
        rintro u9 v8 ⟨rfl, x10, rfl, hx10a, hx10b, hx10r⟩
        refine ⟨_, rfl, ?_⟩
        show pw X d gh18 91 32 [some (.ref 32), some (pw_i sd), some (pw_i k0), some (.ref 36), some (pw_i (min x4 9)), some (pw_i k18_5), some (pw_i k18_6)] [pw_i x10] _
        change x10 = (pb_n k18_6.toNat 14 : Int) at hx10r
        refine pw_ld E (pc' := 33) (st' := [pw_i k0, pw_i x10]) rfl (fun _ => rfl) ?_
        refine pw_if2 E (pc' := 49) rfl (by decide) (by omega) (by omega) (by omega) (by omega) ?_ ?_
        · intro hc11
          change x10 ≠ k0 at hc11
          have w2 := w1.2 (by omega)
          refine pw_inc E (pc' := 52) (ls' := [some (.ref 32), some (pw_i sd), some (pw_i k0), some (.ref 36), some (pw_i (min x4 9)), some (pw_i k18_5), some (pw_i (k18_6 + 1))]) rfl rfl rfl rfl ?_
          refine pw_goto E (pc' := 18) rfl (by decide) ?_
          exact ih18 _ (by omega) (k18_5) (k18_6 + 1) gh18 I18 E18 (by omega) (by omega) (by omega) (by omega) (by omega) (by omega) (by first | exact pl_A.yes hx18_2 rfl (by omega) (by omega) hx18_1 hkk hv (by omega) (by omega) I18 (by assumption) | exact pl_A.no hx18_2 (by omega) (by omega)) (by omega) (by omega) (by first | exact (fun j hj => by rw [hrw2]; exact hx18_5 j hj) | exact hx18_5) rfl
        · intro hc12
          change ¬ (x10 ≠ k0) at hc12
          refine pw_ld E (pc' := 37) (st' := [.ref 36]) rfl (fun _ => rfl) ?_
          refine pw_ld E (pc' := 39) (st' := [pw_i k18_5, .ref 36]) rfl (fun _ => rfl) ?_
          refine pw_ld E (pc' := 40) (st' := [.ref 32, pw_i k18_5, .ref 36]) rfl (fun _ => rfl) ?_
          refine pw_ld E (pc' := 42) (st' := [pw_i k18_6, .ref 32, pw_i k18_5, .ref 36]) rfl (fun _ => rfl) ?_
          obtain ⟨f13l, f13h, -⟩ := pw_obj (c := 16) I18 rfl
          refine pw_call (m' := 89) (As := [.ref 32, pw_i k18_6]) (rest := [pw_i k18_5, .ref 36]) (ls'' := [some (.ref 32), some (pw_i k18_6), none, none]) (Nat.le_trans (by decide) hd) E rfl (fun _ => pw_iV rfl rfl rfl rfl (pw_cellI f13h rfl)) (rfl : pm_ent 89 = some (2, 4, 8, 0, pmc_89)) rfl rfl (cm_89_s (pw_dp hd (by decide)) I18 (k18_6) (by omega) (by omega) (pl_rowB (a := pv_N (pw_g h 17) sd 24) hsk (fun j hj => by rw [hx18_5 j hj]; exact pc_GB 24 (fun k hk hs => hp0 k hk (by omega)) j hj))) ?_
          rintro u15 v14 ⟨rfl, x16, rfl, hx16a, hx16b, hx16r⟩
          refine ⟨_, rfl, ?_⟩
          show pw X d gh18 91 45 [some (.ref 32), some (pw_i sd), some (pw_i k0), some (.ref 36), some (pw_i (min x4 9)), some (pw_i k18_5), some (pw_i k18_6)] [pw_i x16, pw_i k18_5, .ref 36] _
          change x16 = pb_S (pw_g gh18 19) k18_6.toNat 14 at hx16r
          have hv : x16 = pl_T (pw_g h 17) (pw_g h 18) sd (k18_6).toNat := by rw [hx16r]; exact pl_14 hsk hx18_5
          have hkk : (pb_n (k18_6).toNat 14 : Int) = k0 := by omega
          have hW5 := po_WL (q := k0) (m := 14) (a := (k18_6).toNat) (b := 2 ^ (pv_N (pw_g h 17) sd 24).toNat) hsk hkk
          have hWB := po_B (r := fun _ => 0) (al := 0) (tf := 0) (ow := 0) (q := k0) (m := 14) (2 ^ (pv_N (pw_g h 17) sd 24).toNat)
          have hP := pl_pow (a := pv_N (pw_g h 17) sd 24) (by omega)
          refine pw_ast0 I18 E (c := 20) (pc' := 46) rfl rfl rfl (by decide) rfl (by decide) (by omega) (by omega) rfl (by omega) (by omega) (by omega) (by omega) rfl ?_
          intro h17I h17E
          generalize h17w : pw_w gh18 20 (k18_5.toNat) (pw_i x16) = h17 at h17I h17E ⊢
          have h17F := E18.tr (h17E.wk (W' := [19, 20]) (by first | rfl | simp))
          refine pw_inc E (pc' := 49) (ls' := [some (.ref 32), some (pw_i sd), some (pw_i k0), some (.ref 36), some (pw_i (min x4 9)), some (pw_i (k18_5 + 1)), some (pw_i k18_6)]) rfl rfl rfl rfl ?_
          have hrw2 : pw_g h17 19 = pw_g gh18 19 := funext (fun j => by rw [← h17w]; exact pw_g_ne (by omega))
          have w2 := w1.1 hkk
          refine pw_inc E (pc' := 52) (ls' := [some (.ref 32), some (pw_i sd), some (pw_i k0), some (.ref 36), some (pw_i (min x4 9)), some (pw_i (k18_5 + 1)), some (pw_i (k18_6 + 1))]) rfl rfl rfl rfl ?_
          refine pw_goto E (pc' := 18) rfl (by decide) ?_
          exact ih18 _ (by omega) (k18_5 + 1) (k18_6 + 1) h17 h17I h17F (by omega) (by omega) (by omega) (by omega) (by omega) (by omega) (by first | exact pl_A.yes hx18_2 rfl (by omega) (by omega) hx18_1 hkk hv (by omega) (by omega) I18 (by assumption) | exact pl_A.no hx18_2 (by omega) (by omega)) (by omega) (by omega) (by first | exact (fun j hj => by rw [hrw2]; exact hx18_5 j hj) | exact hx18_5) rfl
  exact L18 _ (0) (0) h2 h2I h2F (by omega) (by omega) (by omega) (by omega) (by omega) rfl pl_A.z (by omega) (by omega) hH2 rfl
set_option maxHeartbeats 4000000 in
theorem cm_91_21s {X : List (Nat × List Value)} {d : Nat} {h : pm_H} (hd : 2 ≤ d) (I : pw_I h) (sd : Int) (hsd1 : 0 ≤ sd) (hsd2 : sd ≤ 1) (k0 : Int) (hk01 : 1 ≤ k0) (hk02 : k0 ≤ 9) (hp0 : pv_Bd h) (hp1 : pv_N (pw_g h 17) sd 24 ≤ 9) : pw X d h 91 0 [some (.ref 32), some (pw_i sd), some (pw_i k0), some (.ref 37), none, none, none] [] (fun h' v => pw_I h' ∧ pw_E [19, 21] h h' ∧ (pl_A (pl_T (pw_g h 17) (pw_g h 18) sd) k0 14 (pw_g h' 21) (pw_p2 (pv_N (pw_g h 17) sd 24))) ∧ (∃ a : Int, v = .inl (some (pw_i a)) ∧ 0 ≤ a ∧ a ≤ 512 ∧ (a = po_W k0 14 (2 ^ (pv_N (pw_g h 17) sd 24).toNat)))) := by
  have E : pm_ent 91 = some (4, 7, 8, 0, pmc_91) := rfl
  have E0 : pw_E [19, 21] h h := pw_E.rf _ _
  refine pw_ld E (pc' := 1) (st' := [.ref 32]) rfl (fun _ => rfl) ?_
  refine pw_ld E (pc' := 2) (st' := [pw_i sd, .ref 32]) rfl (fun _ => rfl) ?_
  obtain ⟨f1l, f1h, -⟩ := pw_obj (c := 16) I rfl
  refine pw_call (m' := 92) (As := [.ref 32, pw_i sd]) (rest := []) (ls'' := [some (.ref 32), some (pw_i sd), none, none]) (Nat.le_trans (by decide) hd) E rfl (fun _ => pw_iV rfl rfl rfl rfl (pw_cellI f1h rfl)) (rfl : pm_ent 92 = some (2, 4, 8, 0, pmc_92)) rfl rfl (cm_92_s (pw_dp hd (by decide)) I (sd) (by omega) (by omega)) ?_
  rintro h2 v3 ⟨h2I, h2E, hqga, x4, rfl, hx4a, hx4b, hx4r⟩
  refine ⟨_, rfl, ?_⟩
  have h2F := E0.tr (h2E.wk (W' := [19, 21]) (by first | rfl | simp))
  show pw X d h2 91 5 [some (.ref 32), some (pw_i sd), some (pw_i k0), some (.ref 37), none, none, none] [pw_i x4] _
  change x4 = pv_N (pw_g h 17) sd 24 at hx4r
  have hH2 : ∀ j : Nat, (j : Int) < pv_N (pw_g h 17) sd 24 → pw_g h2 19 j = pc_G (pw_g h 17) (pw_g h 18) sd 24 j := hqga.row
  have hRB := pc_GA.rowB hqga (fun k hk hs => hp0 k hk (by omega))
  refine pw_bip E (pc' := 7) rfl rfl (by decide) ?_
  refine pw_min E rfl rfl (by omega) (by omega) (by decide) (by decide) rfl ?_
  have hmn : min x4 9 = pv_N (pw_g h 17) sd 24 := by omega
  have hpm : pw_p2 (min x4 9) = pw_p2 (pv_N (pw_g h 17) sd 24) := by rw [hmn]
  have hn0 := pv_NB (sd := pw_g h 17) (s := sd) 24
  have hp9 := pw_p2_le (a := pv_N (pw_g h 17) sd 24) (b := 9) (by omega)
  have e9 : pw_p2 9 = 512 := rfl
  have hp1 := pw_p2_r (a := pv_N (pw_g h 17) sd 24) (by omega) (by omega)
  refine pw_ist E (pc' := 12) (ls' := [some (.ref 32), some (pw_i sd), some (pw_i k0), some (.ref 37), some (pw_i (min x4 9)), none, none]) rfl rfl rfl rfl ?_
  refine pw_ld E (pc' := 13) (st' := [pw_i 0]) rfl (fun _ => rfl) ?_
  refine pw_ist E (pc' := 15) (ls' := [some (.ref 32), some (pw_i sd), some (pw_i k0), some (.ref 37), some (pw_i (min x4 9)), some (pw_i 0), none]) rfl rfl rfl rfl ?_
  refine pw_ld E (pc' := 16) (st' := [pw_i 0]) rfl (fun _ => rfl) ?_
  refine pw_ist E (pc' := 18) (ls' := [some (.ref 32), some (pw_i sd), some (pw_i k0), some (.ref 37), some (pw_i (min x4 9)), some (pw_i 0), some (pw_i 0)]) rfl rfl rfl rfl ?_
  have L18 : ∀ (n18 : Nat) (k18_5 : Int) (k18_6 : Int) (gh18 : pm_H), pw_I gh18 → pw_E [19, 21] h gh18 → 0 ≤ k18_5 → k18_5 ≤ 512 → 0 ≤ k18_6 → k18_6 ≤ 512 → k18_5 ≤ k18_6 → k18_5 = po_W k0 14 (k18_6).toNat → pl_A (pl_T (pw_g h 17) (pw_g h 18) sd) k0 14 (pw_g gh18 21) k18_6 → k18_6 ≤ pw_p2 (pv_N (pw_g h 17) sd 24) → 0 ≤ k18_6 → (∀ j : Nat, (j : Int) < pv_N (pw_g h 17) sd 24 → pw_g gh18 19 j = pc_G (pw_g h 17) (pw_g h 18) sd 24 j) → (512 - k18_6).toNat = n18 → pw X d gh18 91 18 [some (.ref 32), some (pw_i sd), some (pw_i k0), some (.ref 37), some (pw_i (min x4 9)), some (pw_i k18_5), some (pw_i k18_6)] [] (fun h' v => pw_I h' ∧ pw_E [19, 21] h h' ∧ (pl_A (pl_T (pw_g h 17) (pw_g h 18) sd) k0 14 (pw_g h' 21) (pw_p2 (pv_N (pw_g h 17) sd 24))) ∧ (∃ a : Int, v = .inl (some (pw_i a)) ∧ 0 ≤ a ∧ a ≤ 512 ∧ (a = po_W k0 14 (2 ^ (pv_N (pw_g h 17) sd 24).toNat)))) := by
    intro n18
    induction n18 using Nat.strongRecOn with
    | ind n18 ih18 =>
      intro k18_5 k18_6 gh18 I18 E18 k18_5a k18_5b k18_6a k18_6b hx18_0 hx18_1 hx18_2 hx18_3 hx18_4 hx18_5 hm18
      refine pw_ld E (pc' := 20) (st' := [pw_i k18_6]) rfl (fun _ => rfl) ?_
      refine pw_ld E (pc' := 21) (st' := [pw_i 1, pw_i k18_6]) rfl (fun _ => rfl) ?_
      refine pw_ld E (pc' := 23) (st' := [pw_i (min x4 9), pw_i 1, pw_i k18_6]) rfl (fun _ => rfl) ?_
      refine pw_shlE E (pc' := 24) rfl rfl (by omega) (by omega) ?_
      have hp5 := pw_p2_r (a := min x4 9) (by omega) (by omega)
      refine pw_if2 E (pc' := 55) rfl (by decide) (by omega) (by omega) (by omega) (by omega) ?_ ?_
      · intro hc6
        change pw_p2 (min x4 9) ≤ k18_6 at hc6
        have hK : k18_6 = pw_p2 (pv_N (pw_g h 17) sd 24) := by omega
        have hK2 : (k18_6).toNat = 2 ^ (pv_N (pw_g h 17) sd 24).toNat := po_p2E (by omega) hK
        rw [hK2] at hx18_1
        rw [hK] at hx18_2
        refine pw_ld E (pc' := 57) (st' := [pw_i k18_5]) rfl (fun _ => rfl) ?_
        refine pw_iret E rfl ?_
        exact ⟨I18, E18, ⟨hx18_2, ⟨_, rfl, by omega, by omega, by omega⟩⟩⟩
      · intro hc7
        change ¬ (pw_p2 (min x4 9) ≤ k18_6) at hc7
        have hsk : (k18_6).toNat < 2 ^ (pv_N (pw_g h 17) sd 24).toNat := pl_lt9 (by omega) (by omega)
        have w1 := po_Ws (q := k0) (m := 14) (s := k18_6) (by omega)
        refine pw_ld E (pc' := 29) (st' := [pw_i k18_6]) rfl (fun _ => rfl) ?_
        refine pw_call (m' := 326) (As := [pw_i k18_6]) (rest := []) (ls'' := [some (pw_i k18_6)]) (Nat.le_trans (by decide) hd) E rfl (fun _ => pw_iS rfl rfl rfl) (rfl : pm_ent 326 = some (1, 1, 15, 0, pmc_326)) rfl rfl (cm_326_s (pw_dp hd (by decide)) I18 (k18_6) (by omega) (by omega)) ?_
        rintro u9 v8 ⟨rfl, x10, rfl, hx10a, hx10b, hx10r⟩
        refine ⟨_, rfl, ?_⟩
        show pw X d gh18 91 32 [some (.ref 32), some (pw_i sd), some (pw_i k0), some (.ref 37), some (pw_i (min x4 9)), some (pw_i k18_5), some (pw_i k18_6)] [pw_i x10] _
        change x10 = (pb_n k18_6.toNat 14 : Int) at hx10r
        refine pw_ld E (pc' := 33) (st' := [pw_i k0, pw_i x10]) rfl (fun _ => rfl) ?_
        refine pw_if2 E (pc' := 49) rfl (by decide) (by omega) (by omega) (by omega) (by omega) ?_ ?_
        · intro hc11
          change x10 ≠ k0 at hc11
          have w2 := w1.2 (by omega)
          refine pw_inc E (pc' := 52) (ls' := [some (.ref 32), some (pw_i sd), some (pw_i k0), some (.ref 37), some (pw_i (min x4 9)), some (pw_i k18_5), some (pw_i (k18_6 + 1))]) rfl rfl rfl rfl ?_
          refine pw_goto E (pc' := 18) rfl (by decide) ?_
          exact ih18 _ (by omega) (k18_5) (k18_6 + 1) gh18 I18 E18 (by omega) (by omega) (by omega) (by omega) (by omega) (by omega) (by first | exact pl_A.yes hx18_2 rfl (by omega) (by omega) hx18_1 hkk hv (by omega) (by omega) I18 (by assumption) | exact pl_A.no hx18_2 (by omega) (by omega)) (by omega) (by omega) (by first | exact (fun j hj => by rw [hrw2]; exact hx18_5 j hj) | exact hx18_5) rfl
        · intro hc12
          change ¬ (x10 ≠ k0) at hc12
          refine pw_ld E (pc' := 37) (st' := [.ref 37]) rfl (fun _ => rfl) ?_
          refine pw_ld E (pc' := 39) (st' := [pw_i k18_5, .ref 37]) rfl (fun _ => rfl) ?_
          refine pw_ld E (pc' := 40) (st' := [.ref 32, pw_i k18_5, .ref 37]) rfl (fun _ => rfl) ?_
          refine pw_ld E (pc' := 42) (st' := [pw_i k18_6, .ref 32, pw_i k18_5, .ref 37]) rfl (fun _ => rfl) ?_
          obtain ⟨f13l, f13h, -⟩ := pw_obj (c := 16) I18 rfl
          refine pw_call (m' := 89) (As := [.ref 32, pw_i k18_6]) (rest := [pw_i k18_5, .ref 37]) (ls'' := [some (.ref 32), some (pw_i k18_6), none, none]) (Nat.le_trans (by decide) hd) E rfl (fun _ => pw_iV rfl rfl rfl rfl (pw_cellI f13h rfl)) (rfl : pm_ent 89 = some (2, 4, 8, 0, pmc_89)) rfl rfl (cm_89_s (pw_dp hd (by decide)) I18 (k18_6) (by omega) (by omega) (pl_rowB (a := pv_N (pw_g h 17) sd 24) hsk (fun j hj => by rw [hx18_5 j hj]; exact pc_GB 24 (fun k hk hs => hp0 k hk (by omega)) j hj))) ?_
          rintro u15 v14 ⟨rfl, x16, rfl, hx16a, hx16b, hx16r⟩
          refine ⟨_, rfl, ?_⟩
          show pw X d gh18 91 45 [some (.ref 32), some (pw_i sd), some (pw_i k0), some (.ref 37), some (pw_i (min x4 9)), some (pw_i k18_5), some (pw_i k18_6)] [pw_i x16, pw_i k18_5, .ref 37] _
          change x16 = pb_S (pw_g gh18 19) k18_6.toNat 14 at hx16r
          have hv : x16 = pl_T (pw_g h 17) (pw_g h 18) sd (k18_6).toNat := by rw [hx16r]; exact pl_14 hsk hx18_5
          have hkk : (pb_n (k18_6).toNat 14 : Int) = k0 := by omega
          have hW5 := po_WL (q := k0) (m := 14) (a := (k18_6).toNat) (b := 2 ^ (pv_N (pw_g h 17) sd 24).toNat) hsk hkk
          have hWB := po_B (r := fun _ => 0) (al := 0) (tf := 0) (ow := 0) (q := k0) (m := 14) (2 ^ (pv_N (pw_g h 17) sd 24).toNat)
          have hP := pl_pow (a := pv_N (pw_g h 17) sd 24) (by omega)
          refine pw_ast0 I18 E (c := 21) (pc' := 46) rfl rfl rfl (by decide) rfl (by decide) (by omega) (by omega) rfl (by omega) (by omega) (by omega) (by omega) rfl ?_
          intro h17I h17E
          generalize h17w : pw_w gh18 21 (k18_5.toNat) (pw_i x16) = h17 at h17I h17E ⊢
          have h17F := E18.tr (h17E.wk (W' := [19, 21]) (by first | rfl | simp))
          refine pw_inc E (pc' := 49) (ls' := [some (.ref 32), some (pw_i sd), some (pw_i k0), some (.ref 37), some (pw_i (min x4 9)), some (pw_i (k18_5 + 1)), some (pw_i k18_6)]) rfl rfl rfl rfl ?_
          have hrw2 : pw_g h17 19 = pw_g gh18 19 := funext (fun j => by rw [← h17w]; exact pw_g_ne (by omega))
          have w2 := w1.1 hkk
          refine pw_inc E (pc' := 52) (ls' := [some (.ref 32), some (pw_i sd), some (pw_i k0), some (.ref 37), some (pw_i (min x4 9)), some (pw_i (k18_5 + 1)), some (pw_i (k18_6 + 1))]) rfl rfl rfl rfl ?_
          refine pw_goto E (pc' := 18) rfl (by decide) ?_
          exact ih18 _ (by omega) (k18_5 + 1) (k18_6 + 1) h17 h17I h17F (by omega) (by omega) (by omega) (by omega) (by omega) (by omega) (by first | exact pl_A.yes hx18_2 rfl (by omega) (by omega) hx18_1 hkk hv (by omega) (by omega) I18 (by assumption) | exact pl_A.no hx18_2 (by omega) (by omega)) (by omega) (by omega) (by first | exact (fun j hj => by rw [hrw2]; exact hx18_5 j hj) | exact hx18_5) rfl
  exact L18 _ (0) (0) h2 h2I h2F (by omega) (by omega) (by omega) (by omega) (by omega) rfl pl_A.z (by omega) (by omega) hH2 rfl
set_option maxHeartbeats 4000000 in
theorem cm_90_s {X : List (Nat × List Value)} {d : Nat} {h : pm_H} (hd : 3 ≤ d) (I : pw_I h) (k0 : Int) (hk01 : 1 ≤ k0) (hk02 : k0 ≤ 9) (hp0 : pv_Bd h) (hp1 : pv_N (pw_g h 17) 0 24 ≤ 9) (hp2 : pv_N (pw_g h 17) 1 24 ≤ 9) (hp3 : k0 ≤ pv_N (pw_g h 17) 0 24) (hp4 : k0 ≤ pv_N (pw_g h 17) 1 24) : pw X d h 90 0 [some (.ref 32), some (pw_i k0), some (.ref 38), none, none, none, none, none, none, none] [] (fun h' v => pw_I h' ∧ pw_E [19, 20, 21, 22] h h' ∧ (pw_gm h' 22 0 = Int.tdiv (pl_X (pw_g h 17) (pw_g h 18) k0) (pw_gd (pl_X (pw_g h 17) (pw_g h 18) k0) (pl_Y (pw_g h 17) k0)) ∧ pw_gm h' 22 1 = Int.tdiv (pl_Y (pw_g h 17) k0) (pw_gd (pl_X (pw_g h 17) (pw_g h 18) k0) (pl_Y (pw_g h 17) k0))) ∧ (v = .inl none)) := by
  have E : pm_ent 90 = some (3, 10, 8, 4, pmc_90) := rfl
  have E0 : pw_E [19, 20, 21, 22] h h := pw_E.rf _ _
  have hB := hp0
  refine pw_ld E (pc' := 1) (st' := [.ref 32]) rfl (fun _ => rfl) ?_
  refine pw_ld E (pc' := 2) (st' := [pw_i 0, .ref 32]) rfl (fun _ => rfl) ?_
  obtain ⟨f1l, f1h, -⟩ := pw_obj (c := 16) I rfl
  refine pw_call (m' := 85) (As := [.ref 32, pw_i 0]) (rest := []) (ls'' := [some (.ref 32), some (pw_i 0), none, none]) (Nat.le_trans (by decide) hd) E rfl (fun _ => pw_iV rfl rfl rfl rfl (pw_cellI f1h rfl)) (rfl : pm_ent 85 = some (2, 4, 8, 0, pmc_85)) rfl rfl (cm_85_s (pw_dp hd (by decide)) I (0) (by omega) (by omega) hB) ?_
  rintro u3 v2 ⟨rfl, x4, rfl, hx4a, hx4b, hx4r⟩
  refine ⟨_, rfl, ?_⟩
  show pw X d h 90 5 [some (.ref 32), some (pw_i k0), some (.ref 38), none, none, none, none, none, none, none] [pw_i x4] _
  change x4 = pv_S (pw_g h 17) (pw_g h 18) 0 24 at hx4r
  refine pw_i2l E (pc' := 6) rfl rfl (by omega) (by omega) ?_
  refine pw_ld E (pc' := 7) (st' := [.ref 32, .long (Int64.ofInt x4)]) rfl (fun _ => rfl) ?_
  refine pw_ld E (pc' := 8) (st' := [pw_i 1, .ref 32, .long (Int64.ofInt x4)]) rfl (fun _ => rfl) ?_
  obtain ⟨f5l, f5h, -⟩ := pw_obj (c := 16) I rfl
  refine pw_call (m' := 84) (As := [.ref 32, pw_i 1]) (rest := [.long (Int64.ofInt x4)]) (ls'' := [some (.ref 32), some (pw_i 1), none, none]) (Nat.le_trans (by decide) hd) E rfl (fun _ => pw_iV rfl rfl rfl rfl (pw_cellI f5h rfl)) (rfl : pm_ent 84 = some (2, 4, 8, 0, pmc_84)) rfl rfl (cm_84_s (pw_dp hd (by decide)) I (1) (by omega) (by omega)) ?_
  rintro u7 v6 ⟨rfl, x8, rfl, hx8a, hx8b, hx8r⟩
  refine ⟨_, rfl, ?_⟩
  show pw X d h 90 11 [some (.ref 32), some (pw_i k0), some (.ref 38), none, none, none, none, none, none, none] [pw_i x8, .long (Int64.ofInt x4)] _
  change x8 = pv_N (pw_g h 17) 1 24 at hx8r
  refine pw_i2l E (pc' := 12) rfl rfl (by omega) (by omega) ?_
  have hm9 := pw_mulS (a := x4) (b := x8) (A := 48000) (B := 24) (by omega) (by omega) (by omega) (by omega)
  refine pw_lmul E (pc' := 13) rfl rfl ?_
  refine pw_ld E (pc' := 14) (st' := [.ref 32, .long (Int64.ofInt (x4 * x8))]) rfl (fun _ => rfl) ?_
  refine pw_ld E (pc' := 15) (st' := [pw_i 1, .ref 32, .long (Int64.ofInt (x4 * x8))]) rfl (fun _ => rfl) ?_
  obtain ⟨f10l, f10h, -⟩ := pw_obj (c := 16) I rfl
  refine pw_call (m' := 85) (As := [.ref 32, pw_i 1]) (rest := [.long (Int64.ofInt (x4 * x8))]) (ls'' := [some (.ref 32), some (pw_i 1), none, none]) (Nat.le_trans (by decide) hd) E rfl (fun _ => pw_iV rfl rfl rfl rfl (pw_cellI f10h rfl)) (rfl : pm_ent 85 = some (2, 4, 8, 0, pmc_85)) rfl rfl (cm_85_s (pw_dp hd (by decide)) I (1) (by omega) (by omega) hB) ?_
  rintro u12 v11 ⟨rfl, x13, rfl, hx13a, hx13b, hx13r⟩
  refine ⟨_, rfl, ?_⟩
  show pw X d h 90 18 [some (.ref 32), some (pw_i k0), some (.ref 38), none, none, none, none, none, none, none] [pw_i x13, .long (Int64.ofInt (x4 * x8))] _
  change x13 = pv_S (pw_g h 17) (pw_g h 18) 1 24 at hx13r
  refine pw_i2l E (pc' := 19) rfl rfl (by omega) (by omega) ?_
  refine pw_ld E (pc' := 20) (st' := [.ref 32, .long (Int64.ofInt x13), .long (Int64.ofInt (x4 * x8))]) rfl (fun _ => rfl) ?_
  refine pw_ld E (pc' := 21) (st' := [pw_i 0, .ref 32, .long (Int64.ofInt x13), .long (Int64.ofInt (x4 * x8))]) rfl (fun _ => rfl) ?_
  obtain ⟨f14l, f14h, -⟩ := pw_obj (c := 16) I rfl
  refine pw_call (m' := 84) (As := [.ref 32, pw_i 0]) (rest := [.long (Int64.ofInt x13), .long (Int64.ofInt (x4 * x8))]) (ls'' := [some (.ref 32), some (pw_i 0), none, none]) (Nat.le_trans (by decide) hd) E rfl (fun _ => pw_iV rfl rfl rfl rfl (pw_cellI f14h rfl)) (rfl : pm_ent 84 = some (2, 4, 8, 0, pmc_84)) rfl rfl (cm_84_s (pw_dp hd (by decide)) I (0) (by omega) (by omega)) ?_
  rintro u16 v15 ⟨rfl, x17, rfl, hx17a, hx17b, hx17r⟩
  refine ⟨_, rfl, ?_⟩
  show pw X d h 90 24 [some (.ref 32), some (pw_i k0), some (.ref 38), none, none, none, none, none, none, none] [pw_i x17, .long (Int64.ofInt x13), .long (Int64.ofInt (x4 * x8))] _
  change x17 = pv_N (pw_g h 17) 0 24 at hx17r
  refine pw_i2l E (pc' := 25) rfl rfl (by omega) (by omega) ?_
  have hm18 := pw_mulS (a := x13) (b := x17) (A := 48000) (B := 24) (by omega) (by omega) (by omega) (by omega)
  refine pw_lmul E (pc' := 26) rfl rfl ?_
  refine pw_call (m' := 328) (As := [.long (Int64.ofInt (x4 * x8)), .long (Int64.ofInt (x13 * x17))]) (rest := []) (ls'' := [some (.long (Int64.ofInt (x4 * x8))), none, some (.long (Int64.ofInt (x13 * x17))), none]) (Nat.le_trans (by decide) hd) E rfl (fun _ => pw_iS rfl rfl rfl) (rfl : pm_ent 328 = some (2, 4, 16, 0, pmc_328)) rfl rfl (cm_328_s (pw_dp hd (by decide)) I (x4 * x8) (by omega) (by omega) (x13 * x17) (by omega) (by omega)) ?_
  rintro u20 v19 ⟨rfl, x21, rfl, hx21a, hx21b, hx21r⟩
  refine ⟨_, rfl, ?_⟩
  show pw X d h 90 29 [some (.ref 32), some (pw_i k0), some (.ref 38), none, none, none, none, none, none, none] [pw_i x21] _
  change x21 = pl_sg ((x4 * x8) - (x13 * x17)) at hx21r
  have hsg : x21 = pl_sg (pv_U (pw_g h 17) (pw_g h 18)) := by rw [hx21r]; unfold pv_U; rw [← hx4r, ← hx8r, ← hx13r, ← hx17r]
  refine pw_istn E (pc' := 30) (ls' := [some (.ref 32), some (pw_i k0), some (.ref 38), some (pw_i x21), none, none, none, none, none, none]) rfl rfl rfl rfl ?_
  refine pw_ld E (pc' := 31) (st' := [.ref 32]) rfl (fun _ => rfl) ?_
  refine pw_ld E (pc' := 32) (st' := [pw_i 0, .ref 32]) rfl (fun _ => rfl) ?_
  refine pw_ld E (pc' := 33) (st' := [pw_i k0, pw_i 0, .ref 32]) rfl (fun _ => rfl) ?_
  refine pw_ld E (pc' := 34) (st' := [.ref 32, pw_i k0, pw_i 0, .ref 32]) rfl (fun _ => rfl) ?_
  refine pw_getR (b := 36) I E (c := 16) (k := 3) (pc' := 37) rfl rfl rfl rfl rfl rfl rfl ?_
  obtain ⟨f22l, f22h, -⟩ := pw_obj (c := 16) I rfl
  refine pw_call (m' := 91) (As := [.ref 32, pw_i 0, pw_i k0, .ref 36]) (rest := []) (ls'' := [some (.ref 32), some (pw_i 0), some (pw_i k0), some (.ref 36), none, none, none]) (Nat.le_trans (by decide) hd) E rfl (fun _ => pw_iV rfl rfl rfl rfl (pw_cellI f22h rfl)) (rfl : pm_ent 91 = some (4, 7, 8, 0, pmc_91)) rfl rfl (cm_91_20s (pw_dp hd (by decide)) I (0) (by omega) (by omega) (k0) (by omega) (by omega) hB (by omega)) ?_
  rintro h23 v24 ⟨h23I, h23E, hqdr, x25, rfl, hx25a, hx25b, hx25r⟩
  refine ⟨_, rfl, ?_⟩
  have h23F := E0.tr (h23E.wk (W' := [19, 20, 21, 22]) (by first | rfl | simp))
  show pw X d h23 90 40 [some (.ref 32), some (pw_i k0), some (.ref 38), some (pw_i x21), none, none, none, none, none, none] [pw_i x25] _
  change x25 = po_W k0 14 (2 ^ (pv_N (pw_g h 17) 0 24).toNat) at hx25r
  have hs7 : pw_g h23 17 = pw_g h 17 := funext (fun j => pw_Eg (c := 17) I h23F rfl rfl j)
  have hs8 : pw_g h23 18 = pw_g h 18 := funext (fun j => pw_Eg (c := 18) I h23F rfl rfl j)
  have hB2 : pv_Bd h23 := by unfold pv_Bd; rw [hs7, hs8]; exact hp0
  have eN2 : pv_N (pw_g h23 17) 1 24 = pv_N (pw_g h 17) 1 24 := by rw [hs7]
  have hA0 := hqdr
  refine pw_ist E (pc' := 42) (ls' := [some (.ref 32), some (pw_i k0), some (.ref 38), some (pw_i x21), some (pw_i x25), none, none, none, none, none]) rfl rfl rfl rfl ?_
  refine pw_ld E (pc' := 43) (st' := [.ref 32]) rfl (fun _ => rfl) ?_
  refine pw_ld E (pc' := 44) (st' := [pw_i 1, .ref 32]) rfl (fun _ => rfl) ?_
  refine pw_ld E (pc' := 45) (st' := [pw_i k0, pw_i 1, .ref 32]) rfl (fun _ => rfl) ?_
  refine pw_ld E (pc' := 46) (st' := [.ref 32, pw_i k0, pw_i 1, .ref 32]) rfl (fun _ => rfl) ?_
  refine pw_getR (b := 37) h23I E (c := 16) (k := 4) (pc' := 49) rfl rfl rfl rfl rfl rfl rfl ?_
  obtain ⟨f26l, f26h, -⟩ := pw_obj (c := 16) h23I rfl
  refine pw_call (m' := 91) (As := [.ref 32, pw_i 1, pw_i k0, .ref 37]) (rest := []) (ls'' := [some (.ref 32), some (pw_i 1), some (pw_i k0), some (.ref 37), none, none, none]) (Nat.le_trans (by decide) hd) E rfl (fun _ => pw_iV rfl rfl rfl rfl (pw_cellI f26h rfl)) (rfl : pm_ent 91 = some (4, 7, 8, 0, pmc_91)) rfl rfl (cm_91_21s (pw_dp hd (by decide)) h23I (1) (by omega) (by omega) (k0) (by omega) (by omega) hB2 (by omega)) ?_
  rintro h27 v28 ⟨h27I, h27E, hqdr, x29, rfl, hx29a, hx29b, hx29r⟩
  refine ⟨_, rfl, ?_⟩
  have h27F := h23F.tr (h27E.wk (W' := [19, 20, 21, 22]) (by first | rfl | simp))
  show pw X d h27 90 52 [some (.ref 32), some (pw_i k0), some (.ref 38), some (pw_i x21), some (pw_i x25), none, none, none, none, none] [pw_i x29] _
  change x29 = po_W k0 14 (2 ^ (pv_N (pw_g h23 17) 1 24).toNat) at hx29r
  have hA1 := hqdr
  rw [hs7, hs8] at hA1
  have e20 : pw_g h27 20 = pw_g h23 20 := funext (fun j => pw_Eg (c := 20) h23I h27E rfl rfl j)
  rw [← e20] at hA0
  rw [hs7] at hx29r
  rw [pl_p2N] at hA0 hA1
  have w0 := pl_WB (m := 14) (k := k0) (a := pv_N (pw_g h 17) 0 24) (by omega) (by omega) (by omega) (by decide) (by decide)
  have w1 := pl_WB (m := 14) (k := k0) (a := pv_N (pw_g h 17) 1 24) (by omega) (by omega) (by omega) (by decide) (by decide)
  refine pw_ist E (pc' := 54) (ls' := [some (.ref 32), some (pw_i k0), some (.ref 38), some (pw_i x21), some (pw_i x25), some (pw_i x29), none, none, none, none]) rfl rfl rfl rfl ?_
  refine pw_ld E (pc' := 55) (st' := [.long (Int64.ofInt 0)]) rfl (fun _ => rfl) ?_
  refine pw_lst E (pc' := 57) (ls' := [some (.ref 32), some (pw_i k0), some (.ref 38), some (pw_i x21), some (pw_i x25), some (pw_i x29), some (.long (Int64.ofInt 0)), none, none, none]) rfl rfl rfl rfl ?_
  refine pw_ld E (pc' := 58) (st' := [pw_i 0]) rfl (fun _ => rfl) ?_
  refine pw_ist E (pc' := 60) (ls' := [some (.ref 32), some (pw_i k0), some (.ref 38), some (pw_i x21), some (pw_i x25), some (pw_i x29), some (.long (Int64.ofInt 0)), none, some (pw_i 0), none]) rfl rfl rfl rfl ?_
  have L60 : ∀ (n60 : Nat) (k60_6 : Int) (k60_8 : Int) (k60_9 : Option Value), 0 ≤ k60_6 → k60_6 ≤ 262144 → 0 ≤ k60_8 → k60_8 ≤ 512 → k60_6 = pl_o (pw_g h27 20) (pw_g h27 21) (pl_sg (pv_U (pw_g h 17) (pw_g h 18))) (po_W k0 14 (2 ^ (pv_N (pw_g h 17) 1 24).toNat)).toNat (k60_8).toNat → k60_6 ≤ 512 * k60_8 → k60_8 ≤ po_W k0 14 (2 ^ (pv_N (pw_g h 17) 0 24).toNat) → (512 - k60_8).toNat = n60 → pw X d h27 90 60 [some (.ref 32), some (pw_i k0), some (.ref 38), some (pw_i x21), some (pw_i x25), some (pw_i x29), some (.long (Int64.ofInt k60_6)), none, some (pw_i k60_8), k60_9] [] (fun h' v => pw_I h' ∧ pw_E [19, 20, 21, 22] h h' ∧ (pw_gm h' 22 0 = Int.tdiv (pl_X (pw_g h 17) (pw_g h 18) k0) (pw_gd (pl_X (pw_g h 17) (pw_g h 18) k0) (pl_Y (pw_g h 17) k0)) ∧ pw_gm h' 22 1 = Int.tdiv (pl_Y (pw_g h 17) k0) (pw_gd (pl_X (pw_g h 17) (pw_g h 18) k0) (pl_Y (pw_g h 17) k0))) ∧ (v = .inl none)) := by
    intro n60
    induction n60 using Nat.strongRecOn with
    | ind n60 ih60 =>
      intro k60_6 k60_8 k60_9 k60_6a k60_6b k60_8a k60_8b hx60_0 hx60_1 hx60_2 hm60
      refine pw_ld E (pc' := 62) (st' := [pw_i k60_8]) rfl (fun _ => rfl) ?_
      refine pw_ld E (pc' := 64) (st' := [pw_i x25, pw_i k60_8]) rfl (fun _ => rfl) ?_
      refine pw_if2 E (pc' := 120) rfl (by decide) (by omega) (by omega) (by omega) (by omega) ?_ ?_
      · intro hc30
        change x25 ≤ k60_8 at hc30
        have eX : k60_6 = pl_X (pw_g h 17) (pw_g h 18) k0 := by rw [hx60_0, show (k60_8).toNat = (po_W k0 14 (2 ^ (pv_N (pw_g h 17) 0 24).toNat)).toNat by omega]; exact pl_reO hA1 _ hA0
        have hXB := pl_XB (sd := pw_g h 17) (ch := pw_g h 18) (k := k0) (by omega) (by omega) (by omega) (by omega) (by omega)
        refine pw_ld E (pc' := 121) (st' := [.ref 38]) rfl (fun _ => rfl) ?_
        refine pw_ld E (pc' := 123) (st' := [.long (Int64.ofInt k60_6), .ref 38]) rfl (fun _ => rfl) ?_
        refine pw_ld E (pc' := 125) (st' := [pw_i x25, .long (Int64.ofInt k60_6), .ref 38]) rfl (fun _ => rfl) ?_
        refine pw_i2l E (pc' := 126) rfl rfl (by omega) (by omega) ?_
        refine pw_ld E (pc' := 128) (st' := [pw_i x29, .long (Int64.ofInt x25), .long (Int64.ofInt k60_6), .ref 38]) rfl (fun _ => rfl) ?_
        refine pw_i2l E (pc' := 129) rfl rfl (by omega) (by omega) ?_
        have hm31 := pw_mulB (a := x25) (b := x29) (A := 512) (B := 512) (by omega) (by omega) (by omega) (by omega)
        refine pw_lmul E (pc' := 130) rfl rfl ?_
        have eY : x25 * x29 = pl_Y (pw_g h 17) k0 := by rw [hx25r, hx29r]; rfl
        obtain ⟨f32l, f32h, -⟩ := pw_obj (c := 22) h27I rfl
        refine pw_call (m' := 6) (As := [.ref 38, .long (Int64.ofInt k60_6), .long (Int64.ofInt (x25 * x29))]) (rest := []) (ls'' := [some (.ref 38), some (.long (Int64.ofInt k60_6)), none, some (.long (Int64.ofInt (x25 * x29))), none, none, none]) (Nat.le_trans (by decide) hd) E rfl (fun _ => pw_iV rfl rfl rfl rfl (pw_cellI f32h rfl)) (rfl : pm_ent 6 = some (3, 7, 1, 4, pmc_6)) rfl rfl (cm_6_22g (pw_dp hd (by decide)) h27I (k60_6) (by omega) (by omega) (x25 * x29) (by omega) (by omega)) ?_
        rintro h33 v34 ⟨h33I, h33E, hqfr, rfl⟩
        refine ⟨_, rfl, ?_⟩
        have h33F := h27F.tr (h33E.wk (W' := [19, 20, 21, 22]) (by first | rfl | simp))
        show pw X d h33 90 133 [some (.ref 32), some (pw_i k0), some (.ref 38), some (pw_i x21), some (pw_i x25), some (pw_i x29), some (.long (Int64.ofInt k60_6)), none, some (pw_i k60_8), k60_9] [] _
        refine pw_vret E rfl ?_
        rw [eX, eY] at hqfr
        exact ⟨h33I, h33F, ⟨hqfr.1, hqfr.2⟩, rfl⟩
      · intro hc35
        change ¬ (x25 ≤ k60_8) at hc35
        refine pw_ld E (pc' := 68) (st' := [pw_i 0]) rfl (fun _ => rfl) ?_
        refine pw_ist E (pc' := 70) (ls' := [some (.ref 32), some (pw_i k0), some (.ref 38), some (pw_i x21), some (pw_i x25), some (pw_i x29), some (.long (Int64.ofInt k60_6)), none, some (pw_i k60_8), some (pw_i 0)]) rfl rfl rfl rfl ?_
        have L70 : ∀ (n70 : Nat) (k70_6 : Int) (k70_9 : Int), 0 ≤ k70_6 → k70_6 ≤ 262144 → 0 ≤ k70_9 → k70_9 ≤ 512 → k70_6 = pl_o (pw_g h27 20) (pw_g h27 21) (pl_sg (pv_U (pw_g h 17) (pw_g h 18))) (po_W k0 14 (2 ^ (pv_N (pw_g h 17) 1 24).toNat)).toNat (k60_8).toNat + pl_i (pw_g h27 21) (pw_g h27 20 (k60_8).toNat) (pl_sg (pv_U (pw_g h 17) (pw_g h 18))) (k70_9).toNat → k70_6 ≤ 512 * k60_8 + k70_9 → k70_9 ≤ po_W k0 14 (2 ^ (pv_N (pw_g h 17) 1 24).toNat) → (512 - k70_9).toNat = n70 → pw X d h27 90 70 [some (.ref 32), some (pw_i k0), some (.ref 38), some (pw_i x21), some (pw_i x25), some (pw_i x29), some (.long (Int64.ofInt k70_6)), none, some (pw_i k60_8), some (pw_i k70_9)] [] (fun h' v => pw_I h' ∧ pw_E [19, 20, 21, 22] h h' ∧ (pw_gm h' 22 0 = Int.tdiv (pl_X (pw_g h 17) (pw_g h 18) k0) (pw_gd (pl_X (pw_g h 17) (pw_g h 18) k0) (pl_Y (pw_g h 17) k0)) ∧ pw_gm h' 22 1 = Int.tdiv (pl_Y (pw_g h 17) k0) (pw_gd (pl_X (pw_g h 17) (pw_g h 18) k0) (pl_Y (pw_g h 17) k0))) ∧ (v = .inl none)) := by
          intro n70
          induction n70 using Nat.strongRecOn with
          | ind n70 ih70 =>
            intro k70_6 k70_9 k70_6a k70_6b k70_9a k70_9b hx70_0 hx70_1 hx70_2 hm70
            refine pw_ld E (pc' := 72) (st' := [pw_i k70_9]) rfl (fun _ => rfl) ?_
            refine pw_ld E (pc' := 74) (st' := [pw_i x29, pw_i k70_9]) rfl (fun _ => rfl) ?_
            refine pw_if2 E (pc' := 114) rfl (by decide) (by omega) (by omega) (by omega) (by omega) ?_ ?_
            · intro hc36
              change x29 ≤ k70_9 at hc36
              have o3 := pl_oS (f := pw_g h27 20) (g := pw_g h27 21) (sgn := pl_sg (pv_U (pw_g h 17) (pw_g h 18))) (nb := (po_W k0 14 (2 ^ (pv_N (pw_g h 17) 1 24).toNat)).toNat) (i := k60_8) (by omega)
              rw [show (k70_9).toNat = (po_W k0 14 (2 ^ (pv_N (pw_g h 17) 1 24).toNat)).toNat by omega] at hx70_0
              refine pw_inc E (pc' := 117) (ls' := [some (.ref 32), some (pw_i k0), some (.ref 38), some (pw_i x21), some (pw_i x25), some (pw_i x29), some (.long (Int64.ofInt k70_6)), none, some (pw_i (k60_8 + 1)), some (pw_i k70_9)]) rfl rfl rfl rfl ?_
              refine pw_goto E (pc' := 60) rfl (by decide) ?_
              exact ih60 _ (by omega) (k70_6) (k60_8 + 1) (some (pw_i k70_9))  (by omega) (by omega) (by omega) (by omega) (by omega) (by omega) (by omega) rfl
            · intro hc37
              change ¬ (x29 ≤ k70_9) at hc37
              refine pw_ld E (pc' := 79) (st' := [.long (Int64.ofInt k70_6)]) rfl (fun _ => rfl) ?_
              refine pw_ld E (pc' := 80) (st' := [.ref 32, .long (Int64.ofInt k70_6)]) rfl (fun _ => rfl) ?_
              refine pw_getR (b := 36) h27I E (c := 16) (k := 3) (pc' := 83) rfl rfl rfl rfl rfl rfl rfl ?_
              refine pw_ld E (pc' := 85) (st' := [pw_i k60_8, .ref 36, .long (Int64.ofInt k70_6)]) rfl (fun _ => rfl) ?_
              refine pw_ald2 h27I E (c := 20) (pc' := 86) rfl rfl rfl (by decide) rfl (by decide) (by omega) (by omega) rfl (fun hf38a hf38b => ?_)
              refine pw_ld E (pc' := 87) (st' := [.ref 32, pw_i (pw_g h27 20 (k60_8.toNat)), .long (Int64.ofInt k70_6)]) rfl (fun _ => rfl) ?_
              refine pw_getR (b := 37) h27I E (c := 16) (k := 4) (pc' := 90) rfl rfl rfl rfl rfl rfl rfl ?_
              refine pw_ld E (pc' := 92) (st' := [pw_i k70_9, .ref 37, pw_i (pw_g h27 20 (k60_8.toNat)), .long (Int64.ofInt k70_6)]) rfl (fun _ => rfl) ?_
              refine pw_ald2 h27I E (c := 21) (pc' := 93) rfl rfl rfl (by decide) rfl (by decide) (by omega) (by omega) rfl (fun hf39a hf39b => ?_)
              refine pw_call (m' := 327) (As := [pw_i (pw_g h27 20 (k60_8.toNat)), pw_i (pw_g h27 21 (k70_9.toNat))]) (rest := [.long (Int64.ofInt k70_6)]) (ls'' := [some (pw_i (pw_g h27 20 (k60_8.toNat))), some (pw_i (pw_g h27 21 (k70_9.toNat)))]) (Nat.le_trans (by decide) hd) E rfl (fun _ => pw_iS rfl rfl rfl) (rfl : pm_ent 327 = some (2, 2, 15, 0, pmc_327)) rfl rfl (cm_327_s (pw_dp hd (by decide)) h27I (pw_g h27 20 (k60_8.toNat)) (by omega) (by omega) (pw_g h27 21 (k70_9.toNat)) (by omega) (by omega)) ?_
              rintro u41 v40 ⟨rfl, x42, rfl, hx42a, hx42b, hx42r⟩
              refine ⟨_, rfl, ?_⟩
              show pw X d h27 90 96 [some (.ref 32), some (pw_i k0), some (.ref 38), some (pw_i x21), some (pw_i x25), some (pw_i x29), some (.long (Int64.ofInt k70_6)), none, some (pw_i k60_8), some (pw_i k70_9)] [pw_i x42, .long (Int64.ofInt k70_6)] _
              change x42 = pl_sg ((pw_g h27 20 (k60_8.toNat)) - (pw_g h27 21 (k70_9.toNat))) at hx42r
              have o1 := pl_iS (g := pw_g h27 21) (u := pw_g h27 20 (k60_8).toNat) (sgn := pl_sg (pv_U (pw_g h 17) (pw_g h 18))) (j := k70_9) (by omega)
              rw [← hx42r, ← hsg] at o1
              refine pw_ld E (pc' := 97) (st' := [pw_i x21, pw_i x42, .long (Int64.ofInt k70_6)]) rfl (fun _ => rfl) ?_
              refine pw_if2 E (pc' := 104) rfl (by decide) (by omega) (by omega) (by omega) (by omega) ?_ ?_
              · intro hc43
                change x42 ≠ x21 at hc43
                refine pw_ld E (pc' := 105) (st' := [.long (Int64.ofInt 0), .long (Int64.ofInt k70_6)]) rfl (fun _ => rfl) ?_
                refine pw_ladd E (pc' := 106) rfl rfl ?_
                refine pw_lst E (pc' := 108) (ls' := [some (.ref 32), some (pw_i k0), some (.ref 38), some (pw_i x21), some (pw_i x25), some (pw_i x29), some (.long (Int64.ofInt (k70_6 + 0))), none, some (pw_i k60_8), some (pw_i k70_9)]) rfl rfl rfl rfl ?_
                have o2 := o1.2 (by omega)
                rw [hsg] at o2
                refine pw_inc E (pc' := 111) (ls' := [some (.ref 32), some (pw_i k0), some (.ref 38), some (pw_i x21), some (pw_i x25), some (pw_i x29), some (.long (Int64.ofInt (k70_6 + 0))), none, some (pw_i k60_8), some (pw_i (k70_9 + 1))]) rfl rfl rfl rfl ?_
                refine pw_goto E (pc' := 70) rfl (by decide) ?_
                exact ih70 _ (by omega) (k70_6 + 0) (k70_9 + 1)  (by omega) (by omega) (by omega) (by omega) (by omega) (by omega) (by omega) rfl
              · intro hc44
                change ¬ (x42 ≠ x21) at hc44
                refine pw_ld E (pc' := 101) (st' := [.long (Int64.ofInt 1), .long (Int64.ofInt k70_6)]) rfl (fun _ => rfl) ?_
                refine pw_goto E (pc' := 105) rfl (by decide) ?_
                refine pw_ladd E (pc' := 106) rfl rfl ?_
                refine pw_lst E (pc' := 108) (ls' := [some (.ref 32), some (pw_i k0), some (.ref 38), some (pw_i x21), some (pw_i x25), some (pw_i x29), some (.long (Int64.ofInt (k70_6 + 1))), none, some (pw_i k60_8), some (pw_i k70_9)]) rfl rfl rfl rfl ?_
                have o2 := o1.1 (by omega)
                rw [hsg] at o2
                refine pw_inc E (pc' := 111) (ls' := [some (.ref 32), some (pw_i k0), some (.ref 38), some (pw_i x21), some (pw_i x25), some (pw_i x29), some (.long (Int64.ofInt (k70_6 + 1))), none, some (pw_i k60_8), some (pw_i (k70_9 + 1))]) rfl rfl rfl rfl ?_
                refine pw_goto E (pc' := 70) rfl (by decide) ?_
                exact ih70 _ (by omega) (k70_6 + 1) (k70_9 + 1)  (by omega) (by omega) (by omega) (by omega) (by omega) (by omega) (by omega) rfl
        exact L70 _ (k60_6) (0)  (by omega) (by omega) (by omega) (by omega) (by show _ = _ + (0 : Int); omega) (by omega) (by omega) rfl
  exact L60 _ (0) (0) (none)  (by omega) (by omega) (by omega) (by omega) rfl (by omega) (by omega) rfl
end
section
/-! lots of the class, exactly -/
set_option maxHeartbeats 4000000 in
theorem cm_162_s {X : List (Nat × List Value)} {d : Nat} {h : pm_H} (hd : 5 ≤ d) (I : pw_I h) (b : Int) (hb1 : 0 ≤ b) (hb2 : b ≤ 11) (e : Int) (he1 : 0 ≤ e) (he2 : e ≤ 11) : pw X d h 162 0 [some (.ref 16), some (pw_i b), some (pw_i e)] [] (fun h' v => pw_I h' ∧ pw_E [17, 18] h h' ∧ (pv_FL h' (pv_sdc h b e) (pv_chc h b e) 24) ∧ (∃ a : Int, v = .inl (some (pw_i a)) ∧ 0 ≤ a ∧ a ≤ 9 ∧ (((9 < pv_N (pv_sdc h b e) 0 24 ∨ 9 < pv_N (pv_sdc h b e) 1 24) ∧ a = 0) ∨ (pv_N (pv_sdc h b e) 0 24 ≤ 9 ∧ pv_N (pv_sdc h b e) 1 24 ≤ 9 ∧ a = min (pv_N (pv_sdc h b e) 0 24) (pv_N (pv_sdc h b e) 1 24))))) := by
  have E : pm_ent 162 = some (3, 3, 11, 0, pmc_162) := rfl
  have E0 : pw_E [17, 18] h h := pw_E.rf _ _
  refine pw_ld E (pc' := 1) (st' := [.ref 16]) rfl (fun _ => rfl) ?_
  refine pw_ld E (pc' := 2) (st' := [pw_i b, .ref 16]) rfl (fun _ => rfl) ?_
  refine pw_ld E (pc' := 3) (st' := [pw_i e, pw_i b, .ref 16]) rfl (fun _ => rfl) ?_
  obtain ⟨f1l, f1h, -⟩ := pw_obj (c := 0) I rfl
  refine pw_call (m' := 138) (As := [.ref 16, pw_i b, pw_i e]) (rest := []) (ls'' := [some (.ref 16), some (pw_i b), some (pw_i e), none]) (Nat.le_trans (by decide) hd) E rfl (fun _ => pw_iV rfl rfl rfl rfl (pw_cellI f1h rfl)) (rfl : pm_ent 138 = some (3, 4, 11, 4, pmc_138)) rfl rfl (cm_138_s (pw_dp hd (by decide)) I (b) (by omega) (by omega) (e) (by omega) (by omega)) ?_
  rintro h2 v3 ⟨h2I, h2E, hqfill, rfl⟩
  refine ⟨_, rfl, ?_⟩
  have h2F := E0.tr (h2E.wk (W' := [17, 18]) (by first | rfl | simp))
  show pw X d h2 162 6 [some (.ref 16), some (pw_i b), some (pw_i e)] [] _
  obtain ⟨-, -, -, eN0, eN1⟩ := hqfill.eq
  have nB0 := pv_NB (sd := pv_sdc h b e) (s := 0) 24
  have nB1 := pv_NB (sd := pv_sdc h b e) (s := 1) 24
  refine pw_ld E (pc' := 7) (st' := [.ref 16]) rfl (fun _ => rfl) ?_
  refine pw_getR (b := 32) h2I E (c := 0) (k := 7) (pc' := 10) rfl rfl rfl rfl rfl rfl rfl ?_
  refine pw_ld E (pc' := 11) (st' := [pw_i 0, .ref 32]) rfl (fun _ => rfl) ?_
  obtain ⟨f4l, f4h, -⟩ := pw_obj (c := 16) h2I rfl
  refine pw_call (m' := 84) (As := [.ref 32, pw_i 0]) (rest := []) (ls'' := [some (.ref 32), some (pw_i 0), none, none]) (Nat.le_trans (by decide) hd) E rfl (fun _ => pw_iV rfl rfl rfl rfl (pw_cellI f4h rfl)) (rfl : pm_ent 84 = some (2, 4, 8, 0, pmc_84)) rfl rfl (cm_84_s (pw_dp hd (by decide)) h2I (0) (by omega) (by omega)) ?_
  rintro u6 v5 ⟨rfl, x7, rfl, hx7a, hx7b, hx7r⟩
  refine ⟨_, rfl, ?_⟩
  show pw X d h2 162 14 [some (.ref 16), some (pw_i b), some (pw_i e)] [pw_i x7] _
  change x7 = pv_N (pw_g h2 17) 0 24 at hx7r
  refine pw_bip E (pc' := 16) rfl rfl (by decide) ?_
  refine pw_if2 E (pc' := 32) rfl (by decide) (by omega) (by omega) (by decide) (by decide) ?_ ?_
  · intro hc8
    change (9 : Int) < x7 at hc8
    refine pw_ld E (pc' := 33) (st' := [pw_i 0]) rfl (fun _ => rfl) ?_
    refine pw_iret E rfl ?_
    exact ⟨h2I, h2F, ⟨hqfill, ⟨_, rfl, by omega, by omega, by omega⟩⟩⟩
  · intro hc9
    change ¬ ((9 : Int) < x7) at hc9
    refine pw_ld E (pc' := 20) (st' := [.ref 16]) rfl (fun _ => rfl) ?_
    refine pw_getR (b := 32) h2I E (c := 0) (k := 7) (pc' := 23) rfl rfl rfl rfl rfl rfl rfl ?_
    refine pw_ld E (pc' := 24) (st' := [pw_i 1, .ref 32]) rfl (fun _ => rfl) ?_
    obtain ⟨f10l, f10h, -⟩ := pw_obj (c := 16) h2I rfl
    refine pw_call (m' := 84) (As := [.ref 32, pw_i 1]) (rest := []) (ls'' := [some (.ref 32), some (pw_i 1), none, none]) (Nat.le_trans (by decide) hd) E rfl (fun _ => pw_iV rfl rfl rfl rfl (pw_cellI f10h rfl)) (rfl : pm_ent 84 = some (2, 4, 8, 0, pmc_84)) rfl rfl (cm_84_s (pw_dp hd (by decide)) h2I (1) (by omega) (by omega)) ?_
    rintro u12 v11 ⟨rfl, x13, rfl, hx13a, hx13b, hx13r⟩
    refine ⟨_, rfl, ?_⟩
    show pw X d h2 162 27 [some (.ref 16), some (pw_i b), some (pw_i e)] [pw_i x13] _
    change x13 = pv_N (pw_g h2 17) 1 24 at hx13r
    refine pw_bip E (pc' := 29) rfl rfl (by decide) ?_
    refine pw_if2 E (pc' := 34) rfl (by decide) (by omega) (by omega) (by decide) (by decide) ?_ ?_
    · intro hc14
      change x13 ≤ (9 : Int) at hc14
      refine pw_ld E (pc' := 35) (st' := [.ref 16]) rfl (fun _ => rfl) ?_
      refine pw_getR (b := 32) h2I E (c := 0) (k := 7) (pc' := 38) rfl rfl rfl rfl rfl rfl rfl ?_
      refine pw_ld E (pc' := 39) (st' := [pw_i 0, .ref 32]) rfl (fun _ => rfl) ?_
      obtain ⟨f15l, f15h, -⟩ := pw_obj (c := 16) h2I rfl
      refine pw_call (m' := 84) (As := [.ref 32, pw_i 0]) (rest := []) (ls'' := [some (.ref 32), some (pw_i 0), none, none]) (Nat.le_trans (by decide) hd) E rfl (fun _ => pw_iV rfl rfl rfl rfl (pw_cellI f15h rfl)) (rfl : pm_ent 84 = some (2, 4, 8, 0, pmc_84)) rfl rfl (cm_84_s (pw_dp hd (by decide)) h2I (0) (by omega) (by omega)) ?_
      rintro u17 v16 ⟨rfl, x18, rfl, hx18a, hx18b, hx18r⟩
      refine ⟨_, rfl, ?_⟩
      show pw X d h2 162 42 [some (.ref 16), some (pw_i b), some (pw_i e)] [pw_i x18] _
      change x18 = pv_N (pw_g h2 17) 0 24 at hx18r
      refine pw_ld E (pc' := 43) (st' := [.ref 16, pw_i x18]) rfl (fun _ => rfl) ?_
      refine pw_getR (b := 32) h2I E (c := 0) (k := 7) (pc' := 46) rfl rfl rfl rfl rfl rfl rfl ?_
      refine pw_ld E (pc' := 47) (st' := [pw_i 1, .ref 32, pw_i x18]) rfl (fun _ => rfl) ?_
      obtain ⟨f19l, f19h, -⟩ := pw_obj (c := 16) h2I rfl
      refine pw_call (m' := 84) (As := [.ref 32, pw_i 1]) (rest := [pw_i x18]) (ls'' := [some (.ref 32), some (pw_i 1), none, none]) (Nat.le_trans (by decide) hd) E rfl (fun _ => pw_iV rfl rfl rfl rfl (pw_cellI f19h rfl)) (rfl : pm_ent 84 = some (2, 4, 8, 0, pmc_84)) rfl rfl (cm_84_s (pw_dp hd (by decide)) h2I (1) (by omega) (by omega)) ?_
      rintro u21 v20 ⟨rfl, x22, rfl, hx22a, hx22b, hx22r⟩
      refine ⟨_, rfl, ?_⟩
      show pw X d h2 162 50 [some (.ref 16), some (pw_i b), some (pw_i e)] [pw_i x22, pw_i x18] _
      change x22 = pv_N (pw_g h2 17) 1 24 at hx22r
      refine pw_min E rfl rfl (by omega) (by omega) (by omega) (by omega) rfl ?_
      refine pw_iret E rfl ?_
      exact ⟨h2I, h2F, ⟨hqfill, ⟨_, rfl, by omega, by omega, by omega⟩⟩⟩
    · intro hc23
      change ¬ (x13 ≤ (9 : Int)) at hc23
      refine pw_ld E (pc' := 33) (st' := [pw_i 0]) rfl (fun _ => rfl) ?_
      refine pw_iret E rfl ?_
      exact ⟨h2I, h2F, ⟨hqfill, ⟨_, rfl, by omega, by omega, by omega⟩⟩⟩
set_option maxHeartbeats 4000000 in
theorem cm_13_22a {X : List (Nat × List Value)} {d : Nat} {h : pm_H} (hd : 1 ≤ d) (I : pw_I h) (x : Int) (hx1 : 1 ≤ x) (hx2 : x ≤ 100) (y : Int) (hy1 : 100 ≤ y) (hy2 : y ≤ 100) (hp0 : 0 ≤ pw_gm h 22 0) (hp1 : pw_gm h 22 0 ≤ 262144) (hp2 : 0 ≤ pw_gm h 22 1) (hp3 : pw_gm h 22 1 ≤ 262144) : pw X d h 13 0 [some (.ref 38), some (.long (Int64.ofInt x)), none, some (.long (Int64.ofInt y)), none] [] (fun h' v => h = h' ∧ ∃ a : Int, v = .inl (some (pw_i a)) ∧ 0 ≤ a ∧ a ≤ 1 ∧ ((a = 1 ∧ x * pw_gm h 22 1 ≤ pw_gm h 22 0 * y) ∨ (a = 0 ∧ ¬ (x * pw_gm h 22 1 ≤ pw_gm h 22 0 * y)))) := by
  have E : pm_ent 13 = some (3, 5, 1, 1, pmc_13) := rfl
  refine pw_ld E (pc' := 1) (st' := [.ref 38]) rfl (fun _ => rfl) ?_
  refine pw_getLM I E (c := 22) (k := 0) (pc' := 4) rfl rfl rfl rfl rfl rfl ?_
  refine pw_ld E (pc' := 5) (st' := [.long (Int64.ofInt y), .long (Int64.ofInt (pw_gm h 22 0))]) rfl (fun _ => rfl) ?_
  have hm1 := pw_mulB (a := pw_gm h 22 0) (b := y) (A := 262144) (B := 100) (by omega) (by omega) (by omega) (by omega)
  refine pw_lmul E (pc' := 6) rfl rfl ?_
  refine pw_ld E (pc' := 7) (st' := [.long (Int64.ofInt x), .long (Int64.ofInt ((pw_gm h 22 0) * y))]) rfl (fun _ => rfl) ?_
  refine pw_ld E (pc' := 8) (st' := [.ref 38, .long (Int64.ofInt x), .long (Int64.ofInt ((pw_gm h 22 0) * y))]) rfl (fun _ => rfl) ?_
  refine pw_getLM I E (c := 22) (k := 1) (pc' := 11) rfl rfl rfl rfl rfl rfl ?_
  have hm2 := pw_mulB (a := x) (b := pw_gm h 22 1) (A := 100) (B := 262144) (by omega) (by omega) (by omega) (by omega)
  refine pw_lmul E (pc' := 12) rfl rfl ?_
  refine pw_lcmpC E (pc' := 13) rfl rfl (by omega) (by omega) (by omega) (by omega) (fun c3 hc3 => ?_)
  refine pw_if E (pc' := 20) rfl (by decide) (by omega) (by omega) ?_ ?_
  · intro hc4
    change c3 < (0 : Int) at hc4
    refine pw_ld E (pc' := 21) (st' := [pw_i 0]) rfl (fun _ => rfl) ?_
    refine pw_zret E rfl (by omega) ?_
    exact ⟨rfl, ⟨_, rfl, by omega, by omega, by omega⟩⟩
  · intro hc5
    change ¬ (c3 < (0 : Int)) at hc5
    refine pw_ld E (pc' := 17) (st' := [pw_i 1]) rfl (fun _ => rfl) ?_
    refine pw_goto E (pc' := 21) rfl (by decide) ?_
    refine pw_zret E rfl (by omega) ?_
    exact ⟨rfl, ⟨_, rfl, by omega, by omega, by omega⟩⟩
end
section
/-! needed of the class, exactly -/
set_option maxHeartbeats 4000000 in
theorem cm_163_s {X : List (Nat × List Value)} {d : Nat} {h : pm_H} (hd : 6 ≤ d) (I : pw_I h) (b : Int) (hb1 : (-2147483648) ≤ b) (hb2 : b ≤ 2147483647) (e : Int) (he1 : (-2147483648) ≤ e) (he2 : e ≤ 2147483647) (p : Int) (hp1 : (-2147483648) ≤ p) (hp2 : p ≤ 2147483647) : pw X d h 163 0 [some (.ref 16), some (pw_i b), some (pw_i e), some (pw_i p), none, none] [] (fun h' v => pw_I h' ∧ pw_E [17, 18, 19, 20, 21, 22] h h' ∧ ∃ a : Int, v = .inl (some (pw_i a)) ∧ (-1) ≤ a ∧ a ≤ 10 ∧ (((0 ≤ b ∧ b ≤ 11 ∧ 0 ≤ e ∧ e ≤ 11 ∧ b ≠ e ∧ 1 ≤ p ∧ p ≤ 100) ∧ 1 ≤ a ∧ pl_gd (pv_sdc h b e) (pv_chc h b e) p a ∧ ∀ j : Int, 1 ≤ j → j < a → ¬ pl_gd (pv_sdc h b e) (pv_chc h b e) p j) ∨ (a = -1 ∧ (¬ (0 ≤ b ∧ b ≤ 11 ∧ 0 ≤ e ∧ e ≤ 11 ∧ b ≠ e ∧ 1 ≤ p ∧ p ≤ 100) ∨ ∀ j : Int, 1 ≤ j → ¬ pl_gd (pv_sdc h b e) (pv_chc h b e) p j)))) := by
  have E : pm_ent 163 = some (4, 6, 11, 0, pmc_163) := rfl
  have E0 : pw_E [17, 18, 19, 20, 21, 22] h h := pw_E.rf _ _
  refine pw_ld E (pc' := 1) (st' := [pw_i b]) rfl (fun _ => rfl) ?_
  refine pw_ld E (pc' := 2) (st' := [pw_i e, pw_i b]) rfl (fun _ => rfl) ?_
  refine pw_call (m' := 131) (As := [pw_i b, pw_i e]) (rest := []) (ls'' := [some (pw_i b), some (pw_i e)]) (Nat.le_trans (by decide) hd) E rfl (fun _ => pw_iS rfl rfl rfl) (rfl : pm_ent 131 = some (2, 2, 11, 1, pmc_131)) rfl rfl (cm_131_s (pw_dp hd (by decide)) I (b) (by omega) (by omega) (e) (by omega) (by omega)) ?_
  rintro u2 v1 ⟨rfl, x3, rfl, hx3a, hx3b, hx3r⟩
  refine ⟨_, rfl, ?_⟩
  show pw X d h 163 5 [some (.ref 16), some (pw_i b), some (pw_i e), some (pw_i p), none, none] [pw_i x3] _
  change (x3 = 1 ∧ 0 ≤ b ∧ b ≤ 11 ∧ 0 ≤ e ∧ e ≤ 11 ∧ b ≠ e) ∨ (x3 = 0 ∧ ¬ (0 ≤ b ∧ b ≤ 11 ∧ 0 ≤ e ∧ e ≤ 11 ∧ b ≠ e)) at hx3r
  rcases (by omega : x3 = 1 ∨ x3 = 0) with hb4 | hb4
  · skip
    refine pw_if E (pc' := 18) rfl (by decide) (by omega) (by omega) ?_ ?_
    · intro hc5
      change x3 = (0 : Int) at hc5
      exfalso; omega
    · intro hc6
      change ¬ (x3 = (0 : Int)) at hc6
      refine pw_ld E (pc' := 9) (st' := [pw_i p]) rfl (fun _ => rfl) ?_
      refine pw_ld E (pc' := 10) (st' := [pw_i 1, pw_i p]) rfl (fun _ => rfl) ?_
      refine pw_bip E (pc' := 12) rfl rfl (by decide) ?_
      refine pw_call (m' := 121) (As := [pw_i p, pw_i 1, pw_i 100]) (rest := []) (ls'' := [some (pw_i p), some (pw_i 1), some (pw_i 100)]) (Nat.le_trans (by decide) hd) E rfl (fun _ => pw_iS rfl rfl rfl) (rfl : pm_ent 121 = some (3, 3, 11, 1, pmc_121)) rfl rfl (cm_121 (pw_dp hd (by decide)) I (p) (by omega) (by omega) (1) (by omega) (by omega) (100) (by omega) (by omega)) ?_
      rintro u8 v7 ⟨rfl, x9, rfl, hx9a, hx9b, hx9r⟩
      refine ⟨_, rfl, ?_⟩
      show pw X d h 163 15 [some (.ref 16), some (pw_i b), some (pw_i e), some (pw_i p), none, none] [pw_i x9] _
      change (x9 = 1 ∧ 1 ≤ p ∧ p ≤ 100) ∨ (x9 = 0 ∧ ¬ (1 ≤ p ∧ p ≤ 100)) at hx9r
      rcases (by omega : x9 = 1 ∨ x9 = 0) with hb10 | hb10
      · skip
        refine pw_if E (pc' := 20) rfl (by decide) (by omega) (by omega) ?_ ?_
        · intro hc11
          change x9 ≠ (0 : Int) at hc11
          refine pw_ld E (pc' := 21) (st' := [.ref 16]) rfl (fun _ => rfl) ?_
          refine pw_ld E (pc' := 22) (st' := [pw_i b, .ref 16]) rfl (fun _ => rfl) ?_
          refine pw_ld E (pc' := 23) (st' := [pw_i e, pw_i b, .ref 16]) rfl (fun _ => rfl) ?_
          obtain ⟨f12l, f12h, -⟩ := pw_obj (c := 0) I rfl
          refine pw_call (m' := 162) (As := [.ref 16, pw_i b, pw_i e]) (rest := []) (ls'' := [some (.ref 16), some (pw_i b), some (pw_i e)]) (Nat.le_trans (by decide) hd) E rfl (fun _ => pw_iV rfl rfl rfl rfl (pw_cellI f12h rfl)) (rfl : pm_ent 162 = some (3, 3, 11, 0, pmc_162)) rfl rfl (cm_162_s (pw_dp hd (by decide)) I (b) (by omega) (by omega) (e) (by omega) (by omega)) ?_
          rintro h13 v14 ⟨h13I, h13E, hqmd, x15, rfl, hx15a, hx15b, hx15r⟩
          refine ⟨_, rfl, ?_⟩
          have h13F := E0.tr (h13E.wk (W' := [17, 18, 19, 20, 21, 22]) (by first | rfl | simp))
          show pw X d h13 163 26 [some (.ref 16), some (pw_i b), some (pw_i e), some (pw_i p), none, none] [pw_i x15] _
          change ((9 < pv_N (pv_sdc h b e) 0 24 ∨ 9 < pv_N (pv_sdc h b e) 1 24) ∧ x15 = 0) ∨ (pv_N (pv_sdc h b e) 0 24 ≤ 9 ∧ pv_N (pv_sdc h b e) 1 24 ≤ 9 ∧ x15 = min (pv_N (pv_sdc h b e) 0 24) (pv_N (pv_sdc h b e) 1 24)) at hx15r
          refine pw_ist E (pc' := 28) (ls' := [some (.ref 16), some (pw_i b), some (pw_i e), some (pw_i p), some (pw_i x15), none]) rfl rfl rfl rfl ?_
          have nB0 := pv_NB (sd := pv_sdc h b e) (s := 0) 24
          have nB1 := pv_NB (sd := pv_sdc h b e) (s := 1) 24
          refine pw_ld E (pc' := 29) (st' := [pw_i 1]) rfl (fun _ => rfl) ?_
          refine pw_ist E (pc' := 31) (ls' := [some (.ref 16), some (pw_i b), some (pw_i e), some (pw_i p), some (pw_i x15), some (pw_i 1)]) rfl rfl rfl rfl ?_
          have L31 : ∀ (n31 : Nat) (k31_5 : Int) (gh31 : pm_H), pw_I gh31 → pw_E [17, 18, 19, 20, 21, 22] h gh31 → 1 ≤ k31_5 → k31_5 ≤ 10 → ((∀ j : Int, 1 ≤ j → j < k31_5 → ¬ pl_gd (pv_sdc h b e) (pv_chc h b e) p j)) → pv_FL gh31 (pv_sdc h b e) (pv_chc h b e) 24 → (10 - k31_5).toNat = n31 → pw X d gh31 163 31 [some (.ref 16), some (pw_i b), some (pw_i e), some (pw_i p), some (pw_i x15), some (pw_i k31_5)] [] (fun h' v => pw_I h' ∧ pw_E [17, 18, 19, 20, 21, 22] h h' ∧ ∃ a : Int, v = .inl (some (pw_i a)) ∧ (-1) ≤ a ∧ a ≤ 10 ∧ (((0 ≤ b ∧ b ≤ 11 ∧ 0 ≤ e ∧ e ≤ 11 ∧ b ≠ e ∧ 1 ≤ p ∧ p ≤ 100) ∧ 1 ≤ a ∧ pl_gd (pv_sdc h b e) (pv_chc h b e) p a ∧ ∀ j : Int, 1 ≤ j → j < a → ¬ pl_gd (pv_sdc h b e) (pv_chc h b e) p j) ∨ (a = -1 ∧ (¬ (0 ≤ b ∧ b ≤ 11 ∧ 0 ≤ e ∧ e ≤ 11 ∧ b ≠ e ∧ 1 ≤ p ∧ p ≤ 100) ∨ ∀ j : Int, 1 ≤ j → ¬ pl_gd (pv_sdc h b e) (pv_chc h b e) p j)))) := by
            intro n31
            induction n31 using Nat.strongRecOn with
            | ind n31 ih31 =>
              intro k31_5 gh31 I31 E31 k31_5a k31_5b hx31_0 hx31_1 hm31
              refine pw_ld E (pc' := 33) (st' := [pw_i k31_5]) rfl (fun _ => rfl) ?_
              refine pw_ld E (pc' := 35) (st' := [pw_i x15, pw_i k31_5]) rfl (fun _ => rfl) ?_
              refine pw_if2 E (pc' := 75) rfl (by decide) (by omega) (by omega) (by omega) (by omega) ?_ ?_
              · intro hc16
                change x15 < k31_5 at hc16
                refine pw_ld E (pc' := 76) (st' := [pw_i ((-1))]) rfl (fun _ => rfl) ?_
                refine pw_iret E rfl ?_
                exact ⟨I31, E31, ⟨_, rfl, by omega, by omega, Or.inr ⟨rfl, Or.inr (pl_nogd hx15r (by omega) hx31_0)⟩⟩⟩
              · intro hc17
                change ¬ (x15 < k31_5) at hc17
                have hqmd := hx31_1
                have hB : pv_Bd gh31 := hqmd.bd (pv_chcB I (by omega) (by omega) (by omega) (by omega))
                obtain ⟨-, -, -, eN0, eN1⟩ := hqmd.eq
                have hH : ∀ k : Nat, k < 24 → pw_g gh31 17 k = (pv_sdc h b e) k ∧ (pw_g gh31 17 k ≠ -1 → pw_g gh31 18 k = (pv_chc h b e) k) := fun k hk => by
                  obtain ⟨z1, z2⟩ := (hqmd k hk).1 (by omega)
                  exact ⟨z1, fun z => z2 (by rw [← z1]; exact z)⟩
                refine pw_ld E (pc' := 39) (st' := [.ref 16]) rfl (fun _ => rfl) ?_
                refine pw_getR (b := 32) I31 E (c := 0) (k := 7) (pc' := 42) rfl rfl rfl rfl rfl rfl rfl ?_
                refine pw_ld E (pc' := 44) (st' := [pw_i k31_5, .ref 32]) rfl (fun _ => rfl) ?_
                refine pw_ld E (pc' := 45) (st' := [.ref 16, pw_i k31_5, .ref 32]) rfl (fun _ => rfl) ?_
                refine pw_getR (b := 38) I31 E (c := 0) (k := 8) (pc' := 48) rfl rfl rfl rfl rfl rfl rfl ?_
                obtain ⟨f18l, f18h, -⟩ := pw_obj (c := 16) I31 rfl
                refine pw_call (m' := 90) (As := [.ref 32, pw_i k31_5, .ref 38]) (rest := []) (ls'' := [some (.ref 32), some (pw_i k31_5), some (.ref 38), none, none, none, none, none, none, none]) (Nat.le_trans (by decide) hd) E rfl (fun _ => pw_iV rfl rfl rfl rfl (pw_cellI f18h rfl)) (rfl : pm_ent 90 = some (3, 10, 8, 4, pmc_90)) rfl rfl (cm_90_s (pw_dp hd (by decide)) I31 (k31_5) (by omega) (by omega) hB (by omega) (by omega) (by omega) (by omega)) ?_
                rintro h19 v20 ⟨h19I, h19E, hqdn, rfl⟩
                refine ⟨_, rfl, ?_⟩
                have h19F := E31.tr (h19E.wk (W' := [17, 18, 19, 20, 21, 22]) (by first | rfl | simp))
                show pw X d h19 163 51 [some (.ref 16), some (pw_i b), some (pw_i e), some (pw_i p), some (pw_i x15), some (pw_i k31_5)] [] _
                have hXB := pl_XB (sd := pw_g gh31 17) (ch := pw_g gh31 18) (k := k31_5) (by omega) (by omega) (by omega) (by omega) (by omega)
                have gp := pw_gd_pos (x := pl_X (pw_g gh31 17) (pw_g gh31 18) k31_5) (y := pl_Y (pw_g gh31 17) k31_5) (by omega)
                have t1 := pw_tdB (a := pl_X (pw_g gh31 17) (pw_g gh31 18) k31_5) (b := pw_gd (pl_X (pw_g gh31 17) (pw_g gh31 18) k31_5) (pl_Y (pw_g gh31 17) k31_5)) (A := 262144) (by omega) (by omega) (by omega)
                have t2 := pw_tdB (a := pl_Y (pw_g gh31 17) k31_5) (b := pw_gd (pl_X (pw_g gh31 17) (pw_g gh31 18) k31_5) (pl_Y (pw_g gh31 17) k31_5)) (A := 262144) (by omega) (by omega) (by omega)
                have d0 := hqdn.1
                have d1 := hqdn.2
                have hFL2 : pv_FL h19 (pv_sdc h b e) (pv_chc h b e) 24 := fun k hk => by rw [pw_Eg (c := 17) I31 h19E rfl rfl k, pw_Eg (c := 18) I31 h19E rfl rfl k]; exact hx31_1 k hk
                refine pw_ld E (pc' := 52) (st' := [.ref 16]) rfl (fun _ => rfl) ?_
                refine pw_getR (b := 38) h19I E (c := 0) (k := 8) (pc' := 55) rfl rfl rfl rfl rfl rfl rfl ?_
                refine pw_ld E (pc' := 56) (st' := [pw_i p, .ref 38]) rfl (fun _ => rfl) ?_
                refine pw_i2l E (pc' := 57) rfl rfl (by omega) (by omega) ?_
                refine pw_ld E (pc' := 60) (st' := [.long (Int64.ofInt 100), .long (Int64.ofInt p), .ref 38]) rfl (fun _ => rfl) ?_
                obtain ⟨f21l, f21h, -⟩ := pw_obj (c := 22) h19I rfl
                refine pw_call (m' := 13) (As := [.ref 38, .long (Int64.ofInt p), .long (Int64.ofInt 100)]) (rest := []) (ls'' := [some (.ref 38), some (.long (Int64.ofInt p)), none, some (.long (Int64.ofInt 100)), none]) (Nat.le_trans (by decide) hd) E rfl (fun _ => pw_iV rfl rfl rfl rfl (pw_cellI f21h rfl)) (rfl : pm_ent 13 = some (3, 5, 1, 1, pmc_13)) rfl rfl (cm_13_22a (pw_dp hd (by decide)) h19I (p) (by omega) (by omega) (100) (by omega) (by omega) (by omega) (by omega) (by omega) (by omega)) ?_
                rintro u23 v22 ⟨rfl, x24, rfl, hx24a, hx24b, hx24r⟩
                refine ⟨_, rfl, ?_⟩
                show pw X d h19 163 63 [some (.ref 16), some (pw_i b), some (pw_i e), some (pw_i p), some (pw_i x15), some (pw_i k31_5)] [pw_i x24] _
                change (x24 = 1 ∧ p * pw_gm h19 22 1 ≤ pw_gm h19 22 0 * 100) ∨ (x24 = 0 ∧ ¬ (p * pw_gm h19 22 1 ≤ pw_gm h19 22 0 * 100)) at hx24r
                rcases (by omega : x24 = 1 ∨ x24 = 0) with hb25 | hb25
                · skip
                  have hge := pl_ge (p := p) (by omega : 0 < pl_Y (pw_g gh31 17) k31_5) d0 d1
                  rw [(pl_cg hH).1, (pl_cg hH).2] at hge
                  have hok : pl_ok (pv_sdc h b e) k31_5 := ⟨by omega, by omega, by omega, by omega⟩
                  refine pw_if E (pc' := 69) rfl (by decide) (by omega) (by omega) ?_ ?_
                  · intro hc26
                    change x24 = (0 : Int) at hc26
                    exfalso; omega
                  · intro hc27
                    change ¬ (x24 = (0 : Int)) at hc27
                    have hgd : pl_gd (pv_sdc h b e) (pv_chc h b e) p k31_5 := ⟨hok, hge.mp (hx24r.resolve_right (fun q => by have := q.1; omega)).2⟩
                    refine pw_ld E (pc' := 68) (st' := [pw_i k31_5]) rfl (fun _ => rfl) ?_
                    refine pw_iret E rfl ?_
                    exact ⟨h19I, h19F, ⟨_, rfl, by omega, by omega, Or.inl ⟨by omega, by omega, hgd, hx31_0⟩⟩⟩
                · skip
                  have hge := pl_ge (p := p) (by omega : 0 < pl_Y (pw_g gh31 17) k31_5) d0 d1
                  rw [(pl_cg hH).1, (pl_cg hH).2] at hge
                  have hok : pl_ok (pv_sdc h b e) k31_5 := ⟨by omega, by omega, by omega, by omega⟩
                  refine pw_if E (pc' := 69) rfl (by decide) (by omega) (by omega) ?_ ?_
                  · intro hc29
                    change x24 = (0 : Int) at hc29
                    have hgd : ¬ pl_gd (pv_sdc h b e) (pv_chc h b e) p k31_5 := fun q => (hx24r.resolve_left (fun q => by have := q.1; omega)).2 (hge.mpr q.2)
                    refine pw_inc E (pc' := 72) (ls' := [some (.ref 16), some (pw_i b), some (pw_i e), some (pw_i p), some (pw_i x15), some (pw_i (k31_5 + 1))]) rfl rfl rfl rfl ?_
                    refine pw_goto E (pc' := 31) rfl (by decide) ?_
                    exact ih31 _ (by omega) (k31_5 + 1) h19 h19I h19F (by omega) (by omega) (pl_nx hx31_0 hgd) hFL2 rfl
                  · intro hc30
                    change ¬ (x24 = (0 : Int)) at hc30
                    exfalso; omega
          exact L31 _ (1) h13 h13I h13F (by omega) (by omega) (fun j h1 h2 => by omega) hqmd rfl
        · intro hc31
          change ¬ (x9 ≠ (0 : Int)) at hc31
          exfalso; omega
      · skip
        refine pw_if E (pc' := 20) rfl (by decide) (by omega) (by omega) ?_ ?_
        · intro hc33
          change x9 ≠ (0 : Int) at hc33
          exfalso; omega
        · intro hc34
          change ¬ (x9 ≠ (0 : Int)) at hc34
          refine pw_ld E (pc' := 19) (st' := [pw_i ((-1))]) rfl (fun _ => rfl) ?_
          refine pw_iret E rfl ?_
          exact ⟨I, E0, ⟨_, rfl, by omega, by omega, Or.inr ⟨rfl, Or.inl (by omega)⟩⟩⟩
  · skip
    refine pw_if E (pc' := 18) rfl (by decide) (by omega) (by omega) ?_ ?_
    · intro hc36
      change x3 = (0 : Int) at hc36
      refine pw_ld E (pc' := 19) (st' := [pw_i ((-1))]) rfl (fun _ => rfl) ?_
      refine pw_iret E rfl ?_
      exact ⟨I, E0, ⟨_, rfl, by omega, by omega, Or.inr ⟨rfl, Or.inl (by omega)⟩⟩⟩
    · intro hc37
      change ¬ (x3 = (0 : Int)) at hc37
      exfalso; omega
end
