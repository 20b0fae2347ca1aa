/-! the steps of the number machine, against those of the picture machine: what leaves the heap alone -/
def pz_S (V : pz_V) (ih : pz_J) (x : pm_I) (d : Nat) (M : pz_M) : Prop := ∀ C h pc L st os, pz_k V C → ih C d h M pc L st = some os → pz_T V os (x d (pz_h V h) M.1 pc (pz_l V M.2.1 L) (st.map (pz_v V)))
theorem pz_loc {V : pz_V} {nl L k : Nat} (hk : k < nl) : pm_nth (pz_l V nl L) k = some (pz_o V (pz_sl L k)) := by
  rw [pm_nth_eq]
  exact pz_l_get hk
theorem pz_cat (V : pz_V) (c : Nat) : (pz_v V c).category = if c % 4 = 1 then 2 else 1 := by
  rcases (by omega : c % 8 = 0 ∨ c % 8 = 1 ∨ c % 8 = 2 ∨ c % 8 = 3 ∨ c % 8 = 4 ∨ c % 8 = 5 ∨ c % 8 = 6 ∨ c % 8 = 7) with h | h | h | h | h | h | h | h
  · rw [pz_v0 h, if_neg (by omega)]; rfl
  · rw [pz_v1 h, if_pos (by omega)]; rfl
  · rw [pz_v2 h, if_neg (by omega)]; rfl
  · rw [pz_v3 h, if_neg (by omega)]; rfl
  · rw [pz_v4 h, if_neg (by omega)]; rfl
  · rw [pz_v5 h, if_pos (by omega)]; rfl
  · rw [if_neg (by omega)]
    unfold pz_v
    rw [if_neg (by omega), if_neg (by omega), if_neg (by omega), if_neg (by omega), if_neg (by omega)]; rfl
  · rw [if_neg (by omega)]
    unfold pz_v
    rw [if_neg (by omega), if_neg (by omega), if_neg (by omega), if_neg (by omega), if_neg (by omega)]; rfl
theorem pz_o7 (V : pz_V) : pz_o V 7 = none := rfl
theorem pz_kill_eq {V : pz_V} {nl L k : Nat} (hk : k < nl) : pm_kill (pz_l V nl L) k = pz_l V nl (pz_kill L k) := by
  cases k with
  | zero => rfl
  | succ j =>
    show (match pm_nth (pz_l V nl L) j with
      | some (some v) => cond (Nat.beq v.category 2) (pm_set (pz_l V nl L) j none) (pz_l V nl L)
      | _ => pz_l V nl L) = pz_l V nl (cond (Nat.beq (Nat.mod (pz_sl L j) 4) 1) (pz_up L j 7) L)
    rw [pz_loc (by omega)]
    by_cases h7 : pz_sl L j % 8 = 7
    · have e : pz_o V (pz_sl L j) = none := if_pos h7
      have e2 : Nat.beq (Nat.mod (pz_sl L j) 4) 1 = false := pz_beq_f (by show pz_sl L j % 4 ≠ 1; omega)
      rw [e, e2]; rfl
    · rw [pz_o_some h7]
      dsimp only
      rw [pz_cat]
      by_cases h1 : pz_sl L j % 4 = 1
      · have e2 : Nat.beq (Nat.mod (pz_sl L j) 4) 1 = true := by
          have e3 : Nat.mod (pz_sl L j) 4 = 1 := h1
          rw [e3]; rfl
        rw [if_pos h1, e2, cond_true, show Nat.beq 2 2 = true from rfl, cond_true, pm_set_eq, pz_l_up (by decide), pz_o7]
      · have e2 : Nat.beq (Nat.mod (pz_sl L j) 4) 1 = false := pz_beq_f h1
        rw [if_neg h1, e2]; rfl
theorem pz_put1 {V : pz_V} {nl L k c : Nat} {v : Value} (hk : k < nl) (hc : c < 2 ^ 72) (hv : pz_o V c = some v) : pm_put1 (pz_l V nl L) k v = pz_l V nl (pz_up (pz_kill L k) k c) := by
  unfold pm_put1
  rw [pz_kill_eq hk, pm_set_eq, pz_l_up hc, hv]
theorem pz_put2 {V : pz_V} {nl L k c : Nat} {v : Value} (hk : k < nl) (hc : c < 2 ^ 72) (hv : pz_o V c = some v) : pm_put2 (pz_l V nl L) k v = pz_l V nl (pz_up (pz_up (pz_kill L k) k c) (k + 1) 7) := by
  unfold pm_put2
  rw [pz_kill_eq hk, pm_set_eq, pm_set_eq, pz_l_up (by decide), pz_l_up hc, hv, pz_o7]
/-- what the symbols beyond the script stand for: 7 the call's number; longs: of an int less 1, of an int, that in the upper half, in the lower, of two ints -/
def pz_sym (V : pz_V) : Prop := V.1 7 = V.1 0 &&& 63 ∧ (∀ i, i < 16 → V.2.1 i = (V.1 i).toInt64 - 1) ∧ (∀ i, i < 16 → V.2.1 (16 + i) = (V.1 i).toInt64) ∧ (∀ i, i < 16 → V.2.1 (32 + i) = V.2.1 (16 + i) <<< ((32 : Int32).toInt64 &&& 63)) ∧ (∀ i, i < 16 → V.2.1 (48 + i) = V.2.1 (16 + i) &&& Int64.ofNat 4294967295) ∧ ∀ i j, i < 16 → j < 16 → V.2.1 (64 + (16 * i + j)) = V.2.1 (32 + i) ||| V.2.1 (48 + j)
theorem pz_small_lt {c : Nat} (h : pz_small c = true) : c < 2 ^ 72 := pm_blt h
section PzS
variable {V : pz_V} {ih : pz_J} {x : pm_I} {C : pz_E} {d : Nat} {h : pz_H} {M : pz_M} {pc len L : Nat} {st : List Nat} {os : List pz_O}
theorem pz_tC {a : Nat} {v : Value} (hK : pz_S V ih x d M) (hC : pz_k V C) (hv : pz_v V a = v) (hr : pz_gC a ih C d h M pc len L st = some os) : pz_T V os (pm_sC v (x d (pz_h V h) M.1) pc len (pz_l V M.2.1 L) (st.map (pz_v V))) := by
  unfold pz_gC at hr
  rw [pz_nx_eq] at hr
  have := hK _ _ _ _ _ _ hC hr
  unfold pm_sC
  rw [pm_fn_eq, ← hv]
  exact this
theorem pz_tIld {k : Nat} (hK : pz_S V ih x d M) (hC : pz_k V C) (hk : k < M.2.1) (hr : pz_gIld k ih C d h M pc len L st = some os) : pz_T V os (pm_sIld k (x d (pz_h V h) M.1) pc len (pz_l V M.2.1 L) (st.map (pz_v V))) := by
  unfold pz_gIld at hr
  rw [pm_fn_eq] at hr
  obtain ⟨h4, hr⟩ := pz_ct hr
  have h4 : pz_sl L k % 4 = 0 := Nat.eq_of_beq_eq_true h4
  obtain ⟨a, ha⟩ := pz_vI (V := V) h4
  refine pz_rs_T hC hr fun c' hc' hr => ?_
  rw [pz_nx_eq] at hr
  have := hK _ _ _ _ _ _ hC hr
  unfold pm_sIld
  rw [pz_loc hk, pz_o_some (by omega), ha]
  dsimp only
  rw [pm_fn_eq]
  rw [List.map_cons, hc', ha] at this
  exact this
theorem pz_tAld {k : Nat} (hK : pz_S V ih x d M) (hC : pz_k V C) (hk : k < M.2.1) (hr : pz_gAld k 2 ih C d h M pc len L st = some os) : pz_T V os (pm_sAld k (x d (pz_h V h) M.1) pc len (pz_l V M.2.1 L) (st.map (pz_v V))) := by
  unfold pz_gAld at hr
  rw [pm_fn_eq] at hr
  obtain ⟨h4, hr⟩ := pz_ct hr
  have h4 : pz_sl L k % 8 = 2 := Nat.eq_of_beq_eq_true h4
  have ha := pz_v2 (V := V) h4
  rw [pz_nx_eq] at hr
  have := hK _ _ _ _ _ _ hC hr
  unfold pm_sAld
  rw [pz_loc hk, pz_o_some (by omega), ha]
  dsimp only
  rw [pm_fn_eq]
  rw [List.map_cons, ha] at this
  exact this
theorem pz_tLld {k : Nat} (hK : pz_S V ih x d M) (hC : pz_k V C) (hk : k < M.2.1) (hr : pz_gAld k 1 ih C d h M pc len L st = some os) : pz_T V os (pm_sLld k (x d (pz_h V h) M.1) pc len (pz_l V M.2.1 L) (st.map (pz_v V))) := by
  unfold pz_gAld at hr
  rw [pm_fn_eq] at hr
  obtain ⟨h4, hr⟩ := pz_ct hr
  have h4 : pz_sl L k % 8 = 1 := Nat.eq_of_beq_eq_true h4
  have ha := pz_v1 (V := V) h4
  rw [pz_nx_eq] at hr
  have := hK _ _ _ _ _ _ hC hr
  unfold pm_sLld
  rw [pz_loc hk, pz_o_some (by omega), ha]
  dsimp only
  rw [pm_fn_eq]
  rw [List.map_cons, ha] at this
  exact this
theorem pz_tIst {k : Nat} (hK : pz_S V ih x d M) (hC : pz_k V C) (hk : k < M.2.1) (hr : pz_gIst k ih C d h M pc len L st = some os) : pz_T V os (pm_sIst k (x d (pz_h V h) M.1) pc len (pz_l V M.2.1 L) (st.map (pz_v V))) := by
  unfold pz_gIst at hr
  obtain ⟨c, r, e1, hr1⟩ := pz_p1_some hr
  clear hr
  subst e1
  have hr := hr1
  clear hr1
  obtain ⟨hb, hr⟩ := pz_ct hr
  rw [Bool.and_eq_true] at hb
  have h4 : c % 4 = 0 := Nat.eq_of_beq_eq_true hb.1
  have hs := pz_small_lt hb.2
  obtain ⟨a, ha⟩ := pz_vI (V := V) h4
  rw [pm_fn_eq, pz_nx_eq] at hr
  have := hK _ _ _ _ _ _ hC hr
  rw [List.map_cons, ha]
  show pz_T V os (cond (Nat.blt k (pm_len (pz_l V M.2.1 L))) (pm_fi a fun y => pm_fn (pc + len) fun q => x d (pz_h V h) M.1 q (pm_put1 (pz_l V M.2.1 L) k (.int y)) (r.map (pz_v V))) none)
  rw [pm_len_eq, pz_l_len, pz_blt_t hk, cond_true, pm_fi_eq, pm_fn_eq, pz_put1 hk hs (by rw [pz_o_some (by omega), ha])]
  exact this
theorem pz_tAst {k : Nat} (hK : pz_S V ih x d M) (hC : pz_k V C) (hk : k < M.2.1) (hr : pz_gAst k ih C d h M pc len L st = some os) : pz_T V os (pm_sAst k (x d (pz_h V h) M.1) pc len (pz_l V M.2.1 L) (st.map (pz_v V))) := by
  unfold pz_gAst at hr
  obtain ⟨c, r, e1, hr1⟩ := pz_p1_some hr
  clear hr
  subst e1
  have hr := hr1
  clear hr1
  obtain ⟨hb, hr⟩ := pz_ct hr
  rw [Bool.and_eq_true] at hb
  have h4 : c % 8 = 2 := Nat.eq_of_beq_eq_true hb.1
  have hs := pz_small_lt hb.2
  have ha := pz_v2 (V := V) h4
  rw [pm_fn_eq, pz_nx_eq] at hr
  have := hK _ _ _ _ _ _ hC hr
  rw [List.map_cons, ha]
  show pz_T V os (cond (Nat.blt k (pm_len (pz_l V M.2.1 L))) (pm_fn (pc + len) fun q => x d (pz_h V h) M.1 q (pm_put1 (pz_l V M.2.1 L) k (.ref (c / 8))) (r.map (pz_v V))) none)
  rw [pm_len_eq, pz_l_len, pz_blt_t hk, cond_true, pm_fn_eq, pz_put1 hk hs (by rw [pz_o_some (by omega), ha])]
  exact this
theorem pz_tLst {k : Nat} (hK : pz_S V ih x d M) (hC : pz_k V C) (hk : k + 1 < M.2.1) (hr : pz_gLst k ih C d h M pc len L st = some os) : pz_T V os (pm_sLst k (x d (pz_h V h) M.1) pc len (pz_l V M.2.1 L) (st.map (pz_v V))) := by
  unfold pz_gLst at hr
  obtain ⟨c, r, e1, hr1⟩ := pz_p1_some hr
  clear hr
  subst e1
  have hr := hr1
  clear hr1
  obtain ⟨hb, hr⟩ := pz_ct hr
  rw [Bool.and_eq_true] at hb
  have h4 : c % 8 = 1 := Nat.eq_of_beq_eq_true hb.1
  have hs := pz_small_lt hb.2
  have ha := pz_v1 (V := V) h4
  rw [pm_fn_eq, pz_nx_eq] at hr
  have := hK _ _ _ _ _ _ hC hr
  rw [List.map_cons, ha]
  show pz_T V os (cond (Nat.blt (k + 1) (pm_len (pz_l V M.2.1 L))) (pm_fl (Int64.ofNat (c / 8)) fun y => pm_fn (pc + len) fun q => x d (pz_h V h) M.1 q (pm_put2 (pz_l V M.2.1 L) k (.long y)) (r.map (pz_v V))) none)
  rw [pm_len_eq, pz_l_len, pz_blt_t hk, cond_true, pm_fl_eq, pm_fn_eq, pz_put2 (by omega) hs (by rw [pz_o_some (by omega), ha])]
  exact this
theorem pz_tInc {k n : Nat} {z : Int} (hK : pz_S V ih x d M) (hC : pz_k V C) (hk : k < M.2.1) (hl : len = 3) (hz : Int32.ofNat n = Int32.ofInt z) (hr : pz_gInc k n ih C d h M pc len L st = some os) : pz_T V os (pm_sInc k z (x d (pz_h V h) M.1) pc len (pz_l V M.2.1 L) (st.map (pz_v V))) := by
  subst hl
  unfold pz_gInc at hr
  rw [pm_fn_eq] at hr
  have fin : ∀ (a : Int32) (c : Nat), pz_sl L k % 8 ≠ 7 → pz_v V (pz_sl L k) = .int a → c < 2 ^ 72 → c % 8 ≠ 7 → pz_v V c = .int (a + Int32.ofInt z) → ih C d h M (pc + 3) (pz_up (pz_kill L k) k c) st = some os → pz_T V os (pm_sInc k z (x d (pz_h V h) M.1) pc 3 (pz_l V M.2.1 L) (st.map (pz_v V))) := by
    intro a c h1 h2 h3 h4 h5 h6
    have := hK _ _ _ _ _ _ hC h6
    unfold pm_sInc
    rw [pz_loc hk, pz_o_some h1, h2]
    dsimp only
    rw [show Nat.beq 3 3 = true from rfl, cond_true, pm_fi_eq, pm_fn_eq, pz_put1 hk h3 (by rw [pz_o_some h4, h5])]
    exact this
  rcases pz_c2 hr with ⟨h0, hr⟩ | ⟨-, hr⟩
  · have h0 : pz_sl L k % 8 = 0 := Nat.eq_of_beq_eq_true h0
    rw [pm_fn_eq, pz_nx_eq] at hr
    have e : Nat.mul 8 (Nat.mod (Nat.add (Nat.div (pz_sl L k) 8) n) 4294967296) = 8 * ((pz_sl L k / 8 + n) % 4294967296) := rfl
    rw [e] at hr
    exact fin _ _ (by omega) (pz_v0 h0) (by omega) (by omega) (by rw [pz_vi, pz_i32, Int32.ofNat_add, hz]) hr
  · obtain ⟨h0, hr⟩ := pz_ct hr
    have h0 : pz_sl L k % 8 = 4 := Nat.eq_of_beq_eq_true h0
    rw [pm_fn_eq, pz_nx_eq] at hr
    have e4 : pz_sa (pz_sl L k) n % 8 = 4 := by
      show (8 * _ + 4) % 8 = 4
      omega
    exact fin _ _ (by omega) (pz_v4 h0) (pz_sa_lt _ _) (by omega) (by rw [pz_sa_v, hz]) hr
theorem pz_II {f : Int32 → Int32 → Int32} {y w c : Nat} {r : List Nat} {a b : Int32} (hK : pz_S V ih x d M) (hC : pz_k V C) (hy : pz_v V y = .int b) (hw : pz_v V w = .int a) (hc : pz_v V c = .int (f a b)) (hr : ih C d h M (pc + len) L (c :: r) = some os) : pz_T V os (pm_sII f (x d (pz_h V h) M.1) pc len (pz_l V M.2.1 L) ((y :: w :: r).map (pz_v V))) := by
  have := hK _ _ _ _ _ _ hC hr
  rw [List.map_cons, List.map_cons, hy, hw]
  show pz_T V os (pm_fn (pc + len) fun q => x d (pz_h V h) M.1 q (pz_l V M.2.1 L) (.int (f a b) :: r.map (pz_v V)))
  rw [pm_fn_eq]
  rw [List.map_cons, hc] at this
  exact this
theorem pz_tAdd (hK : pz_S V ih x d M) (hC : pz_k V C) (hr : pz_gAdd ih C d h M pc len L st = some os) : pz_T V os (pm_sII (fun x y => x + y) (x d (pz_h V h) M.1) pc len (pz_l V M.2.1 L) (st.map (pz_v V))) := by
  unfold pz_gAdd at hr
  obtain ⟨y, r1, e1, hr1⟩ := pz_p1_some hr
  obtain ⟨w, r, e2, hr2⟩ := pz_p1_some hr1
  clear hr hr1
  subst e2
  subst e1
  have hr := hr2
  clear hr2
  rcases pz_c2 hr with ⟨h0, hr⟩ | ⟨-, hr⟩
  · have h0 : w % 8 = 0 := Nat.eq_of_beq_eq_true h0
    rcases pz_c2 hr with ⟨h1, hr⟩ | ⟨-, hr⟩
    · have h1 : y % 8 = 0 := Nat.eq_of_beq_eq_true h1
      rw [pz_psh_eq] at hr
      refine pz_II hK hC (pz_v0 h1) (pz_v0 h0) ?_ hr
      show pz_v V (8 * ((w / 8 + y / 8) % 4294967296)) = _
      rw [pz_vi, pz_i32, Int32.ofNat_add]
    · obtain ⟨h1, hr⟩ := pz_ct hr
      have h1 : y % 8 = 4 := Nat.eq_of_beq_eq_true h1
      rw [pz_psh_eq] at hr
      refine pz_II hK hC (pz_v4 h1) (pz_v0 h0) ?_ hr
      show pz_v V (pz_sa y (w / 8)) = _
      rw [pz_sa_v, Int32.add_comm]
  · obtain ⟨h1, hr⟩ := pz_ct hr
    rw [Bool.and_eq_true] at h1
    have h0 : w % 8 = 4 := Nat.eq_of_beq_eq_true h1.1
    have h1 : y % 8 = 0 := Nat.eq_of_beq_eq_true h1.2
    rw [pz_psh_eq] at hr
    refine pz_II hK hC (pz_v0 h1) (pz_v4 h0) ?_ hr
    show pz_v V (pz_sa w (y / 8)) = _
    rw [pz_sa_v]
theorem pz_tSub (hK : pz_S V ih x d M) (hC : pz_k V C) (hr : pz_gSub ih C d h M pc len L st = some os) : pz_T V os (pm_sII (fun x y => x - y) (x d (pz_h V h) M.1) pc len (pz_l V M.2.1 L) (st.map (pz_v V))) := by
  unfold pz_gSub at hr
  obtain ⟨y, r1, e1, hr1⟩ := pz_p1_some hr
  obtain ⟨w, r, e2, hr2⟩ := pz_p1_some hr1
  clear hr hr1
  subst e2
  subst e1
  have hr := hr2
  clear hr2
  obtain ⟨h1, hr⟩ := pz_ct hr
  have h1 : y % 8 = 0 := Nat.eq_of_beq_eq_true h1
  rcases pz_c2 hr with ⟨h0, hr⟩ | ⟨-, hr⟩
  · have h0 : w % 8 = 0 := Nat.eq_of_beq_eq_true h0
    rw [pz_psh_eq] at hr
    refine pz_II hK hC (pz_v0 h1) (pz_v0 h0) ?_ hr
    show pz_v V (8 * ((w / 8 + pz_ng (y / 8)) % 4294967296)) = _
    rw [pz_vi, pz_i32, Int32.ofNat_add, pz_ng_eq, pz_sub32]
  · obtain ⟨h0, hr⟩ := pz_ct hr
    have h0 : w % 8 = 4 := Nat.eq_of_beq_eq_true h0
    rw [pz_psh_eq] at hr
    refine pz_II hK hC (pz_v0 h1) (pz_v4 h0) ?_ hr
    show pz_v V (pz_sa w (pz_ng (y / 8))) = _
    rw [pz_sa_v, pz_ng_eq, pz_sub32]
theorem pz_tMul (hK : pz_S V ih x d M) (hC : pz_k V C) (hr : pz_gMul ih C d h M pc len L st = some os) : pz_T V os (pm_sII (fun x y => x * y) (x d (pz_h V h) M.1) pc len (pz_l V M.2.1 L) (st.map (pz_v V))) := by
  unfold pz_gMul at hr
  obtain ⟨y, r1, e1, hr1⟩ := pz_p1_some hr
  obtain ⟨w, r, e2, hr2⟩ := pz_p1_some hr1
  clear hr hr1
  subst e2
  subst e1
  have hr := hr2
  clear hr2
  refine pz_int_T hC hr fun C1 b1 os1 hC1 hy hr => pz_int_T hC1 hr fun C2 b2 os2 hC2 hw hr => ?_
  rw [pz_psh_eq] at hr
  refine pz_II hK hC2 hy hw ?_ hr
  show pz_v V (8 * ((b2 * b1) % 4294967296)) = _
  rw [pz_vi, pz_i32, Int32.ofNat_mul]
theorem pz_tAnd (h7 : V.1 7 = V.1 0 &&& 63) (hK : pz_S V ih x d M) (hC : pz_k V C) (hr : pz_gAnd ih C d h M pc len L st = some os) : pz_T V os (pm_sII (fun x y => x &&& y) (x d (pz_h V h) M.1) pc len (pz_l V M.2.1 L) (st.map (pz_v V))) := by
  unfold pz_gAnd at hr
  obtain ⟨y, r1, e1, hr1⟩ := pz_p1_some hr
  obtain ⟨w, r, e2, hr2⟩ := pz_p1_some hr1
  clear hr hr1
  subst e2
  subst e1
  have hr := hr2
  clear hr2
  rcases pz_c2 hr with ⟨hb, hr⟩ | ⟨-, hr⟩
  · rw [Bool.and_eq_true] at hb
    have h1 : w = 4 := Nat.eq_of_beq_eq_true hb.1
    have h2 : y = 504 := Nat.eq_of_beq_eq_true hb.2
    refine pz_rs_T hC hr fun c' hc' hr => ?_
    rw [pz_nx_eq] at hr
    have e1 : pz_v V w = .int (V.1 0) := by
      rw [h1, show (4 : Nat) = 8 * 0 + 4 from rfl, pz_vs, pz_zi_off V (by decide)]
    have e2 : pz_v V y = .int 63 := by
      rw [h2, show (504 : Nat) = 8 * 63 from rfl, pz_vi]; rfl
    refine pz_II hK hC e2 e1 ?_ hr
    rw [hc', show (60 : Nat) = 8 * 7 + 4 from rfl, pz_vs, pz_zi_off V (by decide), h7]
  · refine pz_int_T hC hr fun C1 b1 os1 hC1 hy hr => pz_int_T hC1 hr fun C2 b2 os2 hC2 hw hr => ?_
    rw [pz_psh_eq] at hr
    refine pz_II hK hC2 hy hw ?_ hr
    show pz_v V (8 * (b2 &&& b1)) = _
    rw [pz_vi, pz_and32]
theorem pz_IIz {f : Int32 → Int32 → Int32} {y w c : Nat} {r : List Nat} {a b : Int32} (hK : pz_S V ih x d M) (hC : pz_k V C) (hy : pz_v V y = .int b) (hw : pz_v V w = .int a) (hb : b ≠ 0) (hc : pz_v V c = .int (f a b)) (hr : ih C d h M (pc + len) L (c :: r) = some os) : pz_T V os (pm_sIIz f (x d (pz_h V h) M.1) pc len (pz_l V M.2.1 L) ((y :: w :: r).map (pz_v V))) := by
  have := hK _ _ _ _ _ _ hC hr
  rw [List.map_cons, List.map_cons, hy, hw]
  show pz_T V os (cond (decide (b = 0)) none (pm_fn (pc + len) fun q => x d (pz_h V h) M.1 q (pz_l V M.2.1 L) (.int (f a b) :: r.map (pz_v V))))
  rw [decide_eq_false hb, cond_false, pm_fn_eq]
  rw [List.map_cons, hc] at this
  exact this
theorem pz_tDiv (hK : pz_S V ih x d M) (hC : pz_k V C) (hr : pz_gDiv ih C d h M pc len L st = some os) : pz_T V os (pm_sIIz (fun x y => x / y) (x d (pz_h V h) M.1) pc len (pz_l V M.2.1 L) (st.map (pz_v V))) := by
  unfold pz_gDiv at hr
  obtain ⟨y, r1, e1, hr1⟩ := pz_p1_some hr
  obtain ⟨w, r, e2, hr2⟩ := pz_p1_some hr1
  clear hr hr1
  subst e2
  subst e1
  have hr := hr2
  clear hr2
  refine pz_int_T hC hr fun C1 b1 os1 hC1 hy hr => pz_int_T hC1 hr fun C2 b2 os2 hC2 hw hr => ?_
  obtain ⟨hb, hr⟩ := pz_ct hr
  simp only [Bool.and_eq_true] at hb
  rw [pz_psh_eq] at hr
  refine pz_IIz hK hC2 hy hw (pz_nz32 (pm_blt hb.2.2) (pm_blt hb.2.1)) ?_ hr
  show pz_v V (8 * (b2 / b1)) = _
  rw [pz_vi, pz_div32 (pm_blt hb.1) (pm_blt hb.2.1)]
theorem pz_tRem (hK : pz_S V ih x d M) (hC : pz_k V C) (hr : pz_gRem ih C d h M pc len L st = some os) : pz_T V os (pm_sIIz (fun x y => x - x / y * y) (x d (pz_h V h) M.1) pc len (pz_l V M.2.1 L) (st.map (pz_v V))) := by
  unfold pz_gRem at hr
  obtain ⟨y, r1, e1, hr1⟩ := pz_p1_some hr
  obtain ⟨w, r, e2, hr2⟩ := pz_p1_some hr1
  clear hr hr1
  subst e2
  subst e1
  have hr := hr2
  clear hr2
  refine pz_int_T hC hr fun C1 b1 os1 hC1 hy hr => pz_int_T hC1 hr fun C2 b2 os2 hC2 hw hr => ?_
  obtain ⟨hb, hr⟩ := pz_ct hr
  simp only [Bool.and_eq_true] at hb
  rw [pz_psh_eq] at hr
  refine pz_IIz hK hC2 hy hw (pz_nz32 (pm_blt hb.2.2) (pm_blt hb.2.1)) ?_ hr
  show pz_v V (8 * (b2 % b1)) = _
  rw [pz_vi, pz_rem32 (pm_blt hb.1) (pm_blt hb.2.1)]
theorem pz_tLL {f : Int64 → Int64 → Int64} {g : Nat → Nat → Nat} (hK : pz_S V ih x d M) (hC : pz_k V C) (hg : ∀ a b, Int64.ofNat (g a b) = f (Int64.ofNat a) (Int64.ofNat b)) (hr : pz_gLL g ih C d h M pc len L st = some os) : pz_T V os (pm_sLL f (x d (pz_h V h) M.1) pc len (pz_l V M.2.1 L) (st.map (pz_v V))) := by
  unfold pz_gLL at hr
  obtain ⟨y, r1, e1, hr1⟩ := pz_p1_some hr
  obtain ⟨w, r, e2, hr2⟩ := pz_p1_some hr1
  clear hr hr1
  subst e2
  subst e1
  have hr := hr2
  clear hr2
  obtain ⟨hb, hr⟩ := pz_ct hr
  rw [Bool.and_eq_true] at hb
  have h0 : w % 8 = 1 := Nat.eq_of_beq_eq_true hb.1
  have h1 : y % 8 = 1 := Nat.eq_of_beq_eq_true hb.2
  rw [pz_psh_eq] at hr
  have := hK _ _ _ _ _ _ hC hr
  rw [List.map_cons, List.map_cons, pz_v1 h0, pz_v1 h1]
  show pz_T V os (pm_fn (pc + len) fun q => x d (pz_h V h) M.1 q (pz_l V M.2.1 L) (.long (f (Int64.ofNat (w / 8)) (Int64.ofNat (y / 8))) :: r.map (pz_v V)))
  rw [pm_fn_eq, ← hg, ← pz_vl V]
  exact this
theorem pz_tLLz {f : Int64 → Int64 → Int64} {g : Nat → Nat → Nat} (hK : pz_S V ih x d M) (hC : pz_k V C) (hg : ∀ a b, a < 9223372036854775808 → b < 9223372036854775808 → Int64.ofNat (g a b) = f (Int64.ofNat a) (Int64.ofNat b)) (hr : pz_gLLz g ih C d h M pc len L st = some os) : pz_T V os (pm_sLLz f (x d (pz_h V h) M.1) pc len (pz_l V M.2.1 L) (st.map (pz_v V))) := by
  unfold pz_gLLz at hr
  obtain ⟨y, r1, e1, hr1⟩ := pz_p1_some hr
  obtain ⟨w, r, e2, hr2⟩ := pz_p1_some hr1
  clear hr hr1
  subst e2
  subst e1
  have hr := hr2
  clear hr2
  obtain ⟨hb, hr⟩ := pz_ct hr
  simp only [Bool.and_eq_true] at hb
  obtain ⟨b1, b2, b3, b4, b5⟩ := hb
  have h0 : w % 8 = 1 := Nat.eq_of_beq_eq_true b1
  have h1 : y % 8 = 1 := Nat.eq_of_beq_eq_true b2
  have b3 : w / 8 < 9223372036854775808 := pm_blt b3
  have b4 : y / 8 < 9223372036854775808 := pm_blt b4
  have b5 : 0 < y / 8 := pm_blt b5
  rw [pz_psh_eq] at hr
  have := hK _ _ _ _ _ _ hC hr
  rw [List.map_cons, List.map_cons, pz_v1 h0, pz_v1 h1]
  show pz_T V os (cond (decide (Int64.ofNat (y / 8) = 0)) none (pm_fn (pc + len) fun q => x d (pz_h V h) M.1 q (pz_l V M.2.1 L) (.long (f (Int64.ofNat (w / 8)) (Int64.ofNat (y / 8))) :: r.map (pz_v V))))
  rw [decide_eq_false (pz_nz64 b5 b4), cond_false, pm_fn_eq, ← hg _ _ b3 b4, ← pz_vl V]
  exact this
theorem pz_tCmp (hK : pz_S V ih x d M) (hC : pz_k V C) (hr : pz_gCmp ih C d h M pc len L st = some os) : pz_T V os (pm_sCmp (x d (pz_h V h) M.1) pc len (pz_l V M.2.1 L) (st.map (pz_v V))) := by
  unfold pz_gCmp at hr
  obtain ⟨y, r1, e1, hr1⟩ := pz_p1_some hr
  obtain ⟨w, r, e2, hr2⟩ := pz_p1_some hr1
  clear hr hr1
  subst e2
  subst e1
  have hr := hr2
  clear hr2
  obtain ⟨hb, hr⟩ := pz_ct hr
  rw [Bool.and_eq_true] at hb
  have h0 : w % 8 = 1 := Nat.eq_of_beq_eq_true hb.1
  have h1 : y % 8 = 1 := Nat.eq_of_beq_eq_true hb.2
  have fin : ∀ c : Nat, pz_v V c = .int (lg_cmp (Int64.ofNat (w / 8)) (Int64.ofNat (y / 8))) → ih C d h M (pc + len) L (c :: r) = some os → pz_T V os (pm_sCmp (x d (pz_h V h) M.1) pc len (pz_l V M.2.1 L) ((y :: w :: r).map (pz_v V))) := by
    intro c hc hr
    have := hK _ _ _ _ _ _ hC hr
    rw [List.map_cons, List.map_cons, pz_v1 h0, pz_v1 h1]
    show pz_T V os (pm_fn (pc + len) fun q => x d (pz_h V h) M.1 q (pz_l V M.2.1 L) (.int (lg_cmp (Int64.ofNat (w / 8)) (Int64.ofNat (y / 8))) :: r.map (pz_v V)))
    rw [pm_fn_eq, ← hc]
    exact this
  rw [pz_cmp64] at fin
  have ew : Nat.div w 8 = w / 8 := rfl
  have ey : Nat.div y 8 = y / 8 := rfl
  rw [ew, ey] at hr
  generalize pz_bj (w / 8) = u at hr fin
  generalize pz_bj (y / 8) = t at hr fin
  rcases pz_c2 hr with ⟨hb, hr⟩ | ⟨hb, hr⟩
  · rw [pz_nx_eq] at hr
    rw [if_pos (pm_blt hb)] at fin
    exact fin 8 (by rw [show (8 : Nat) = 8 * 1 from rfl, pz_vi]; rfl) hr
  · have hn : ¬ t < u := fun q => by rw [pz_blt_t q] at hb; cases hb
    rw [if_neg hn] at fin
    rcases pz_c2 hr with ⟨hb, hr⟩ | ⟨hb, hr⟩
    · rw [pz_nx_eq] at hr
      rw [if_pos (Nat.eq_of_beq_eq_true hb)] at fin
      exact fin 0 (by rw [show (0 : Nat) = 8 * 0 from rfl, pz_vi]; rfl) hr
    · rw [pz_nx_eq] at hr
      rw [if_neg (fun q => by rw [q, pz_beq_t] at hb; cases hb)] at fin
      exact fin 34359738360 (by rw [show (34359738360 : Nat) = 8 * 4294967295 from rfl, pz_vi]; rfl) hr
theorem pz_tI2l (hy7 : pz_sym V) (hK : pz_S V ih x d M) (hC : pz_k V C) (hr : pz_gI2l ih C d h M pc len L st = some os) : pz_T V os (pm_sIL (fun x => x.toInt64) (x d (pz_h V h) M.1) pc len (pz_l V M.2.1 L) (st.map (pz_v V))) := by
  unfold pz_gI2l at hr
  obtain ⟨y, r, e1, hr1⟩ := pz_p1_some hr
  clear hr
  subst e1
  have fin : ∀ (C1 : pz_E) (os1 : List pz_O) (a : Int32) (c : Nat), pz_k V C1 → pz_v V y = .int a → pz_v V c = .long a.toInt64 → ih C1 d h M (pc + len) L (c :: r) = some os1 → pz_T V os1 (pm_sIL (fun x => x.toInt64) (x d (pz_h V h) M.1) pc len (pz_l V M.2.1 L) ((y :: r).map (pz_v V))) := by
    intro C1 os1 a c hC1 hy hc hr
    have := hK _ _ _ _ _ _ hC1 hr
    rw [List.map_cons, hy]
    show pz_T V os1 (pm_fn (pc + len) fun q => x d (pz_h V h) M.1 q (pz_l V M.2.1 L) (.long a.toInt64 :: r.map (pz_v V)))
    rw [pm_fn_eq, ← hc]
    exact this
  have num : ∀ {os : List pz_O}, (pz_int C y fun C b => cond (Nat.blt b 2147483648) (pz_psh ih C d h M pc len L (Nat.succ (Nat.mul 8 b)) r) (cond (Nat.blt b 4294967296) (pz_psh ih C d h M pc len L (Nat.succ (Nat.mul 8 (Nat.add b 18446744069414584320))) r) none)) = some os → pz_T V os (pm_sIL (fun x => x.toInt64) (x d (pz_h V h) M.1) pc len (pz_l V M.2.1 L) ((y :: r).map (pz_v V))) := by
    intro os hr
    refine pz_int_T hC hr fun C1 b os1 hC1 hy hr2 => ?_
    rcases pz_c2 hr2 with ⟨hb, hr3⟩ | ⟨hb, hr3⟩
    · have hb := pm_blt hb
      rw [pz_psh_eq] at hr3
      refine fin _ _ _ _ hC1 hy ?_ hr3
      show pz_v V (8 * b + 1) = _
      rw [pz_vl, pz_i2l (by omega), if_pos hb]
    · have hn : ¬ b < 2147483648 := fun q => by rw [pz_blt_t q] at hb; cases hb
      obtain ⟨hb2, hr4⟩ := pz_ct hr3
      rw [pz_psh_eq] at hr4
      refine fin _ _ _ _ hC1 hy ?_ hr4
      show pz_v V (8 * (b + 18446744069414584320) + 1) = _
      rw [pz_vl, pz_i2l (pm_blt hb2), if_neg hn]
  rcases pz_c2 hr1 with ⟨hb, hr2⟩ | ⟨-, hr2⟩
  · obtain ⟨lo, hi, e, hr3⟩ := pz_ib_some hr2
    rcases pz_c2 hr3 with ⟨-, hr4⟩ | ⟨-, hr4⟩
    · exact num hr4
    · rw [Bool.and_eq_true] at hb
      have h4 : y % 8 = 4 := Nat.eq_of_beq_eq_true hb.1
      have h16 : y / 8 < 16 := pm_blt hb.2
      rw [pz_psh_eq] at hr4
      refine fin _ _ (V.1 (y / 8)) _ hC (by rw [pz_v4 h4, pz_zi_off V h16]) ?_ hr4
      show pz_v V (8 * (16 + y / 8) + 5) = _
      rw [pz_v5 (by omega), show (8 * (16 + y / 8) + 5) / 8 = 16 + y / 8 by omega, hy7.2.2.1 _ h16]
  · exact num hr2
theorem pz_tShl (hy7 : pz_sym V) (hK : pz_S V ih x d M) (hC : pz_k V C) (hr : pz_gShl ih C d h M pc len L st = some os) : pz_T V os (pm_sLI (fun x y => x <<< (y.toInt64 &&& 63)) (x d (pz_h V h) M.1) pc len (pz_l V M.2.1 L) (st.map (pz_v V))) := by
  unfold pz_gShl at hr
  obtain ⟨y, r1, e1, hr1⟩ := pz_p1_some hr
  obtain ⟨w, r, e2, hr2⟩ := pz_p1_some hr1
  clear hr hr1
  subst e2
  subst e1
  obtain ⟨hb, hr3⟩ := pz_ct hr2
  simp only [Bool.and_eq_true] at hb
  obtain ⟨b1, b2, b3, b4⟩ := hb
  have b1 : y = 256 := Nat.eq_of_beq_eq_true b1
  have b2 : w % 8 = 5 := Nat.eq_of_beq_eq_true b2
  have b3 : 16 ≤ w / 8 := Nat.le_of_ble_eq_true b3
  have b4 : w / 8 < 32 := pm_blt b4
  rw [pz_psh_eq] at hr3
  have := hK _ _ _ _ _ _ hC hr3
  have ey : pz_v V y = .int 32 := by rw [b1, show (256 : Nat) = 8 * 32 from rfl, pz_vi]; rfl
  rw [List.map_cons, List.map_cons, ey, pz_v5 b2]
  show pz_T V os (pm_fn (pc + len) fun q => x d (pz_h V h) M.1 q (pz_l V M.2.1 L) (.long (V.2.1 (w / 8) <<< ((32 : Int32).toInt64 &&& 63)) :: r.map (pz_v V)))
  rw [pm_fn_eq]
  have e9 := hy7.2.2.2.1 (w / 8 - 16) (by omega)
  rw [show 16 + (w / 8 - 16) = w / 8 by omega] at e9
  rw [← e9]
  rw [List.map_cons, show Nat.add w 128 = w + 128 from rfl, pz_v5 (by omega), show (w + 128) / 8 = 32 + (w / 8 - 16) by omega] at this
  exact this
theorem pz_tLan (hy7 : pz_sym V) (hK : pz_S V ih x d M) (hC : pz_k V C) (hr : pz_gLan ih C d h M pc len L st = some os) : pz_T V os (pm_sLL (fun x y => x &&& y) (x d (pz_h V h) M.1) pc len (pz_l V M.2.1 L) (st.map (pz_v V))) := by
  unfold pz_gLan at hr
  obtain ⟨y, r1, e1, hr1⟩ := pz_p1_some hr
  obtain ⟨w, r, e2, hr2⟩ := pz_p1_some hr1
  clear hr hr1
  subst e2
  subst e1
  obtain ⟨hb, hr3⟩ := pz_ct hr2
  simp only [Bool.and_eq_true] at hb
  obtain ⟨b1, b2, b3, b4⟩ := hb
  have b1 : y = 34359738361 := Nat.eq_of_beq_eq_true b1
  have b2 : w % 8 = 5 := Nat.eq_of_beq_eq_true b2
  have b3 : 16 ≤ w / 8 := Nat.le_of_ble_eq_true b3
  have b4 : w / 8 < 32 := pm_blt b4
  rw [pz_psh_eq] at hr3
  have := hK _ _ _ _ _ _ hC hr3
  have ey : pz_v V y = .long (Int64.ofNat 4294967295) := by rw [b1, show (34359738361 : Nat) = 8 * 4294967295 + 1 from rfl, pz_vl]
  rw [List.map_cons, List.map_cons, ey, pz_v5 b2]
  show pz_T V os (pm_fn (pc + len) fun q => x d (pz_h V h) M.1 q (pz_l V M.2.1 L) (.long (V.2.1 (w / 8) &&& Int64.ofNat 4294967295) :: r.map (pz_v V)))
  rw [pm_fn_eq]
  have e9 := hy7.2.2.2.2.1 (w / 8 - 16) (by omega)
  rw [show 16 + (w / 8 - 16) = w / 8 by omega] at e9
  rw [← e9]
  rw [List.map_cons, show Nat.add w 256 = w + 256 from rfl, pz_v5 (by omega), show (w + 256) / 8 = 48 + (w / 8 - 16) by omega] at this
  exact this
theorem pz_tLor (hy7 : pz_sym V) (hK : pz_S V ih x d M) (hC : pz_k V C) (hr : pz_gLor ih C d h M pc len L st = some os) : pz_T V os (pm_sLL (fun x y => x ||| y) (x d (pz_h V h) M.1) pc len (pz_l V M.2.1 L) (st.map (pz_v V))) := by
  unfold pz_gLor at hr
  obtain ⟨y, r1, e1, hr1⟩ := pz_p1_some hr
  obtain ⟨w, r, e2, hr2⟩ := pz_p1_some hr1
  clear hr hr1
  subst e2
  subst e1
  obtain ⟨hb, hr3⟩ := pz_ct hr2
  simp only [Bool.and_eq_true] at hb
  obtain ⟨b1, b2, b3, b4, b5, b6⟩ := hb
  have b1 : w % 8 = 5 := Nat.eq_of_beq_eq_true b1
  have b2 : y % 8 = 5 := Nat.eq_of_beq_eq_true b2
  have b3 : 32 ≤ w / 8 := Nat.le_of_ble_eq_true b3
  have b4 : w / 8 < 48 := pm_blt b4
  have b5 : 48 ≤ y / 8 := Nat.le_of_ble_eq_true b5
  have b6 : y / 8 < 64 := pm_blt b6
  rw [pz_psh_eq] at hr3
  have := hK _ _ _ _ _ _ hC hr3
  rw [List.map_cons, List.map_cons, pz_v5 b1, pz_v5 b2]
  show pz_T V os (pm_fn (pc + len) fun q => x d (pz_h V h) M.1 q (pz_l V M.2.1 L) (.long (V.2.1 (w / 8) ||| V.2.1 (y / 8)) :: r.map (pz_v V)))
  rw [pm_fn_eq]
  have e9 := hy7.2.2.2.2.2 (w / 8 - 32) (y / 8 - 48) (by omega) (by omega)
  rw [show 32 + (w / 8 - 32) = w / 8 by omega, show 48 + (y / 8 - 48) = y / 8 by omega] at e9
  rw [← e9]
  have ec : Nat.add (Nat.mul 8 (Nat.add 64 (Nat.add (Nat.mul 16 (Nat.sub (Nat.div w 8) 32)) (Nat.sub (Nat.div y 8) 48)))) 5 = 8 * (64 + (16 * (w / 8 - 32) + (y / 8 - 48))) + 5 := rfl
  rw [ec, List.map_cons, pz_v5 (by omega), show (8 * (64 + (16 * (w / 8 - 32) + (y / 8 - 48))) + 5) / 8 = 64 + (16 * (w / 8 - 32) + (y / 8 - 48)) by omega] at this
  exact this
theorem pz_tDup (hK : pz_S V ih x d M) (hC : pz_k V C) (hr : pz_gDup ih C d h M pc len L st = some os) : pz_T V os (pm_sDup (x d (pz_h V h) M.1) pc len (pz_l V M.2.1 L) (st.map (pz_v V))) := by
  unfold pz_gDup at hr
  obtain ⟨c, r, e1, hr1⟩ := pz_p1_some hr
  clear hr
  subst e1
  have hr := hr1
  clear hr1
  obtain ⟨hb, hr⟩ := pz_cf hr
  have h1 : c % 4 ≠ 1 := fun q => by
    have q : Nat.mod c 4 = 1 := q
    rw [q] at hb; cases hb
  rw [pz_nx_eq] at hr
  have := hK _ _ _ _ _ _ hC hr
  rw [List.map_cons]
  show pz_T V os (cond (Nat.beq (pz_v V c).category 1) (pm_fn (pc + len) fun q => x d (pz_h V h) M.1 q (pz_l V M.2.1 L) (pz_v V c :: pz_v V c :: r.map (pz_v V))) none)
  rw [pz_cat, if_neg h1, show Nat.beq 1 1 = true from rfl, cond_true, pm_fn_eq]
  exact this
theorem pz_tPop (hK : pz_S V ih x d M) (hC : pz_k V C) (hr : pz_gPop ih C d h M pc len L st = some os) : pz_T V os (pm_sPop (x d (pz_h V h) M.1) pc len (pz_l V M.2.1 L) (st.map (pz_v V))) := by
  unfold pz_gPop at hr
  obtain ⟨c, r, e1, hr1⟩ := pz_p1_some hr
  clear hr
  subst e1
  have hr := hr1
  clear hr1
  obtain ⟨hb, hr⟩ := pz_cf hr
  have h1 : c % 4 ≠ 1 := fun q => by
    have q : Nat.mod c 4 = 1 := q
    rw [q] at hb; cases hb
  rw [pz_nx_eq] at hr
  have := hK _ _ _ _ _ _ hC hr
  rw [List.map_cons]
  show pz_T V os (cond (Nat.beq (pz_v V c).category 1) (pm_fn (pc + len) fun q => x d (pz_h V h) M.1 q (pz_l V M.2.1 L) (r.map (pz_v V))) none)
  rw [pz_cat, if_neg h1, show Nat.beq 1 1 = true from rfl, cond_true, pm_fn_eq]
  exact this
theorem pz_to_eq {off : Int} {t : Nat} (ht : (pc : Int) + off = .ofNat t) (K : Nat → pm_R) : pm_to ((pc : Int) + off) K = K t := by
  rw [ht]
  show pm_fn t K = K t
  rw [pm_fn_eq]
theorem pz_tGo {off : Int} {t : Nat} (hK : pz_S V ih x d M) (hC : pz_k V C) (ht : (pc : Int) + off = .ofNat t) (hr : pz_gGo t ih C d h M pc len L st = some os) : pz_T V os (pm_sGo off (x d (pz_h V h) M.1) pc len (pz_l V M.2.1 L) (st.map (pz_v V))) := by
  unfold pz_gGo at hr
  unfold pm_sGo
  rw [pz_to_eq ht]
  exact hK _ _ _ _ _ _ hC hr
theorem pz_tIf {cd : ClassFile.Cond} {off : Int} {t : Nat} (hK : pz_S V ih x d M) (hC : pz_k V C) (ht : (pc : Int) + off = .ofNat t) (hr : pz_gIf (pz_c6 cd) t ih C d h M pc len L st = some os) : pz_T V os (pm_sIf cd off (x d (pz_h V h) M.1) pc len (pz_l V M.2.1 L) (st.map (pz_v V))) := by
  unfold pz_gIf at hr
  obtain ⟨w, r, e1, hr1⟩ := pz_p1_some hr
  clear hr
  subst e1
  have hr := hr1
  clear hr1
  have e0 : pz_v V 0 = .int 0 := by rw [show (0 : Nat) = 8 * 0 from rfl, pz_vi]; rfl
  refine pz_cmp_T hC hr (fun a b ha hb C' os' q1 q2 q3 => ?_) (fun a b ha hb C' os' q1 q2 q3 => ?_)
  · rw [e0] at hb
    cases hb
    rw [List.map_cons, ha]
    show pz_T V os' (pm_to ((pc : Int) + off) fun t => cond (pm_cnd cd a 0) (x d (pz_h V h) M.1 t (pz_l V M.2.1 L) (r.map (pz_v V))) (pm_fn (pc + 3) fun q => x d (pz_h V h) M.1 q (pz_l V M.2.1 L) (r.map (pz_v V))))
    rw [pz_to_eq ht, q2, cond_true]
    exact hK _ _ _ _ _ _ q1 q3
  · rw [e0] at hb
    cases hb
    rw [List.map_cons, ha]
    show pz_T V os' (pm_to ((pc : Int) + off) fun t => cond (pm_cnd cd a 0) (x d (pz_h V h) M.1 t (pz_l V M.2.1 L) (r.map (pz_v V))) (pm_fn (pc + 3) fun q => x d (pz_h V h) M.1 q (pz_l V M.2.1 L) (r.map (pz_v V))))
    rw [pz_to_eq ht, q2, cond_false, pm_fn_eq]
    rw [pz_nx_eq] at q3
    exact hK _ _ _ _ _ _ q1 q3
theorem pz_tIf2 {cd : ClassFile.Cond} {off : Int} {t : Nat} (hK : pz_S V ih x d M) (hC : pz_k V C) (ht : (pc : Int) + off = .ofNat t) (hr : pz_gIf2 (pz_c6 cd) t ih C d h M pc len L st = some os) : pz_T V os (pm_sIf2 cd off (x d (pz_h V h) M.1) pc len (pz_l V M.2.1 L) (st.map (pz_v V))) := by
  unfold pz_gIf2 at hr
  obtain ⟨y, r1, e1, hr1⟩ := pz_p1_some hr
  obtain ⟨w, r, e2, hr2⟩ := pz_p1_some hr1
  clear hr hr1
  subst e2
  subst e1
  have hr := hr2
  clear hr2
  refine pz_cmp_T hC hr (fun a b ha hb C' os' q1 q2 q3 => ?_) (fun a b ha hb C' os' q1 q2 q3 => ?_)
  · rw [List.map_cons, List.map_cons, ha, hb]
    show pz_T V os' (pm_to ((pc : Int) + off) fun t => cond (pm_cnd cd a b) (x d (pz_h V h) M.1 t (pz_l V M.2.1 L) (r.map (pz_v V))) (pm_fn (pc + 3) fun q => x d (pz_h V h) M.1 q (pz_l V M.2.1 L) (r.map (pz_v V))))
    rw [pz_to_eq ht, q2, cond_true]
    exact hK _ _ _ _ _ _ q1 q3
  · rw [List.map_cons, List.map_cons, ha, hb]
    show pz_T V os' (pm_to ((pc : Int) + off) fun t => cond (pm_cnd cd a b) (x d (pz_h V h) M.1 t (pz_l V M.2.1 L) (r.map (pz_v V))) (pm_fn (pc + 3) fun q => x d (pz_h V h) M.1 q (pz_l V M.2.1 L) (r.map (pz_v V))))
    rw [pz_to_eq ht, q2, cond_false, pm_fn_eq]
    rw [pz_nx_eq] at q3
    exact hK _ _ _ _ _ _ q1 q3
end PzS
