/-! the steps of the number machine, against those of the picture machine: the heap -/
theorem pz_cell_some {h : pz_H} {a : Nat} {k : pz_C → pz_R} {os : List pz_O} (hr : pz_cell h a k = some os) : ∃ q, (16 ≤ a ∧ a - 16 < h.1 ∧ pz_at h.2 (a - 16) = some q) ∧ k q = some os := by
  unfold pz_cell at hr
  obtain ⟨hb, hr⟩ := pz_ct hr
  rw [Bool.and_eq_true] at hb
  have e : Nat.sub a 16 = a - 16 := rfl
  rw [e] at hr hb
  cases hq : pz_at h.2 (a - 16) with
  | none => rw [hq] at hr; cases hr
  | some q =>
    rw [hq] at hr
    exact ⟨q, ⟨Nat.le_of_ble_eq_true hb.1, pm_blt hb.2, rfl⟩, hr⟩
theorem pz_pmc {V : pz_V} {h : pz_H} {a : Nat} {q : pz_C} (hq : 16 ≤ a ∧ a - 16 < h.1 ∧ pz_at h.2 (a - 16) = some q) : pm_cell (pz_h V h) a = some (pz_c V q) := by
  unfold pm_cell
  rw [pz_blt_f (by omega), cond_false, pm_nth_eq, pz_h_get hq.2.1 hq.2.2]
theorem pz_pmr {V : pz_V} {X : List (Nat × List Value)} {h : pz_H} {a t : Nat} {l : List Value} {q : pz_C} (hq : 16 ≤ a ∧ a - 16 < h.1 ∧ pz_at h.2 (a - 16) = some q) (hc : pz_c V q = .inl (t, l)) : pm_row X (pz_h V h) a = some (t, l) := by
  unfold pm_row
  rw [pz_blt_f (by omega), cond_false, pm_nth_eq, pz_h_get hq.2.1 hq.2.2, hc]
theorem pz_stK_eq {α : Type} : ∀ (l : List α) (n : Nat) (x : α) (K : List α → pz_R), pz_stK l n x K = K (pm_set l n x)
  | [], n, x, K => rfl
  | a :: l, 0, x, K => rfl
  | a :: l, n + 1, x, K => by
    have e : pz_stK (a :: l) (n + 1) x K = pz_stK l n x fun t' => K (a :: t') := rfl
    rw [e, pz_stK_eq l n x]; rfl
theorem pz_hsK_eq {cs : List (List pz_C)} {k : Nat} {c q : pz_C} {K : List (List pz_C) → pz_R} (hq : pz_at cs k = some q) : pz_hsK cs k c K = K (pz_set cs k c) := by
  unfold pz_hsK pz_set
  rw [pz_at_eq] at hq
  have e : pm_nth cs (Nat.div k 16) = cs[k / 16]? := pm_nth_eq _ _
  rw [e]
  cases hr : cs[k / 16]? with
  | none => rw [hr] at hq; cases hq
  | some r =>
    show pz_stK r (Nat.mod k 16) c (fun r' => pz_stK cs (Nat.div k 16) r' K) = K (pm_set cs (Nat.div k 16) (pm_set r (Nat.mod k 16) c))
    rw [pz_stK_eq, pz_stK_eq]
theorem pz_fit_ok {V : pz_V} {t v : Nat} (ht : t < 4) (h : pz_fit t v = true) : pm_fit t (pz_v V v) = true := by
  rcases (by omega : t = 0 ∨ t = 1 ∨ t = 2 ∨ t = 3) with rfl | rfl | rfl | rfl
  · have h : v % 4 = 0 := Nat.eq_of_beq_eq_true h
    obtain ⟨a, ha⟩ := pz_vI (V := V) h
    rw [ha]; rfl
  · have h : (Nat.beq v 0 || Nat.beq v 8) = true := h
    rw [Bool.or_eq_true] at h
    rcases h with h | h
    · rw [Nat.eq_of_beq_eq_true h]; rfl
    · rw [Nat.eq_of_beq_eq_true h, show (8 : Nat) = 8 * 1 from rfl, pz_vi]; rfl
  · have h : v % 8 = 1 := Nat.eq_of_beq_eq_true h
    rw [pz_v1 h]; rfl
  · have h : (Nat.beq (Nat.mod v 8) 2 || Nat.beq (Nat.mod v 8) 3) = true := h
    rw [Bool.or_eq_true] at h
    rcases h with h | h
    · have h : v % 8 = 2 := Nat.eq_of_beq_eq_true h
      rw [pz_v2 h]; rfl
    · have h : v % 8 = 3 := Nat.eq_of_beq_eq_true h
      rw [pz_v3 h]; rfl
/-- what is there at the start, as the symbols have it -/
def pz_X (V : pz_V) (S : Nat) (X : List (Nat × List Value)) : Prop := (∃ l, X[0]? = some (0, l) ∧ l.length = S ∧ ∀ b, b < S → b < 7 → l[b]? = some (.int (V.1 b))) ∧ ∀ ci, X[16 + ci]? = pm_new[ci]?
def pz_w (c : Nat) : Value := if c = 0 then .int 0 else if c = 1 then .long 0 else .null
theorem pz_w_v (V : pz_V) {c : Nat} (h : c = 0 ∨ c = 1 ∨ c = 3) : pz_v V c = pz_w c := by
  rcases h with rfl | rfl | rfl <;> rfl
def pz_nwc (ci : Nat) : Bool := match pz_new[ci]?, pm_new[ci]? with
  | some q, some r => decide (r.2 = (List.range q.1).map fun j => pz_w (pz_sl q.2 j)) && (List.range q.1).all fun j => Nat.beq (pz_sl q.2 j) 0 || (Nat.beq (pz_sl q.2 j) 1 || Nat.beq (pz_sl q.2 j) 3)
  | none, _ => true
  | _, _ => false
theorem pz_nws : (List.range 13).all pz_nwc = true := by decide +kernel
theorem pz_nwl : pz_new.length = 13 := by decide +kernel
theorem pz_nw {V : pz_V} {ci : Nat} {q : Nat × Nat} (h : pz_new[ci]? = some q) : ∃ z, pm_new[ci]? = some (z, (List.range q.1).map fun j => pz_v V (pz_sl q.2 j)) := by
  have hl : ci < 13 := by
    have := (List.getElem?_eq_some_iff.mp h).1
    rw [pz_nwl] at this
    exact this
  have h1 := List.all_eq_true.mp pz_nws ci (List.mem_range.mpr hl)
  unfold pz_nwc at h1
  rw [h] at h1
  cases hr : pm_new[ci]? with
  | none => rw [hr] at h1; cases h1
  | some r =>
    rw [hr] at h1
    have h1 : (decide (r.2 = (List.range q.1).map fun j => pz_w (pz_sl q.2 j)) && (List.range q.1).all fun j => Nat.beq (pz_sl q.2 j) 0 || (Nat.beq (pz_sl q.2 j) 1 || Nat.beq (pz_sl q.2 j) 3)) = true := h1
    rw [Bool.and_eq_true, decide_eq_true_eq, List.all_eq_true] at h1
    refine ⟨r.1, ?_⟩
    have e : r.2 = (List.range q.1).map fun j => pz_v V (pz_sl q.2 j) := by
      rw [h1.1]
      apply List.map_congr_left
      intro j hj
      have h2 := h1.2 j hj
      rw [Bool.or_eq_true, Bool.or_eq_true] at h2
      refine (pz_w_v V ?_).symm
      rcases h2 with g | g | g
      · exact Or.inl (Nat.eq_of_beq_eq_true g)
      · exact Or.inr (Or.inl (Nat.eq_of_beq_eq_true g))
      · exact Or.inr (Or.inr (Nat.eq_of_beq_eq_true g))
    rw [← e]
theorem pz_push_some {h : pz_H} {c : pz_C} {K : pz_H → Nat → pz_R} {os : List pz_O} (hr : pz_push h c K = some os) : ∃ q, pz_at h.2 h.1 = some q ∧ K (h.1 + 1, pz_set h.2 h.1 c) h.1 = some os := by
  unfold pz_push at hr
  cases hq : pz_at h.2 h.1 with
  | none => rw [hq] at hr; cases hr
  | some q =>
    rw [hq] at hr
    have hr : (pm_fn h.1 fun u => pz_hsK h.2 u c (fun cs => pm_fn (Nat.succ u) fun z => K (z, cs) u)) = some os := hr
    rw [pm_fn_eq, pz_hsK_eq hq, pm_fn_eq] at hr
    exact ⟨q, rfl, hr⟩
theorem pz_alq_T {P e : Nat} : ∀ (n v : Nat), pz_alq P e v n = true → ∀ j, j < n → pz_sl P (v + j) = e
  | 0, v, _, j, hj => by omega
  | n + 1, v, h, j, hj => by
    have h : cond (Nat.beq (pz_sl P v) e) (pz_alq P e (Nat.succ v) n) false = true := h
    cases hb : Nat.beq (pz_sl P v) e with
    | false => rw [hb] at h; cases h
    | true =>
      rw [hb, cond_true] at h
      cases j with
      | zero => exact Nat.eq_of_beq_eq_true hb
      | succ j =>
        have := pz_alq_T n (Nat.succ v) h j (by omega)
        rw [show v + (j + 1) = Nat.succ v + j by show v + (j + 1) = v + 1 + j; omega]
        exact this
theorem pz_ld_T {V : pz_V} {C : pz_E} {n P j : Nat} {K : pz_E → Nat → pz_R} {os : List pz_O} {r : pm_R} (hC : pz_k V C) (h : pz_ld C n P j K = some os)
    (hk : ∀ C' b os', pz_k V C' → pz_v V j = .int (Int32.ofNat b) → b < n → n < 2147483648 → K C' (pz_sl P b) = some os' → pz_T V os' r) : pz_T V os r := by
  unfold pz_ld at h
  obtain ⟨hn, h⟩ := pz_ct h
  have hn : n < 2147483648 := pm_blt hn
  rcases pz_c2 h with ⟨h0, h1⟩ | ⟨-, h1⟩
  · have h0 : j % 8 = 0 := Nat.eq_of_beq_eq_true h0
    obtain ⟨hb, h2⟩ := pz_ct h1
    rw [pm_fn_eq] at h2
    exact hk C (j / 8) os hC (pz_v0 h0) (pm_blt hb) hn h2
  · obtain ⟨h4, h2⟩ := pz_ct h1
    have h4 : j % 8 = 4 := Nat.eq_of_beq_eq_true h4
    obtain ⟨lo, hi, e, h3⟩ := pz_ib_some h2
    have e : C.1[j / 8 % 16]? = some (lo, hi) := e
    obtain ⟨k1, k2⟩ := hC.1 _ _ _ e
    rw [pm_fn_eq] at h3
    rcases pz_c2 h3 with ⟨hb, h5⟩ | ⟨-, h5⟩
    · simp only [Bool.and_eq_true] at hb
      obtain ⟨b1, b2, b3, b4⟩ := hb
      have b1 := Nat.le_of_ble_eq_true b1
      have b3 := pm_blt b3
      have ev : Nat.mod (Nat.add (Nat.add lo 2147483648) (Nat.div (Nat.div j 8) 16)) 4294967296 = (lo + 2147483648 + j / 8 / 16) % 4294967296 := rfl
      rw [ev] at b3 b4 h5
      rw [pm_fn_eq] at h5
      generalize hw : pz_b (V.1 (j / 8 % 16)) = w at k1 k2
      have hv := pz_sym_at V hw
      generalize hg : (lo + 2147483648 + j / 8 / 16) % 4294967296 = v at b3 b4 h5
      have b3 : v + (hi - lo) < n := b3
      have hsl := pz_alq_T _ _ b4 (w - lo) (by show w - lo < (hi - lo) + 1; omega)
      refine hk C (v + (w - lo)) os hC ?_ (by omega) hn (by rw [hsl]; exact h5)
      rw [pz_v4 h4, hv]
      have hm : (w + 2147483648 + j / 8 / 16) % 4294967296 = (v + (w - lo)) % 4294967296 := by
        rw [← hg]
        omega
      rw [hm, pz_i32]
    · refine pz_int_T hC h5 fun C' b os' q1 q2 q3 => ?_
      obtain ⟨hb, q4⟩ := pz_ct q3
      rw [pm_fn_eq] at q4
      exact hk C' b os' q1 q2 (pm_blt hb) hn q4
section PzH
variable {V : pz_V} {ih : pz_J} {x : pm_I} {C : pz_E} {d : Nat} {h : pz_H} {M : pz_M} {pc len L own S : Nat} {st : List Nat} {os : List pz_O} {X : List (Nat × List Value)}
theorem pz_tGet {ix ci k t : Nat} (hl : pm_get (pm_lnk own) ix = some (0, ci, k, t)) (hK : pz_S V ih x d M) (hC : pz_k V C) (hr : pz_gGet (100 + ci) k ih C d h M pc len L st = some os) : pz_T V os (pm_gGet ix x d (pz_h V h) M.1 own pc len (pz_l V M.2.1 L) (st.map (pz_v V))) := by
  unfold pz_gGet at hr
  obtain ⟨c, r, e1, hr1⟩ := pz_p1_some hr
  clear hr
  subst e1
  obtain ⟨h2, hr2⟩ := pz_ct hr1
  have h2 : c % 8 = 2 := Nat.eq_of_beq_eq_true h2
  obtain ⟨⟨tg, n, P⟩, hq, hr3⟩ := pz_cell_some hr2
  have hq : 16 ≤ c / 8 ∧ c / 8 - 16 < h.1 ∧ pz_at h.2 (c / 8 - 16) = some (tg, n, P) := hq
  obtain ⟨hb, hr4⟩ := pz_ct hr3
  rw [Bool.and_eq_true] at hb
  have ht : tg = 100 + ci := Nat.eq_of_beq_eq_true hb.1
  subst ht
  have hk : k < n := pm_blt hb.2
  rw [pm_fn_eq] at hr4
  refine pz_rs_T hC hr4 fun v hv hr5 => ?_
  rw [pz_nx_eq] at hr5
  have := hK _ _ _ _ _ _ hC hr5
  have hc := pz_pmc (V := V) hq
  rw [pz_c_obj] at hc
  unfold pm_gGet
  rw [List.map_cons, pz_v2 h2]
  try dsimp only
  rw [hl, show pm_cell (pz_h V h) (c / 8) = _ from hc]
  show pz_T V os (cond (Nat.beq ci ci) (match pm_nth ((List.range n).map fun j => pz_v V (pz_sl P j)) k with
        | some v => pm_fn (pc + len) fun q => x d (pz_h V h) M.1 q (pz_l V M.2.1 L) (v :: r.map (pz_v V))
        | none => none) none)
  rw [pz_beq_t, cond_true, pm_nth_eq, pz_row_get hk]
  show pz_T V os (pm_fn (pc + len) fun q => x d (pz_h V h) M.1 q (pz_l V M.2.1 L) (pz_v V (pz_sl P k) :: r.map (pz_v V)))
  rw [pm_fn_eq]
  rw [List.map_cons, hv] at this
  exact this
theorem pz_tPut {ix ci k t : Nat} (ht4 : t < 4) (hl : pm_get (pm_lnk own) ix = some (0, ci, k, t)) (hK : pz_S V ih x d M) (hC : pz_k V C) (hr : pz_gPut (100 + ci) k t ih C d h M pc len L st = some os) : pz_T V os (pm_gPut ix x d (pz_h V h) M.1 own pc len (pz_l V M.2.1 L) (st.map (pz_v V))) := by
  unfold pz_gPut at hr
  obtain ⟨v, r1, e1, hr1⟩ := pz_p1_some hr
  obtain ⟨c, r, e2, hr2⟩ := pz_p1_some hr1
  clear hr hr1
  subst e2
  subst e1
  obtain ⟨hb, hr3⟩ := pz_ct hr2
  simp only [Bool.and_eq_true] at hb
  obtain ⟨b1, b2, b3⟩ := hb
  have h2 : c % 8 = 2 := Nat.eq_of_beq_eq_true b1
  have hs := pz_small_lt b3
  obtain ⟨⟨tg, n, P⟩, hq, hr4⟩ := pz_cell_some hr3
  have hq : 16 ≤ c / 8 ∧ c / 8 - 16 < h.1 ∧ pz_at h.2 (c / 8 - 16) = some (tg, n, P) := hq
  obtain ⟨hb, hr5⟩ := pz_ct hr4
  rw [Bool.and_eq_true] at hb
  have ht : tg = 100 + ci := Nat.eq_of_beq_eq_true hb.1
  subst ht
  have hk : k < n := pm_blt hb.2
  rw [pm_fn_eq, pm_fn_eq, pm_fn_eq, show Nat.sub (Nat.div c 8) 16 = c / 8 - 16 from rfl, pz_hsK_eq hq.2.2, pz_nx_eq] at hr5
  have := hK _ _ _ _ _ _ hC hr5
  have hc := pz_pmc (V := V) hq
  rw [pz_c_obj] at hc
  unfold pm_gPut
  rw [List.map_cons, List.map_cons, pz_v2 h2]
  try dsimp only
  rw [hl, show pm_cell (pz_h V h) (c / 8) = _ from hc]
  show pz_T V os (cond (Nat.beq ci ci) (cond (Nat.blt k (pm_len ((List.range n).map fun j => pz_v V (pz_sl P j)))) (cond (pm_fit t (pz_v V v)) (pm_fv (pz_v V v) fun v => pm_fn (pc + len) fun q => x d (pm_set (pz_h V h) (c / 8 - 16) (.inr (ci, pm_set ((List.range n).map fun j => pz_v V (pz_sl P j)) k v))) M.1 q (pz_l V M.2.1 L) (r.map (pz_v V))) none) none) none)
  rw [pz_beq_t, cond_true, pm_len_eq, List.length_map, List.length_range, pz_blt_t hk, cond_true, pz_fit_ok ht4 b2, cond_true, pm_fv_eq, pm_fn_eq]
  rw [pz_h_set (c := (100 + ci, n, pz_up P k v)) hq.2.2, pz_c_obj, pz_row_up hs] at this
  rw [pm_set_eq, pm_set_eq]
  exact this
theorem pz_tNew {ix ci n b : Nat} (hX : pz_X V S X) (hl : pm_get (pm_lnk own) ix = some (6, ci, n, b)) (hK : pz_S V ih x d M) (hC : pz_k V C) (hr : pz_gNew ci n ih C d h M pc len L st = some os) : pz_T V os (pm_gNew X ix x d (pz_h V h) M.1 own pc len (pz_l V M.2.1 L) (st.map (pz_v V))) := by
  unfold pz_gNew at hr
  rw [pm_nth_eq] at hr
  cases hq : pz_new[ci]? with
  | none => rw [hq] at hr; cases hr
  | some q =>
    rw [hq] at hr
    obtain ⟨hb, hr1⟩ := pz_ct hr
    have hb : q.1 = n := Nat.eq_of_beq_eq_true hb
    obtain ⟨q2, hq2, hr2⟩ := pz_push_some hr1
    rw [pz_psh_eq] at hr2
    have := hK _ _ _ _ _ _ hC hr2
    obtain ⟨z, hz⟩ := pz_nw (V := V) hq
    have hx : pm_nth X (16 + ci) = some (z, (List.range q.1).map fun j => pz_v V (pz_sl q.2 j)) := by
      rw [pm_nth_eq, hX.2 ci, hz]
    unfold pm_gNew
    rw [hl]
    show pz_T V os (match pm_nth X (16 + ci) with
      | some (_, fs) => cond (Nat.beq (pm_len fs) n) (pm_fn (pm_len (pz_h V h)) fun z => pm_fn (pc + len) fun q => x d (pz_h V h ++ [.inr (ci, fs)]) M.1 q (pz_l V M.2.1 L) (.ref (16 + z) :: st.map (pz_v V))) none
      | none => none)
    rw [hx]
    show pz_T V os (cond (Nat.beq (pm_len ((List.range q.1).map fun j => pz_v V (pz_sl q.2 j))) n) (pm_fn (pm_len (pz_h V h)) fun z => pm_fn (pc + len) fun w => x d (pz_h V h ++ [.inr (ci, (List.range q.1).map fun j => pz_v V (pz_sl q.2 j))]) M.1 w (pz_l V M.2.1 L) (.ref (16 + z) :: st.map (pz_v V))) none)
    rw [pm_len_eq, List.length_map, List.length_range, hb, pz_beq_t, cond_true, pm_fn_eq, pm_fn_eq, pm_len_eq, pz_h_len]
    rw [pz_h_push (c := (Nat.add 100 ci, n, q.2)) hq2, show pz_c V (Nat.add 100 ci, n, q.2) = _ from pz_c_obj, List.map_cons, show Nat.add (Nat.mul 8 (Nat.add 16 h.1)) 2 = 8 * (16 + h.1) + 2 from rfl, pz_vr] at this
    exact this
theorem pz_e0 (V : pz_V) {t : Nat} {v : Value} (ht : t < 99) (hv : pz_e V t 0 = v) (n : Nat) : pz_c V (t, n, 0) = .inl (t, List.replicate n v) := by
  have e : ((List.range n).map fun j => pz_e V t (pz_sl 0 j)) = List.replicate n v := by
    refine List.eq_replicate_iff.mpr ⟨by rw [List.length_map, List.length_range], fun b hb => ?_⟩
    obtain ⟨j, -, rfl⟩ := List.mem_map.mp hb
    rw [pz_zero, hv]
  rw [pz_c_arr ht, e]
theorem pz_Nwa {t y : Nat} {v : Value} {r : List Nat} {b : Nat} (ht : t < 99) (hv : pz_e V t 0 = v) (hK : pz_S V ih x d M) (hC : pz_k V C) (hr : (cond (Nat.ble b 60000) (pm_fn b fun n => pz_push h (t, n, 0) fun h z => pz_psh ih C d h M pc len L (Nat.add (Nat.mul 8 (Nat.add 16 z)) 2) r) none) = some os) :
    (b ≤ 60000 ∧ pz_T V os (x d (pz_h V h ++ [.inl (t, List.replicate b v)]) M.1 (pc + len) (pz_l V M.2.1 L) (.ref (16 + h.1) :: r.map (pz_v V)))) := by
  obtain ⟨hb, hr1⟩ := pz_ct hr
  have hb := Nat.le_of_ble_eq_true hb
  rw [pm_fn_eq] at hr1
  obtain ⟨q2, hq2, hr2⟩ := pz_push_some hr1
  rw [pz_psh_eq] at hr2
  have := hK _ _ _ _ _ _ hC hr2
  rw [pz_h_push (c := (t, b, 0)) hq2, pz_e0 V ht hv, List.map_cons, show Nat.add (Nat.mul 8 (Nat.add 16 h.1)) 2 = 8 * (16 + h.1) + 2 from rfl, pz_vr] at this
  exact ⟨hb, this⟩
theorem pz_tNwa {t : ArrayType} (ht : (pm_tc t).1 < 5) (hK : pz_S V ih x d M) (hC : pz_k V C) (hr : pz_gNwa (pm_tc t).1 ih C d h M pc len L st = some os) : pz_T V os (pm_gNwa t x d (pz_h V h) M.1 own pc len (pz_l V M.2.1 L) (st.map (pz_v V))) := by
  unfold pz_gNwa at hr
  obtain ⟨y, r, e1, hr1⟩ := pz_p1_some hr
  clear hr
  subst e1
  refine pz_int_T hC hr1 fun C1 b os1 hC1 hy hr2 => ?_
  have hv : pz_e V (pm_tc t).1 0 = (pm_tc t).2 := by
    cases t with
    | int => rfl
    | boolean => rfl
    | char => rfl
    | long => rfl
    | byte => rfl
    | _ => exact absurd ht (by decide)
  obtain ⟨hb, hT⟩ := pz_Nwa (y := y) (by omega) hv hK hC1 hr2
  unfold pm_gNwa
  rw [List.map_cons, hy]
  try dsimp only
  rw [decide_eq_false (pz_nneg (by omega)), cond_false, pz_clamp (by omega), Nat.ble_eq_true_of_le hb, cond_true, pz_blt_t ht, cond_true, pm_fn_eq, pm_fn_eq, pm_len_eq, pz_h_len, pm_rep_eq]
  exact hT
theorem pz_tAnw {ix ci a b : Nat} (hl : pm_get (pm_lnk own) ix = some (6, ci, a, b)) (hci : (Nat.beq (5 + ci) 8 || Nat.beq (5 + ci) 12) = true) (hK : pz_S V ih x d M) (hC : pz_k V C) (hr : pz_gNwa (5 + ci) ih C d h M pc len L st = some os) : pz_T V os (pm_gAnw ix x d (pz_h V h) M.1 own pc len (pz_l V M.2.1 L) (st.map (pz_v V))) := by
  unfold pz_gNwa at hr
  obtain ⟨y, r, e1, hr1⟩ := pz_p1_some hr
  clear hr
  subst e1
  refine pz_int_T hC hr1 fun C1 b os1 hC1 hy hr2 => ?_
  have h8 : 5 + ci = 8 ∨ 5 + ci = 12 := by
    rw [Bool.or_eq_true] at hci
    rcases hci with g | g
    · exact Or.inl (Nat.eq_of_beq_eq_true g)
    · exact Or.inr (Nat.eq_of_beq_eq_true g)
  have hv : pz_e V (5 + ci) 0 = .null := by
    rcases h8 with g | g <;> rw [g] <;> rfl
  obtain ⟨hb, hT⟩ := pz_Nwa (y := y) (by omega) hv hK hC1 hr2
  have hok : pm_okt (5 + ci) = true := by
    rcases h8 with g | g <;> rw [g] <;> rfl
  unfold pm_gAnw
  rw [List.map_cons, hy, hl]
  show pz_T V os1 (cond (decide (Int32.ofNat b < 0)) none (cond (Nat.ble (Int32.ofNat b).toNatClampNeg 60000 && pm_okt (5 + ci)) (pm_fn (pm_len (pz_h V h)) fun z => pm_fn (pc + len) fun q => x d (pz_h V h ++ [.inl (5 + ci, pm_rep (Int32.ofNat b).toNatClampNeg .null)]) M.1 q (pz_l V M.2.1 L) (.ref (16 + z) :: r.map (pz_v V))) none))
  rw [decide_eq_false (pz_nneg (by omega)), cond_false, pz_clamp (by omega), Nat.ble_eq_true_of_le hb, hok, Bool.and_self, cond_true, pm_fn_eq, pm_fn_eq, pm_len_eq, pz_h_len, pm_rep_eq]
  exact hT
theorem pz_tLen (hX : pz_X V S X) (hK : pz_S V ih x d M) (hC : pz_k V C) (hr : pz_gLen S ih C d h M pc len L st = some os) : pz_T V os (pm_gLen X x d (pz_h V h) M.1 own pc len (pz_l V M.2.1 L) (st.map (pz_v V))) := by
  unfold pz_gLen at hr
  obtain ⟨c, r, e1, hr1⟩ := pz_p1_some hr
  clear hr
  subst e1
  have fin : ∀ (t : Nat) (l : List Value) (c' : Nat), c % 8 = 2 → pm_row X (pz_h V h) (c / 8) = some (t, l) → pm_okt t = true → c' = 8 * l.length → ih C d h M (pc + len) L (c' :: r) = some os → pz_T V os (pm_gLen X x d (pz_h V h) M.1 own pc len (pz_l V M.2.1 L) ((c :: r).map (pz_v V))) := by
    intro t l c' h1 h2 h3 h4 h5
    have := hK _ _ _ _ _ _ hC h5
    unfold pm_gLen
    rw [List.map_cons, pz_v2 h1]
    try dsimp only
    rw [h2]
    try dsimp only
    rw [h3, cond_true, pm_fn_eq, pm_fn_eq, pm_len_eq]
    rw [h4, List.map_cons, pz_vi] at this
    exact this
  rcases pz_c2 hr1 with ⟨hb, hr2⟩ | ⟨-, hr2⟩
  · have hb : c = 2 := Nat.eq_of_beq_eq_true hb
    rw [pz_psh_eq] at hr2
    obtain ⟨⟨l, l1, l2, l3⟩, -⟩ := hX
    refine fin 0 l _ (by omega) ?_ rfl (by rw [l2]; rfl) hr2
    rw [hb]
    unfold pm_row
    rw [show Nat.blt (2 / 8) 16 = true from rfl, cond_true, pm_nth_eq, show (2 / 8 : Nat) = 0 from rfl, l1]
    rfl
  · obtain ⟨hb, hr3⟩ := pz_ct hr2
    have hb : c % 8 = 2 := Nat.eq_of_beq_eq_true hb
    obtain ⟨⟨tg, n, P⟩, hq, hr4⟩ := pz_cell_some hr3
    have hq : 16 ≤ c / 8 ∧ c / 8 - 16 < h.1 ∧ pz_at h.2 (c / 8 - 16) = some (tg, n, P) := hq
    obtain ⟨ho, hr5⟩ := pz_ct hr4
    have ho : (Nat.blt tg 5 || (Nat.beq tg 8 || Nat.beq tg 12)) = true := ho
    have h99 : tg < 99 := by
      rw [Bool.or_eq_true, Bool.or_eq_true] at ho
      rcases ho with g | g | g
      · have := pm_blt g; omega
      · have := Nat.eq_of_beq_eq_true g; omega
      · have := Nat.eq_of_beq_eq_true g; omega
    rw [pz_psh_eq] at hr5
    refine fin tg _ _ hb (pz_pmr hq (pz_c_arr h99)) ?_ ?_ hr5
    · unfold pm_okt
      rw [Bool.or_assoc]
      exact ho
    · rw [List.length_map, List.length_range]; rfl
/-- an element that is read -/
theorem pz_Ald {t t' u c j : Nat} {l : List Value} {r : List Nat} {b c' : Nat} {y : Int32} (hK : pz_S V ih x d M) (hC : pz_k V C) (hc : c % 8 = 2) (hj : pz_v V j = .int (Int32.ofNat b)) (hb : b < 2147483648) (hrow : pm_row X (pz_h V h) (c / 8) = some (u, l)) (hu : (Nat.beq u t || Nat.beq u t') = true) (hl : l[b]? = some (.int y)) (hv : pz_v V c' = .int y) (hr : ih C d h M (pc + len) L (c' :: r) = some os) : pz_T V os (pm_gAld X t t' x d (pz_h V h) M.1 own pc len (pz_l V M.2.1 L) ((j :: c :: r).map (pz_v V))) := by
  have := hK _ _ _ _ _ _ hC hr
  unfold pm_gAld
  rw [List.map_cons, List.map_cons, hj, pz_v2 hc]
  try dsimp only
  rw [hrow]
  try dsimp only
  rw [hu, cond_true, decide_eq_false (pz_nneg hb), cond_false, pz_clamp hb, pm_nth_eq, hl]
  try dsimp only
  rw [pm_fn_eq]
  rw [List.map_cons, hv] at this
  exact this
theorem pz_e_i (V : pz_V) {t : Nat} (e : Nat) (h3 : t ≠ 3) (h5 : t < 5) : pz_e V t e = pz_v V (4 * e) := by
  unfold pz_e
  rw [if_neg h3, if_pos h5]
theorem pz_tIal (hX : pz_X V S X) (hK : pz_S V ih x d M) (hC : pz_k V C) (hr : pz_gIal S ih C d h M pc len L st = some os) : pz_T V os (pm_gAld X 0 0 x d (pz_h V h) M.1 own pc len (pz_l V M.2.1 L) (st.map (pz_v V))) := by
  unfold pz_gIal at hr
  obtain ⟨j, r1, e1, hr1⟩ := pz_p1_some hr
  obtain ⟨c, r, e2, hr2⟩ := pz_p1_some hr1
  clear hr hr1
  subst e2
  subst e1
  rcases pz_c2 hr2 with ⟨hb, hr3⟩ | ⟨-, hr3⟩
  · have hb : c = 2 := Nat.eq_of_beq_eq_true hb
    refine pz_int_T hC hr3 fun C1 b os1 hC1 hj hr4 => ?_
    obtain ⟨hbb, hr5⟩ := pz_ct hr4
    rw [Bool.and_eq_true] at hbb
    have b1 := pm_blt hbb.1
    have b2 := pm_blt hbb.2
    rw [pm_fn_eq] at hr5
    refine pz_rs_T hC1 hr5 fun c' hc' hr6 => ?_
    rw [pz_nx_eq] at hr6
    obtain ⟨⟨l, l1, l2, l3⟩, -⟩ := hX
    refine pz_Ald (u := 0) (l := l) hK hC1 (by omega) hj (by omega) ?_ rfl (l3 b b1 b2) ?_ hr6
    · rw [hb]
      unfold pm_row
      rw [show Nat.blt (2 / 8) 16 = true from rfl, cond_true, pm_nth_eq, show (2 / 8 : Nat) = 0 from rfl, l1]
      rfl
    · rw [hc', show Nat.add (Nat.mul 8 b) 4 = 8 * b + 4 from rfl, pz_vs, pz_zi_off V (by omega)]
  · obtain ⟨hb, hr4⟩ := pz_ct hr3
    have hb : c % 8 = 2 := Nat.eq_of_beq_eq_true hb
    obtain ⟨⟨tg, n, P⟩, hq, hr5⟩ := pz_cell_some hr4
    have hq : 16 ≤ c / 8 ∧ c / 8 - 16 < h.1 ∧ pz_at h.2 (c / 8 - 16) = some (tg, n, P) := hq
    obtain ⟨ho, hr6⟩ := pz_ct hr5
    have ho : tg = 0 := Nat.eq_of_beq_eq_true ho
    subst ho
    refine pz_ld_T hC hr6 fun C1 b os1 hC1 hj hbn hn hr7 => ?_
    rw [pm_fn_eq] at hr7
    refine pz_rs_T hC1 hr7 fun c' hc' hr8 => ?_
    rw [pz_nx_eq] at hr8
    obtain ⟨y, hy⟩ := pz_vI (V := V) (c := 4 * pz_sl P b) (by omega)
    refine pz_Ald (u := 0) hK hC1 hb hj (by omega) (pz_pmr hq (pz_c_arr (by decide))) rfl (y := y) ?_ (by rw [hc']; exact hy) hr8
    rw [pz_row_get hbn, pz_e_i V _ (by decide) (by decide), hy]
theorem pz_tBal (hK : pz_S V ih x d M) (hC : pz_k V C) (hr : pz_gBal ih C d h M pc len L st = some os) : pz_T V os (pm_gAld X 1 4 x d (pz_h V h) M.1 own pc len (pz_l V M.2.1 L) (st.map (pz_v V))) := by
  unfold pz_gBal at hr
  obtain ⟨j, r1, e1, hr1⟩ := pz_p1_some hr
  obtain ⟨c, r, e2, hr2⟩ := pz_p1_some hr1
  clear hr hr1
  subst e2
  subst e1
  obtain ⟨hb, hr4⟩ := pz_ct hr2
  have hb : c % 8 = 2 := Nat.eq_of_beq_eq_true hb
  obtain ⟨⟨tg, n, P⟩, hq, hr5⟩ := pz_cell_some hr4
  have hq : 16 ≤ c / 8 ∧ c / 8 - 16 < h.1 ∧ pz_at h.2 (c / 8 - 16) = some (tg, n, P) := hq
  obtain ⟨ho, hr6⟩ := pz_ct hr5
  have ho : (Nat.beq tg 1 || Nat.beq tg 4) = true := ho
  have h14 : tg = 1 ∨ tg = 4 := by
    rw [Bool.or_eq_true] at ho
    rcases ho with g | g
    · exact Or.inl (Nat.eq_of_beq_eq_true g)
    · exact Or.inr (Nat.eq_of_beq_eq_true g)
  refine pz_ld_T hC hr6 fun C1 b os1 hC1 hj hbn hn hr7 => ?_
  rw [pm_fn_eq] at hr7
  refine pz_rs_T hC1 hr7 fun c' hc' hr8 => ?_
  rw [pz_nx_eq] at hr8
  obtain ⟨y, hy⟩ := pz_vI (V := V) (c := 4 * pz_sl P b) (by omega)
  have hbn : b < n := hbn
  have hn : n < 2147483648 := hn
  refine pz_Ald (u := tg) hK hC1 hb hj (by omega) (pz_pmr hq (pz_c_arr (by omega))) ho (y := y) ?_ (by rw [hc']; exact hy) hr8
  rw [pz_row_get hbn, pz_e_i V _ (by omega) (by omega), hy]
theorem pz_tLal (hK : pz_S V ih x d M) (hC : pz_k V C) (hr : pz_gLal ih C d h M pc len L st = some os) : pz_T V os (pm_gLald X x d (pz_h V h) M.1 own pc len (pz_l V M.2.1 L) (st.map (pz_v V))) := by
  unfold pz_gLal at hr
  obtain ⟨j, r1, e1, hr1⟩ := pz_p1_some hr
  obtain ⟨c, r, e2, hr2⟩ := pz_p1_some hr1
  clear hr hr1
  subst e2
  subst e1
  obtain ⟨hb, hr4⟩ := pz_ct hr2
  have hb : c % 8 = 2 := Nat.eq_of_beq_eq_true hb
  obtain ⟨⟨tg, n, P⟩, hq, hr5⟩ := pz_cell_some hr4
  have hq : 16 ≤ c / 8 ∧ c / 8 - 16 < h.1 ∧ pz_at h.2 (c / 8 - 16) = some (tg, n, P) := hq
  obtain ⟨ho, hr6⟩ := pz_ct hr5
  have ho : tg = 3 := Nat.eq_of_beq_eq_true ho
  subst ho
  refine pz_ld_T hC hr6 fun C1 b os1 hC1 hj hbn hn hr7 => ?_
  rw [pz_psh_eq] at hr7
  have := hK _ _ _ _ _ _ hC1 hr7
  have hbn : b < n := hbn
  have hn : n < 2147483648 := hn
  unfold pm_gLald
  rw [List.map_cons, List.map_cons, hj, pz_v2 hb]
  try dsimp only
  rw [pz_pmr hq (pz_c_arr (by decide))]
  try dsimp only
  rw [show Nat.beq 3 3 = true from rfl, cond_true, decide_eq_false (pz_nneg (by omega)), cond_false, pz_clamp (by omega), pm_nth_eq, pz_row_get hbn]
  have e : pz_e V 3 (pz_sl P b) = .long (Int64.ofNat (pz_sl P b)) := rfl
  rw [e]
  try dsimp only
  rw [pm_fn_eq, ← pz_vl V]
  exact this
theorem pz_tAal (hK : pz_S V ih x d M) (hC : pz_k V C) (hr : pz_gAal ih C d h M pc len L st = some os) : pz_T V os (pm_gAald x d (pz_h V h) M.1 own pc len (pz_l V M.2.1 L) (st.map (pz_v V))) := by
  unfold pz_gAal at hr
  obtain ⟨j, r1, e1, hr1⟩ := pz_p1_some hr
  obtain ⟨c, r, e2, hr2⟩ := pz_p1_some hr1
  clear hr hr1
  subst e2
  subst e1
  obtain ⟨hb, hr4⟩ := pz_ct hr2
  have hb : c % 8 = 2 := Nat.eq_of_beq_eq_true hb
  obtain ⟨⟨tg, n, P⟩, hq, hr5⟩ := pz_cell_some hr4
  have hq : 16 ≤ c / 8 ∧ c / 8 - 16 < h.1 ∧ pz_at h.2 (c / 8 - 16) = some (tg, n, P) := hq
  obtain ⟨ho, hr6⟩ := pz_ct hr5
  have ho : (Nat.beq tg 8 || Nat.beq tg 12) = true := ho
  have h8 : tg = 8 ∨ tg = 12 := by
    rw [Bool.or_eq_true] at ho
    rcases ho with g | g
    · exact Or.inl (Nat.eq_of_beq_eq_true g)
    · exact Or.inr (Nat.eq_of_beq_eq_true g)
  refine pz_ld_T hC hr6 fun C1 b os1 hC1 hj hbn hn hr7 => ?_
  obtain ⟨h0, hr8⟩ := pz_cf hr7
  have h0 : pz_sl P b ≠ 0 := fun q => by
    have h0 : Nat.beq (pz_sl P b) 0 = false := h0
    rw [q] at h0; cases h0
  rw [pz_psh_eq] at hr8
  have := hK _ _ _ _ _ _ hC1 hr8
  have hbn : b < n := hbn
  have hn : n < 2147483648 := hn
  have hc := pz_pmc (V := V) hq
  rw [pz_c_arr (by omega)] at hc
  unfold pm_gAald
  rw [List.map_cons, List.map_cons, hj, pz_v2 hb]
  try dsimp only
  rw [show pm_cell (pz_h V h) (c / 8) = _ from hc]
  try dsimp only
  rw [ho, cond_true, decide_eq_false (pz_nneg (by omega)), cond_false, pz_clamp (by omega), pm_nth_eq, pz_row_get hbn]
  have e : pz_e V tg (pz_sl P b) = .ref (pz_sl P b - 1) := by
    unfold pz_e
    rw [if_neg (by omega), if_neg (by omega), if_neg h0]
  rw [e]
  try dsimp only
  rw [pm_fn_eq]
  rw [List.map_cons, show Nat.add (Nat.mul 8 (Nat.pred (pz_sl P b))) 2 = 8 * (pz_sl P b - 1) + 2 from rfl, pz_vr] at this
  exact this
/-- a store -/
theorem pz_st_T {r : List Nat} {c b e t : Nat} (ht : t < 99) (he : e < 2 ^ 72) (hK : pz_S V ih x d M) (hC : pz_k V C) (hr : pz_st ih C d h M pc len L r c b e t = some os) :
    ∃ l : List Value, c % 8 = 2 ∧ pm_cell (pz_h V h) (c / 8) = some (.inl (t, l)) ∧ b < l.length ∧ b < 2147483648 ∧ pz_T V os (x d (pm_set (pz_h V h) (c / 8 - 16) (.inl (t, pm_set l b (pz_e V t e)))) M.1 (pc + len) (pz_l V M.2.1 L) (r.map (pz_v V))) := by
  unfold pz_st at hr
  obtain ⟨hb, hr1⟩ := pz_ct hr
  have hb : c % 8 = 2 := Nat.eq_of_beq_eq_true hb
  obtain ⟨⟨tg, n, P⟩, hq, hr2⟩ := pz_cell_some hr1
  have hq : 16 ≤ c / 8 ∧ c / 8 - 16 < h.1 ∧ pz_at h.2 (c / 8 - 16) = some (tg, n, P) := hq
  obtain ⟨ho, hr3⟩ := pz_ct hr2
  simp only [Bool.and_eq_true] at ho
  obtain ⟨o1, o2, o3⟩ := ho
  have o1 : tg = t := Nat.eq_of_beq_eq_true o1
  subst o1
  have o2 : b < n := pm_blt o2
  have o3 : n < 2147483648 := pm_blt o3
  rw [pm_fn_eq, pm_fn_eq, pm_fn_eq, show Nat.sub (Nat.div c 8) 16 = c / 8 - 16 from rfl, pz_hsK_eq hq.2.2, pz_nx_eq] at hr3
  have := hK _ _ _ _ _ _ hC hr3
  have hc := pz_pmc (V := V) hq
  rw [pz_c_arr ht] at hc
  refine ⟨_, hb, hc, by rw [List.length_map, List.length_range]; exact o2, by omega, ?_⟩
  rw [pz_h_set (c := (tg, n, pz_up P b e)) hq.2.2, pz_c_arr ht, pz_row_up (g := pz_e V tg) he] at this
  rw [pm_set_eq, pm_set_eq]
  exact this
theorem pz_in_t {b n : Nat} (h1 : b < n) (h2 : b < 2147483648) : pm_in (Int32.ofNat b) n = true := by
  unfold pm_in
  rw [decide_eq_false (pz_nneg h2), cond_false, pz_clamp h2, pz_blt_t h1]
theorem pz_tIas (hK : pz_S V ih x d M) (hC : pz_k V C) (hr : pz_gIas ih C d h M pc len L st = some os) : pz_T V os (pm_gIst 0 (fun x => x) x d (pz_h V h) M.1 own pc len (pz_l V M.2.1 L) (st.map (pz_v V))) := by
  unfold pz_gIas at hr
  obtain ⟨v, r1, e1, hr1⟩ := pz_p1_some hr
  obtain ⟨j, r2, e2, hr2⟩ := pz_p1_some hr1
  obtain ⟨c, r, e3, hr3⟩ := pz_p1_some hr2
  clear hr hr1 hr2
  subst e3
  subst e2
  subst e1
  obtain ⟨hb, hr4⟩ := pz_ct hr3
  rw [Bool.and_eq_true] at hb
  have h4 : v % 4 = 0 := Nat.eq_of_beq_eq_true hb.1
  have hs := pz_small_lt hb.2
  obtain ⟨y, hy⟩ := pz_vI (V := V) h4
  refine pz_int_T hC hr4 fun C1 b os1 hC1 hj hr5 => ?_
  have hs2 : v / 4 < 2 ^ 72 := Nat.lt_of_le_of_lt (Nat.div_le_self v 4) hs
  obtain ⟨l, q1, q2, q3, q4, q5⟩ := pz_st_T (by decide) hs2 hK hC1 hr5
  unfold pm_gIst
  rw [List.map_cons, List.map_cons, List.map_cons, hy, hj, pz_v2 q1]
  try dsimp only
  rw [q2]
  try dsimp only
  rw [show Nat.beq 0 0 = true from rfl, cond_true, pm_len_eq, pz_in_t q3 q4, cond_true, pm_fi_eq, pm_fn_eq, pz_clamp q4]
  rw [pz_e_i V _ (by decide) (by decide), show 4 * (v / 4) = v by omega, hy] at q5
  exact q5
theorem pz_tBas (hK : pz_S V ih x d M) (hC : pz_k V C) (hr : pz_gBas ih C d h M pc len L st = some os) : pz_T V os (pm_gIst 1 (fun x => x &&& 1) x d (pz_h V h) M.1 own pc len (pz_l V M.2.1 L) (st.map (pz_v V))) := by
  unfold pz_gBas at hr
  obtain ⟨v, r1, e1, hr1⟩ := pz_p1_some hr
  obtain ⟨j, r2, e2, hr2⟩ := pz_p1_some hr1
  obtain ⟨c, r, e3, hr3⟩ := pz_p1_some hr2
  clear hr hr1 hr2
  subst e3
  subst e2
  subst e1
  refine pz_int_T hC hr3 fun C1 y os1 hC1 hy hr4 => pz_int_T hC1 hr4 fun C2 b os2 hC2 hj hr5 => ?_
  have e9 : Nat.mul 2 (Nat.mod y 2) = 2 * (y % 2) := rfl
  rw [e9] at hr5
  obtain ⟨l, q1, q2, q3, q4, q5⟩ := pz_st_T (by decide) (by omega) hK hC2 hr5
  unfold pm_gIst
  rw [List.map_cons, List.map_cons, List.map_cons, hy, hj, pz_v2 q1]
  try dsimp only
  rw [q2]
  try dsimp only
  rw [show Nat.beq 1 1 = true from rfl, cond_true, pm_len_eq, pz_in_t q3 q4, cond_true, pm_fi_eq, pm_fn_eq, pz_clamp q4, pz_and1]
  rw [pz_e_i V _ (by decide) (by decide), show 4 * (2 * (y % 2)) = 8 * (y % 2) by omega, pz_vi] at q5
  exact q5
theorem pz_tLas (hK : pz_S V ih x d M) (hC : pz_k V C) (hr : pz_gLas ih C d h M pc len L st = some os) : pz_T V os (pm_gLst x d (pz_h V h) M.1 own pc len (pz_l V M.2.1 L) (st.map (pz_v V))) := by
  unfold pz_gLas at hr
  obtain ⟨v, r1, e1, hr1⟩ := pz_p1_some hr
  obtain ⟨j, r2, e2, hr2⟩ := pz_p1_some hr1
  obtain ⟨c, r, e3, hr3⟩ := pz_p1_some hr2
  clear hr hr1 hr2
  subst e3
  subst e2
  subst e1
  obtain ⟨hb, hr4⟩ := pz_ct hr3
  rw [Bool.and_eq_true] at hb
  have h4 : v % 8 = 1 := Nat.eq_of_beq_eq_true hb.1
  have hs := pz_small_lt hb.2
  refine pz_int_T hC hr4 fun C1 b os1 hC1 hj hr5 => ?_
  have hs2 : v / 8 < 2 ^ 72 := Nat.lt_of_le_of_lt (Nat.div_le_self v 8) hs
  obtain ⟨l, q1, q2, q3, q4, q5⟩ := pz_st_T (by decide) hs2 hK hC1 hr5
  unfold pm_gLst
  rw [List.map_cons, List.map_cons, List.map_cons, pz_v1 h4, hj, pz_v2 q1]
  try dsimp only
  rw [q2]
  try dsimp only
  rw [show Nat.beq 3 3 = true from rfl, cond_true, pm_len_eq, pz_in_t q3 q4, cond_true, pm_fl_eq, pm_fn_eq, pz_clamp q4]
  exact q5
theorem pz_tAas (hK : pz_S V ih x d M) (hC : pz_k V C) (hr : pz_gAas ih C d h M pc len L st = some os) : pz_T V os (pm_gAst x d (pz_h V h) M.1 own pc len (pz_l V M.2.1 L) (st.map (pz_v V))) := by
  unfold pz_gAas at hr
  obtain ⟨v, r1, e1, hr1⟩ := pz_p1_some hr
  obtain ⟨j, r2, e2, hr2⟩ := pz_p1_some hr1
  obtain ⟨c, r, e3, hr3⟩ := pz_p1_some hr2
  clear hr hr1 hr2
  subst e3
  subst e2
  subst e1
  obtain ⟨hb, hr4⟩ := pz_ct hr3
  rw [Bool.and_eq_true] at hb
  have h4 : v % 8 = 2 := Nat.eq_of_beq_eq_true hb.1
  have hs := pz_small_lt hb.2
  obtain ⟨⟨tg, n, P⟩, hq, hr5⟩ := pz_cell_some hr4
  have hq : 16 ≤ v / 8 ∧ v / 8 - 16 < h.1 ∧ pz_at h.2 (v / 8 - 16) = some (tg, n, P) := hq
  obtain ⟨ho, hr6⟩ := pz_ct hr5
  have h10 : tg = 103 ∨ tg = 107 := by
    rw [Bool.or_eq_true] at ho
    rcases ho with g | g
    · exact Or.inl (Nat.eq_of_beq_eq_true g)
    · exact Or.inr (Nat.eq_of_beq_eq_true g)
  have hc := pz_pmc (V := V) hq
  refine pz_int_T hC hr6 fun C1 b os1 hC1 hj hr7 => ?_
  have hs2 : v / 8 + 1 < 2 ^ 72 := by omega
  have hr7 : pz_st ih C1 d h M pc len L r c b (v / 8 + 1) (tg - 95) = some os1 := hr7
  obtain ⟨l, q1, q2, q3, q4, q5⟩ := pz_st_T (by omega) hs2 hK hC1 hr7
  rw [show tg = 100 + (tg - 100) by omega, pz_c_obj] at hc
  have ev : pz_e V (tg - 95) (v / 8 + 1) = .ref (v / 8) := by
    unfold pz_e
    rw [if_neg (by omega), if_neg (by omega), if_neg (by omega)]
    rfl
  unfold pm_gAst
  rw [List.map_cons, List.map_cons, List.map_cons, pz_v2 h4, hj, pz_v2 q1]
  try dsimp only
  rw [q2, show pm_cell (pz_h V h) (v / 8) = _ from hc]
  try dsimp only
  have hbb : (Nat.beq (tg - 95) (5 + (tg - 100)) && (Nat.beq (tg - 95) 8 || Nat.beq (tg - 95) 12)) = true := by
    rcases h10 with rfl | rfl <;> rfl
  rw [pm_len_eq, pz_in_t q3 q4, cond_true, hbb, cond_true, pm_fn_eq, pz_clamp q4, ← ev]
  exact q5
end PzH
