/-! what is there at the start (the tables, the String constants), shifts of 1, what a write and a call leave -/
def pw_xr (l : List Value) (lo hi : Int) : Prop := ∀ (j : Nat) (v : Value), l[j]? = some v → ∃ a : Int, v = pw_i a ∧ lo ≤ a ∧ a ≤ hi
/-- the tables and the Strings -/
def pw_Xk (X : List (Nat × List Value)) : Prop := (∃ l, X[1]? = some (0, l) ∧ l.length = 4 ∧ pw_xr l (-2) (-1)) ∧ (∃ l, X[2]? = some (0, l) ∧ l.length = 4 ∧ pw_xr l (-2) 11) ∧ (∃ l, X[3]? = some (0, l) ∧ l.length = 10 ∧ pw_xr l 0 4) ∧
  ∀ p : Nat, 4 ≤ p → p < 12 → ∃ l, X[p]? = some (4, l) ∧ l.length ≤ 60 ∧ pw_ints l
theorem pw_at_ne {h : pm_H} {c k c' k' : Nat} {v : Value} (hn : ¬ (c = c' ∧ k = k')) : pw_at (pw_w h c k v) c' k' = pw_at h c' k' := by
  cases hs : (pw_at h c k).isSome with
  | true => rw [pw_at_w hs, if_neg hn]
  | false =>
    have e : pw_at (pw_w h c k v) c' k' = pw_at h c' k' := by
      unfold pw_w
      cases hc : h[c]? with
      | none => rfl
      | some q =>
        have hlt := (List.getElem?_eq_some_iff.mp hc).1
        unfold pw_at at hs ⊢
        rw [hc] at hs
        match q, hc, hs with
        | .inl (t, l), hc, hs =>
          have hs : (l[k]?).isSome = false := hs
          have hk : l.length ≤ k := by
            cases hz : l[k]? with
            | none => exact List.getElem?_eq_none_iff.mp hz
            | some x => rw [hz] at hs; cases hs
          show (match (h.set c (.inl (t, l.set k v)))[c']? with
            | some (.inl q) => q.2[k']?
            | some (.inr q) => q.2[k']?
            | none => none) = _
          rw [List.set_eq_of_length_le hk]
          by_cases hcc : c = c'
          · subst hcc
            rw [List.getElem?_set_self hlt, hc]
          · rw [List.getElem?_set_ne hcc]
            cases h[c']? with
            | none => rfl
            | some q => cases q <;> rfl
        | .inr (t, l), hc, hs =>
          have hs : (l[k]?).isSome = false := hs
          have hk : l.length ≤ k := by
            cases hz : l[k]? with
            | none => exact List.getElem?_eq_none_iff.mp hz
            | some x => rw [hz] at hs; cases hs
          show (match (h.set c (.inr (t, l.set k v)))[c']? with
            | some (.inl q) => q.2[k']?
            | some (.inr q) => q.2[k']?
            | none => none) = _
          rw [List.set_eq_of_length_le hk]
          by_cases hcc : c = c'
          · subst hcc
            rw [List.getElem?_set_self hlt, hc]
          · rw [List.getElem?_set_ne hcc]
            cases h[c']? with
            | none => rfl
            | some q => cases q <;> rfl
    exact e
theorem pw_g_ne {h : pm_H} {c k c' k' : Nat} {v : Value} (hn : ¬ (c = c' ∧ k = k')) : pw_g (pw_w h c k v) c' k' = pw_g h c' k' := by
  unfold pw_g
  rw [pw_at_ne hn]
theorem pw_g_eq {h : pm_H} {c ci k : Nat} {sps : List pw_F} {sp : pw_F} {b : Int} (I : pw_I h) (hs : pw_T[c]? = some (.inr (ci, sps))) (hk : sps[k]? = some sp) (h1 : -2147483648 ≤ b) (h2 : b ≤ 2147483647) : pw_g (pw_w h c k (pw_i b)) c k = b := by
  obtain ⟨fs, v, e1, e2, e3, -⟩ := pw_fld I hs hk
  unfold pw_g
  rw [pw_at_w (by rw [e3]; rfl), if_pos ⟨rfl, rfl⟩, pw_iv_i h1 h2]
theorem pw_Eg {h h' : pm_H} {c : Nat} {W : List Nat} {s : pw_S} (I : pw_I h) (E : pw_E W h h') (hs : pw_T[c]? = some s) (hn : W.contains c = false) (k : Nat) : pw_g h' c k = pw_g h c k := by
  obtain ⟨q, e1, -⟩ := I.1 c s hs
  unfold pw_g
  rw [E.at (List.getElem?_eq_some_iff.mp e1).1 hn]
theorem pw_sh1 : ∀ n : Nat, n < 15 → Int32.ofInt 1 <<< (Int32.ofInt (n : Int) &&& 31) = Int32.ofInt (2 ^ n : Nat) := by decide
section Pt
variable {X : List (Nat × List Value)} {d : Nat} {h : pm_H} {m pc pc' len na nl own rt : Nat} {C : pm_T (Instr × Nat)} {ls ls' : pm_L} {st st' r : List Value} {Q : pm_H → (Option Value ⊕ Unit) → Prop} {i : Instr}
theorem pw_shl1 {b : Int} {n : Nat} (he : pm_ent m = some (na, nl, own, rt, C)) (hq : pm_get C pc = some (.ishl, len)) (hc : pc + len = pc') (h1 : 0 ≤ b) (h2 : b ≤ n) (hn : n < 15) (H : ∀ c : Int, 1 ≤ c → c ≤ (2 ^ n : Nat) → pw X d h m pc' ls (pw_i c :: r) Q) : pw X d h m pc ls (pw_i b :: pw_i 1 :: r) Q := by
  subst hc
  obtain ⟨k, rfl⟩ := Int.eq_ofNat_of_zero_le h1
  have hk : k < 15 := by omega
  have hkn : k ≤ n := by omega
  have hp : (2 : Nat) ^ k ≤ 2 ^ n := Nat.pow_le_pow_right (by decide) hkn
  have hp1 : 1 ≤ (2 : Nat) ^ k := Nat.one_le_two_pow
  refine pw_ld he hq (st' := pw_i (2 ^ k : Nat) :: r) (pc' := pc + len) (fun ih => ?_) (H _ (by omega) (by omega))
  have e := pw_sh1 k hk
  show pm_fn (pc + len) (fun q => ih d h m q ls (.int (Int32.ofInt 1 <<< (Int32.ofInt (k : Int) &&& 31)) :: r)) = _
  rw [e, pm_fn_eq]
  rfl
/-- a table that is there at the start -/
theorem pw_xald {a n : Nat} {l : List Value} {lo hi j : Int} (he : pm_ent m = some (na, nl, own, rt, C)) (hq : pm_get C pc = some (.iaload, len)) (hX : X[a]? = some (0, l)) (ha : a < 16) (hn : l.length = n) (hr : pw_xr l lo hi) (hn2 : n ≤ 1000) (h0 : 0 ≤ j) (h1 : j < n) (hc : pc + len = pc') (H : ∀ x : Int, lo ≤ x → x ≤ hi → pw X d h m pc' ls (pw_i x :: r) Q) : pw X d h m pc ls (pw_i j :: .ref a :: r) Q := by
  subst hc
  have hlt : j.toNat < l.length := by omega
  obtain ⟨y, hy, y1, y2⟩ := hr j.toNat _ (List.getElem?_eq_getElem hlt)
  refine pw_ld he hq (st' := pw_i y :: r) (pc' := pc + len) (fun ih => ?_) (H y y1 y2)
  show pm_gAld X 0 0 ih d h m own pc len ls (pw_i j :: .ref a :: r) = _
  have hrow : pm_row X h a = some (0, l) := by
    unfold pm_row
    rw [show Nat.blt a 16 = true from Nat.ble_eq_true_of_le ha, cond_true, pm_nth_eq, hX]
    rfl
  unfold pm_gAld pw_i
  dsimp only
  rw [hrow]
  show cond (Nat.beq 0 0 || Nat.beq 0 0) (cond (decide (Int32.ofInt j < 0)) none (match pm_nth l (Int32.ofInt j).toNatClampNeg with
        | some (.int x) => pm_fn (pc + len) fun q => ih d h m q ls (.int x :: r)
        | _ => none)) none = _
  rw [decide_eq_false (pw_neg h0 (by omega)), pw_clamp h0 (by omega), pm_nth_eq, List.getElem?_eq_getElem hlt, hy]
  show pm_fn (pc + len) (fun q => ih d h m q ls (.int (Int32.ofInt y) :: r)) = _
  rw [pm_fn_eq]
theorem pw_xlen {a n : Nat} {l : List Value} (he : pm_ent m = some (na, nl, own, rt, C)) (hq : pm_get C pc = some (.arraylength, len)) (hX : X[a]? = some (0, l)) (ha : a < 16) (hn : l.length = n) (hc : pc + len = pc') (H : pw X d h m pc' ls (pw_i (n : Int) :: r) Q) : pw X d h m pc ls (.ref a :: r) Q := by
  subst hn
  refine pw_alen he hq (t := 0) (l := l) ?_ rfl hc H
  unfold pm_row
  rw [show Nat.blt a 16 = true from Nat.ble_eq_true_of_le ha, cond_true, pm_nth_eq, hX]
  rfl
theorem pw_str0 {ix f : Nat} {ih : pm_I} (hl : pm_get (pm_lnk own) ix = some (15, f, 0, 0)) : pm_dsp X (.invokevirtual ix) ih d h m own pc len ls st = pm_str X f (fun h' st' => cond (pm_cat8 st') (pm_fn (pc + 3) fun q => ih d h' m q ls st') none) h st := by
  show pm_gInv X 1 ix ih d h m own pc len ls st = _
  unfold pm_gInv
  rw [hl]
  rfl
theorem pw_sxk {p : Nat} (hX : pw_Xk X) (h1 : 4 ≤ p) (h2 : p < 12) : ∃ l, pm_sx X p = some l ∧ l.length ≤ 60 ∧ pw_ints l := by
  obtain ⟨l, e1, e2, e3⟩ := hX.2.2.2 p h1 h2
  refine ⟨l, ?_, e2, e3⟩
  unfold pm_sx
  rw [show (Nat.ble 4 p && Nat.blt p 12) = true by rw [Nat.ble_eq_true_of_le h1, show Nat.blt p 12 = true from Nat.ble_eq_true_of_le h2]; rfl, cond_true, pm_nth_eq, e1]
  rfl
theorem pw_slen {ix p : Nat} {l : List Value} (he : pm_ent m = some (na, nl, own, rt, C)) (hq : pm_get C pc = some (.invokevirtual ix, len)) (hl : pm_get (pm_lnk own) ix = some (15, 7, 0, 0)) (hs : pm_sx X p = some l) (h8 : pm_cat8 (pw_i 0 :: r) = true) (H : pw X d h m (pc + 3) ls (pw_i (l.length : Int) :: r) Q) : pw X d h m pc ls (.ref p :: r) Q := by
  refine pw_ld he hq (fun ih => ?_) H
  refine (pw_str0 (len := len) hl).trans ?_
  show (match pm_sx X p with
    | some l => pm_fn (pm_len l) fun n => cond (pm_cat8 (.int (Int32.ofNat n) :: r)) (pm_fn (pc + 3) fun q => ih d h m q ls (.int (Int32.ofNat n) :: r)) none
    | none => none) = _
  rw [hs]
  show (pm_fn (pm_len l) fun n => cond (pm_cat8 (.int (Int32.ofNat n) :: r)) (pm_fn (pc + 3) fun q => ih d h m q ls (.int (Int32.ofNat n) :: r)) none) = _
  rw [pm_fn_eq, pm_len_eq]
  have h8' : pm_cat8 (.int (Int32.ofNat l.length) :: r) = true := h8
  rw [h8', cond_true, pm_fn_eq]
  rfl
theorem pw_and255 (x : Int32) : ∃ b : Int, 0 ≤ b ∧ b ≤ 255 ∧ Value.int (x &&& 255) = pw_i b := by
  obtain ⟨j, hj, e⟩ := pk_andE x (m := 255) 8 rfl
  refine ⟨j, by omega, by omega, ?_⟩
  rw [e]
  rfl
theorem pw_schr {ix p : Nat} {l : List Value} {j : Int} (he : pm_ent m = some (na, nl, own, rt, C)) (hq : pm_get C pc = some (.invokevirtual ix, len)) (hl : pm_get (pm_lnk own) ix = some (15, 8, 0, 0)) (hs : pm_sx X p = some l) (hi : pw_ints l) (hn : l.length ≤ 60) (h0 : 0 ≤ j) (h1 : j < l.length) (h8 : pm_cat8 (pw_i 0 :: r) = true) (H : ∀ x : Int, 0 ≤ x → x ≤ 255 → pw X d h m (pc + 3) ls (pw_i x :: r) Q) : pw X d h m pc ls (pw_i j :: .ref p :: r) Q := by
  have hlt : j.toNat < l.length := by omega
  obtain ⟨y, hy⟩ := hi j.toNat _ (List.getElem?_eq_getElem hlt)
  obtain ⟨b, b1, b2, b3⟩ := pw_and255 y
  refine pw_ld he hq (st' := .int (y &&& 255) :: r) (pc' := pc + 3) (fun ih => ?_) (by rw [b3]; exact H b b1 b2)
  refine (pw_str0 (len := len) hl).trans ?_
  show (match pm_sx X p with
    | some l => cond (decide (Int32.ofInt j < 0)) none (match pm_nth l (Int32.ofInt j).toNatClampNeg with
      | some (.int x) => cond (pm_cat8 (.int (x &&& 255) :: r)) (pm_fn (pc + 3) fun q => ih d h m q ls (.int (x &&& 255) :: r)) none
      | _ => none)
    | none => none) = _
  rw [hs]
  show cond (decide (Int32.ofInt j < 0)) none (match pm_nth l (Int32.ofInt j).toNatClampNeg with
      | some (.int x) => cond (pm_cat8 (.int (x &&& 255) :: r)) (pm_fn (pc + 3) fun q => ih d h m q ls (.int (x &&& 255) :: r)) none
      | _ => none) = _
  rw [decide_eq_false (pw_neg h0 (by omega)), cond_false, pw_clamp h0 (by omega), pm_nth_eq, List.getElem?_eq_getElem hlt, hy]
  show cond (pm_cat8 (.int (y &&& 255) :: r)) (pm_fn (pc + 3) fun q => ih d h m q ls (.int (y &&& 255) :: r)) none = _
  have h8' : pm_cat8 (.int (y &&& 255) :: r) = true := h8
  rw [h8', cond_true, pm_fn_eq]
theorem pw_sidx {ix p : Nat} {l : List Value} {z : Int} (he : pm_ent m = some (na, nl, own, rt, C)) (hq : pm_get C pc = some (.invokevirtual ix, len)) (hl : pm_get (pm_lnk own) ix = some (15, 9, 0, 0)) (hs : pm_sx X p = some l) (h8 : pm_cat8 (pw_i 0 :: r) = true) (H : ∀ x : Int, -2147483648 ≤ x → x ≤ 2147483647 → pw X d h m (pc + 3) ls (pw_i x :: r) Q) : pw X d h m pc ls (pw_i z :: .ref p :: r) Q := by
  refine pw_ld he hq (fun ih => ?_) (pw_nmx (x := if Int32.ofInt z < 0 ∨ (255 : Int32) < Int32.ofInt z then -1 else pm_ixF (Int32.ofInt z).toInt8.toInt32 l 0) H)
  refine (pw_str0 (len := len) hl).trans ?_
  show (match pm_sx X p with
    | some l => cond (pm_cat8 (.int (if Int32.ofInt z < 0 ∨ (255 : Int32) < Int32.ofInt z then -1 else pm_ixF (Int32.ofInt z).toInt8.toInt32 l 0) :: r)) (pm_fn (pc + 3) fun q => ih d h m q ls (.int (if Int32.ofInt z < 0 ∨ (255 : Int32) < Int32.ofInt z then -1 else pm_ixF (Int32.ofInt z).toInt8.toInt32 l 0) :: r)) none
    | none => none) = _
  rw [hs]
  show cond (pm_cat8 (.int (if Int32.ofInt z < 0 ∨ (255 : Int32) < Int32.ofInt z then -1 else pm_ixF (Int32.ofInt z).toInt8.toInt32 l 0) :: r)) (pm_fn (pc + 3) fun q => ih d h m q ls (.int (if Int32.ofInt z < 0 ∨ (255 : Int32) < Int32.ofInt z then -1 else pm_ixF (Int32.ofInt z).toInt8.toInt32 l 0) :: r)) none = _
  have h8' : pm_cat8 (.int (if Int32.ofInt z < 0 ∨ (255 : Int32) < Int32.ofInt z then -1 else pm_ixF (Int32.ofInt z).toInt8.toInt32 l 0) :: r) = true := h8
  rw [h8', cond_true, pm_fn_eq]
end Pt
