/-! behind a caught exception: the heap has a cell that the picture lacks; the places to come get other addresses -/
def pm_sw (ad : Nat → Nat) (n z : Nat) : Nat → Nat := fun a => if a < n then ad a else z + (a - n)
theorem pm_sw_lt {ad : Nat → Nat} {n z a : Nat} (h : a < n) : pm_sw ad n z a = ad a := if_pos h
theorem pm_sw_ge (ad : Nat → Nat) (n z j : Nat) : pm_sw ad n z (n + j) = z + j := by
  unfold pm_sw
  rw [if_neg (by omega)]
  omega
theorem pm_rv_sw {ad ad' : Nat → Nat} {n : Nat} (hs : ∀ a, a < n → ad' a = ad a) {v : Value} (h : pm_scv n v = true) : pm_rv ad' v = pm_rv ad v := by
  cases v with
  | ref a =>
    have h : Nat.blt a n = true := h
    show Value.ref (ad' a) = .ref (ad a)
    rw [hs a (pm_blt h)]
  | int x => rfl
  | long x => rfl
  | float x => rfl
  | double x => rfl
  | null => rfl
  | retAddr x => rfl
theorem pm_rvs_sw {ad ad' : Nat → Nat} {n : Nat} (hs : ∀ a, a < n → ad' a = ad a) {vs : List Value} (h : pm_all (pm_scv n) vs = true) : vs.map (pm_rv ad') = vs.map (pm_rv ad) := by
  rw [pm_all_eq, List.all_eq_true] at h
  exact List.map_congr_left fun v hv => pm_rv_sw hs (h v hv)
theorem pm_qv_sw {ad ad' : Nat → Nat} {n : Nat} (hs : ∀ a, a < n → ad' a = ad a) {v : Value} (h : pm_scv n v = true) : pm_qv ad' v = pm_qv ad v := by
  cases v with
  | ref a =>
    have h : Nat.blt a n = true := h
    show some (ad' a) = some (ad a)
    rw [hs a (pm_blt h)]
  | int x => rfl
  | long x => rfl
  | float x => rfl
  | double x => rfl
  | null => rfl
  | retAddr x => rfl
theorem pm_re_sw {ad ad' : Nat → Nat} {cA : Nat → ClassId} {n : Nat} (hs : ∀ a, a < n → ad' a = ad a) {c : pm_C} (h : pm_scc n c = true) : pm_re ad' cA c = pm_re ad cA c := by
  cases c with
  | inl q =>
    obtain ⟨t, l⟩ := q
    show Sum.inl (cA t, l.length, pm_ct ad' t l) = Sum.inl (cA t, l.length, pm_ct ad t l)
    have h : cond (Nat.blt t 5) true (pm_all (pm_scv n) l) = true := h
    cases ht : Nat.blt t 5 with
    | true =>
      have ht := pm_blt ht
      by_cases h3 : t = 3
      · subst h3
        rw [pm_ct3, pm_ct3]
      · rw [pm_ctI _ _ h3 ht, pm_ctI _ _ h3 ht]
    | false =>
      rw [ht, cond_false, pm_all_eq, List.all_eq_true] at h
      have h5 : 5 ≤ t := by
        cases Nat.lt_or_ge t 5 with
        | inl g => rw [show Nat.blt t 5 = true from Nat.ble_eq_true_of_le g] at ht; cases ht
        | inr g => exact g
      rw [pm_ctQ _ _ h5, pm_ctQ _ _ h5]
      have e : (fun j => pm_qv ad' (l.getD j .null)) = fun j => pm_qv ad (l.getD j .null) := by
        funext j
        rw [List.getD_eq_getElem?_getD]
        cases hj : l[j]? with
        | none => rfl
        | some v => exact pm_qv_sw hs (h v (List.mem_of_getElem? hj))
      rw [e]
  | inr q =>
    obtain ⟨ci, fs⟩ := q
    show Sum.inr (ci, fs.map (pm_rv ad')) = Sum.inr (ci, fs.map (pm_rv ad))
    rw [pm_rvs_sw hs h]
theorem pm_ws_sw {ad ad' : Nat → Nat} {cA : Nat → ClassId} {h : pm_H} (hs : ∀ a, a < 16 + h.length → ad' a = ad a) (hsc : pm_scH h = true) : pm_ws ad' cA h = pm_ws ad cA h := by
  unfold pm_scH at hsc
  rw [pm_all_eq, List.all_eq_true, pm_len_eq] at hsc
  apply List.ext_getElem?
  intro k
  rw [pm_ws_get, pm_ws_get]
  cases hk : h[k]? with
  | none => rfl
  | some c =>
    show some (ad' (16 + k), pm_re ad' cA c) = some (ad (16 + k), pm_re ad cA c)
    rw [hs (16 + k) (by have := (List.getElem?_eq_some_iff.mp hk).1; omega), pm_re_sw hs (hsc c (List.mem_of_getElem? hk))]
theorem pm_rel.grown {D : va_G} {cA : Nat → ClassId} {A : Nat → Prop} {ad : Nat → Nat} {h : pm_H} {H H1 : Heap} (hrel : pm_rel D cA A ad h H) (hsc : pm_scH h = true) (hq : ∀ q : Nat, q < H.size → H1[q]? = H[q]?) : pm_rel D cA A (pm_sw ad (16 + h.length) H1.size) h H1 := by
  obtain ⟨h1, h2, h3⟩ := hrel
  have e := pm_ws_sw (cA := cA) (ad := ad) (ad' := pm_sw ad (16 + h.length) H1.size) (fun a ha => pm_sw_lt ha) hsc
  refine ⟨?_, by rw [e]; exact h2, fun j => pm_sw_ge _ _ _ _⟩
  rw [e]
  exact h1.kept fun k q hk => hq _ (vx_lt h1 hk)
theorem pm_strs_lt : pm_strs.all (fun q => Nat.blt q.2.2.2 16) = true := by decide +kernel
theorem pm_Cx.sw {D : va_G} {cA : Nat → ClassId} {A : Nat → Prop} {ad ad' : Nat → Nat} {X : List (Nat × List Value)} {U : State} (h : pm_Cx D cA A ad X U) (hs : ∀ a, a < 16 → ad' a = ad a) : pm_Cx D cA A ad' X U := by
  obtain ⟨h1, h2, h3, h4, h5, h6, h7, h8, h9⟩ := h
  refine ⟨h1, h2, h3, fun a l ha hl => ?_, fun a ha hb => ?_, fun q hq => ?_, h7, h8, h9.1, fun a l g1 g2 g3 => by rw [hs a (by omega)]; exact h9.2 a l g1 g2 g3⟩
  · have := h4 a l ha hl
    unfold pm_ex at this ⊢
    rw [hs a ha]
    exact this
  · rw [hs a (by omega)]
    exact h5 a ha hb
  · rw [hs _ (pm_blt (List.all_eq_true.mp pm_strs_lt q hq))]
    exact h6 q hq
