/-! writes: what holds of the heap stays -/
theorem pw_scH_set {h : pm_H} {c : Nat} {q : pm_C} (h1 : pm_scH h = true) (h2 : pm_scc (16 + h.length) q = true) : pm_scH (h.set c q) = true := by
  unfold pm_scH at h1 ⊢
  rw [pm_all_eq, List.all_eq_true, pm_len_eq] at h1
  rw [pm_all_eq, List.all_eq_true, pm_len_eq, List.length_set]
  intro x hx
  rcases List.mem_or_eq_of_mem_set hx with g | g
  · exact h1 x g
  · rw [g]; exact h2
def pw_sh (q q' : pm_C) : Prop := ∀ (t : Nat) (l : List Value), q = .inl (t, l) → ∃ l', q' = .inl (t, l') ∧ l'.length = l.length ∧ (t = 0 → pw_ints l')
theorem pw_vk_set {h : pm_H} {c : Nat} {q q' : pm_C} (hc : h[c]? = some q) (hs : pw_sh q q') {sp : pw_F} {v : Value} (hv : pw_vk h sp v) : pw_vk (h.set c q') sp v := by
  obtain ⟨k, lo, hi⟩ := sp
  have key : (∃ (c : Nat) (l : List Value), v = .ref (16 + c) ∧ h[c]? = some (.inl (0, l)) ∧ l.length ≤ 1000 ∧ pw_ints l) → ∃ (c2 : Nat) (l : List Value), v = .ref (16 + c2) ∧ (h.set c q')[c2]? = some (.inl (0, l)) ∧ l.length ≤ 1000 ∧ pw_ints l := by
    rintro ⟨c2, l, e1, e2, e3⟩
    by_cases hcc : c = c2
    · subst hcc
      have : q = .inl (0, l) := Option.some.inj (hc.symm.trans e2)
      obtain ⟨l', g1, g2, g3⟩ := hs 0 l this
      exact ⟨c, l', e1, by rw [List.getElem?_set_self (List.getElem?_eq_some_iff.mp hc).1, g1], by omega, g3 rfl⟩
    · exact ⟨c2, l, e1, by rw [List.getElem?_set_ne hcc]; exact e2, e3⟩
  match k, hv with
  | 0, hv => exact hv
  | 1, hv => exact hv
  | 2, hv => exact hv
  | 4, hv => exact hv
  | 3, hv => exact key hv
  | k + 5, hv => exact key hv
theorem pw_ok_set {h : pm_H} {c : Nat} {q q' : pm_C} (hc : h[c]? = some q) (hs : pw_sh q q') {s : pw_S} {x : pm_C} (hv : pw_ok h s x) : pw_ok (h.set c q') s x := by
  match s, x, hv with
  | .inl _, .inl _, hv => exact hv
  | .inr (ci, sps), .inr (cj, fs), hv => exact ⟨hv.1, hv.2.1, fun k sp v g1 g2 => pw_vk_set hc hs (hv.2.2 k sp v g1 g2)⟩
theorem pw_I.set {h : pm_H} {c : Nat} {q q' : pm_C} (I : pw_I h) (hc : h[c]? = some q) (hs : pw_sh q q') (hok : ∀ s, pw_T[c]? = some s → pw_ok h s q') (hsc : pm_scc (16 + h.length) q' = true) : pw_I (h.set c q') := by
  refine ⟨fun c' s hT => ?_, pw_scH_set I.2 hsc⟩
  by_cases hcc : c = c'
  · subst hcc
    exact ⟨q', List.getElem?_set_self (List.getElem?_eq_some_iff.mp hc).1, pw_ok_set hc hs (hok s hT)⟩
  · obtain ⟨x, g1, g2⟩ := I.1 c' s hT
    exact ⟨x, by rw [List.getElem?_set_ne hcc]; exact g1, pw_ok_set hc hs g2⟩
theorem pw_E_set {h : pm_H} {c : Nat} {q0 q : pm_C} (hk : h[c]? = some q0) (hz : pm_sz q = pm_sz q0) (hp : ∀ k : Nat, pw_pf k → pw_at (h.set c q) 125 k = pw_at h 125 k) : pw_E [c] h (h.set c q) := by
  refine ⟨⟨List.length_set, pm_slt_set hk hz⟩, fun c' _ hn => ?_, fun k hk _ => hp k hk⟩
  rw [List.getElem?_set_ne]
  intro e
  exact hn (by rw [e]; exact List.mem_singleton.mpr rfl)
theorem pw_at_cell {h : pm_H} {c : Nat} {q : pm_C} (hc : c ≠ 125) (k : Nat) : pw_at (h.set c q) 125 k = pw_at h 125 k := by
  unfold pw_at
  rw [List.getElem?_set_ne hc]
theorem pw_c125 {c t n : Nat} {lo hi : Int} (hs : pw_T[c]? = some (.inl (t, n, lo, hi))) : c ≠ 125 := by
  rintro rfl
  cases hs
theorem pw_at_fld {h : pm_H} {c ci k j : Nat} {fs : List Value} {v : Value} (hc : h[c]? = some (.inr (ci, fs))) (hn : ¬ (c = 125 ∧ j = k)) : pw_at (h.set c (.inr (ci, fs.set j v))) 125 k = pw_at h 125 k := by
  rcases (by omega : c ≠ 125 ∨ c = 125) with e | e
  · exact pw_at_cell e k
  · subst e
    have hj : j ≠ k := fun q => hn ⟨rfl, q⟩
    unfold pw_at
    rw [List.getElem?_set_self (List.getElem?_eq_some_iff.mp hc).1, hc]
    show (fs.set j v)[k]? = fs[k]?
    rw [List.getElem?_set_ne hj]
theorem pw_np_ne {c j k : Nat} (hp : pw_np c j = true) (hk : pw_pf k) : ¬ (c = 125 ∧ j = k) := by
  rintro ⟨rfl, rfl⟩
  rcases hk with rfl | rfl | rfl <;> cases hp
theorem pw_w_arr {h : pm_H} {c t k : Nat} {l : List Value} {v : Value} (hc : h[c]? = some (.inl (t, l))) : pw_w h c k v = h.set c (.inl (t, l.set k v)) := by
  unfold pw_w
  rw [hc]
theorem pw_w_obj {h : pm_H} {c t k : Nat} {l : List Value} {v : Value} (hc : h[c]? = some (.inr (t, l))) : pw_w h c k v = h.set c (.inr (t, l.set k v)) := by
  unfold pw_w
  rw [hc]
theorem pw_some_lt {l : List Value} {k : Nat} (hs : (l[k]?).isSome = true) : k < l.length := by
  cases hz : l[k]? with
  | none => rw [hz] at hs; cases hs
  | some x => exact (List.getElem?_eq_some_iff.mp hz).1
/-- what a write leaves -/
theorem pw_at_w {h : pm_H} {c k : Nat} {v : Value} (hs : (pw_at h c k).isSome = true) (c' k' : Nat) : pw_at (pw_w h c k v) c' k' = if c = c' ∧ k = k' then some v else pw_at h c' k' := by
  unfold pw_at at hs
  cases hc : h[c]? with
  | none => rw [hc] at hs; cases hs
  | some q =>
    rw [hc] at hs
    have hlt := (List.getElem?_eq_some_iff.mp hc).1
    match q, hc, hs with
    | .inl (t, l), hc, hs =>
      rw [pw_w_arr hc]
      unfold pw_at
      by_cases hcc : c = c'
      · subst hcc
        rw [List.getElem?_set_self hlt, hc]
        show (l.set k v)[k']? = if c = c ∧ k = k' then some v else l[k']?
        by_cases hk : k = k'
        · subst hk
          have hs : (l[k]?).isSome = true := hs
          have hk : k < l.length := pw_some_lt hs
          rw [if_pos ⟨rfl, rfl⟩, List.getElem?_set_self hk]
        · rw [if_neg (fun h => hk h.2), List.getElem?_set_ne hk]
      · rw [List.getElem?_set_ne hcc, if_neg (fun h => hcc h.1)]
    | .inr (t, l), hc, hs =>
      rw [pw_w_obj hc]
      unfold pw_at
      by_cases hcc : c = c'
      · subst hcc
        rw [List.getElem?_set_self hlt, hc]
        show (l.set k v)[k']? = if c = c ∧ k = k' then some v else l[k']?
        by_cases hk : k = k'
        · subst hk
          have hs : (l[k]?).isSome = true := hs
          have hk : k < l.length := pw_some_lt hs
          rw [if_pos ⟨rfl, rfl⟩, List.getElem?_set_self hk]
        · rw [if_neg (fun h => hk h.2), List.getElem?_set_ne hk]
      · rw [List.getElem?_set_ne hcc, if_neg (fun h => hcc h.1)]
theorem pw_scc_arr {n t : Nat} {l : List Value} (ht : t < 5) : pm_scc n (.inl (t, l)) = true := by
  show cond (Nat.blt t 5) true (pm_all (pm_scv n) l) = true
  rw [show Nat.blt t 5 = true from Nat.ble_eq_true_of_le ht, cond_true]
theorem pw_Iw {h : pm_H} {c t n k : Nat} {lo hi : Int} {v : Value} (I : pw_I h) (hs : pw_T[c]? = some (.inl (t, n, lo, hi))) (ht : t < 5) (hv : pw_ve t lo hi k v) : pw_I (pw_w h c k v) ∧ pw_E [c] h (pw_w h c k v) := by
  obtain ⟨l, e1, e2, e3⟩ := pw_arr I hs
  rw [pw_w_arr e1]
  have hall : ∀ (j : Nat) (x : Value), (l.set k v)[j]? = some x → pw_ve t lo hi j x := by
    intro j x hx
    by_cases hk : k = j
    · subst hk
      rw [List.getElem?_set_self (by have := (List.getElem?_eq_some_iff.mp hx).1; rw [List.length_set] at this; exact this)] at hx
      cases hx
      exact hv
    · rw [List.getElem?_set_ne hk] at hx
      exact e3 j x hx
  refine ⟨I.set e1 (fun t' l' g => ?_) (fun s g => ?_) (pw_scc_arr ht), pw_E_set e1 List.length_set (fun k _ => pw_at_cell (pw_c125 hs) k)⟩
  · cases g
    refine ⟨_, rfl, List.length_set, ?_⟩
    rintro rfl
    exact fun j x hx => by
      obtain ⟨a, rfl, -⟩ := hall j x hx
      exact ⟨_, rfl⟩
  · cases hs.symm.trans g
    exact ⟨rfl, by rw [List.length_set]; exact e2, hall⟩
theorem pw_scv_fld {h : pm_H} {c ci : Nat} {fs : List Value} (I : pw_I h) (hc : h[c]? = some (.inr (ci, fs))) : ∀ v ∈ fs, pm_scv (16 + h.length) v = true := by
  have h1 := I.2
  unfold pm_scH at h1
  rw [pm_all_eq, List.all_eq_true, pm_len_eq] at h1
  have h2 : pm_all (pm_scv (16 + h.length)) fs = true := h1 _ (List.mem_of_getElem? hc)
  rw [pm_all_eq, List.all_eq_true] at h2
  exact h2
theorem pw_Iwf {h : pm_H} {c ci k : Nat} {sps : List pw_F} {sp : pw_F} {v : Value} (I : pw_I h) (hs : pw_T[c]? = some (.inr (ci, sps))) (hk : sps[k]? = some sp) (hv : pw_vk h sp v) (hr : pm_scv (16 + h.length) v = true) (hp : pw_np c k = true) : pw_I (pw_w h c k v) ∧ pw_E [c] h (pw_w h c k v) := by
  obtain ⟨fs, e1, e2, e3⟩ := pw_obj I hs
  rw [pw_w_obj e1]
  refine ⟨I.set e1 (fun t' l' g => by cases g) (fun s g => ?_) ?_, pw_E_set e1 List.length_set (fun j hj => pw_at_fld e1 (pw_np_ne hp hj))⟩
  · cases hs.symm.trans g
    refine ⟨rfl, by rw [List.length_set]; exact e2, fun j sp' x h1 hx => ?_⟩
    by_cases hkj : k = j
    · subst hkj
      rw [List.getElem?_set_self (by have := (List.getElem?_eq_some_iff.mp hx).1; rw [List.length_set] at this; exact this)] at hx
      cases hx
      cases hk.symm.trans h1
      exact hv
    · rw [List.getElem?_set_ne hkj] at hx
      exact e3 j sp' x h1 hx
  · show pm_all (pm_scv (16 + h.length)) (fs.set k v) = true
    rw [pm_all_eq, List.all_eq_true]
    intro x hx
    rcases List.mem_or_eq_of_mem_set hx with g | g
    · exact pw_scv_fld I e1 x g
    · rw [g]; exact hr
section Pv
variable {X : List (Nat × List Value)} {d : Nat} {h : pm_H} {m pc pc' len na nl own rt : Nat} {C : pm_T (Instr × Nat)} {ls ls' : pm_L} {st st' r : List Value} {Q : pm_H → (Option Value ⊕ Unit) → Prop} {i : Instr}
theorem pw_ast0 {c t n a : Nat} {f : Int32 → Int32} {lo hi j b : Int} (I : pw_I h) (he : pm_ent m = some (na, nl, own, rt, C)) (hq : pm_get C pc = some (i, len)) (hdi : pm_dsp X i = pm_gIst t f) (hs : pw_T[c]? = some (.inl (t, n, lo, hi))) (ht : t < 3) (ha : 16 + c = a) (hn : n ≤ 2147483647) (h0 : 0 ≤ j) (h1 : j < n) (hf : f (Int32.ofInt b) = Int32.ofInt b) (hb1 : lo ≤ b) (hb2 : b ≤ hi) (hb3 : -2147483648 ≤ b) (hb4 : b ≤ 2147483647) (hc : pc + len = pc')
    (H : pw_I (pw_w h c j.toNat (pw_i b)) → pw_E [c] h (pw_w h c j.toNat (pw_i b)) → pw X d (pw_w h c j.toNat (pw_i b)) m pc' ls r Q) : pw X d h m pc ls (pw_i b :: pw_i j :: .ref a :: r) Q := by
  subst hc
  obtain ⟨l, e1, e2, e3⟩ := pw_arr I hs
  have hve : pw_ve t lo hi j.toNat (pw_i b) := by
    match t, ht with
    | 0, _ => exact ⟨b, rfl, hb1, hb2, hb3, hb4⟩
    | 1, _ => exact ⟨b, rfl, hb1, hb2, hb3, hb4⟩
    | 2, _ => exact ⟨b, rfl, hb1, hb2, hb3, hb4⟩
  obtain ⟨I2, E2⟩ := pw_Iw I hs (by omega) hve
  refine pw_go he hq (h' := pw_w h c j.toNat (pw_i b)) (pc' := pc + len) (ls' := ls) (st' := r) (fun ih => ?_) (H I2 E2)
  rw [hdi, pw_w_arr e1]
  unfold pm_gIst pw_i
  dsimp only
  rw [pw_cellI e1 ha]
  show cond (Nat.beq t t) (cond (pm_in (Int32.ofInt j) (pm_len l)) (pm_fi (f (Int32.ofInt b)) fun y => pm_fn (pc + len) fun q => ih d (pm_set h (a - 16) (.inl (t, pm_set l (Int32.ofInt j).toNatClampNeg (.int y)))) m q ls r) none) none = _
  have hin : pm_in (Int32.ofInt j) (pm_len l) = true := by
    unfold pm_in
    rw [decide_eq_false (pw_neg h0 (by omega)), cond_false, pw_clamp h0 (by omega), pm_len_eq]
    exact Nat.ble_eq_true_of_le (by omega)
  have ea : a - 16 = c := by omega
  rw [Nat.beq_refl, cond_true, hin, cond_true, pm_fi_eq, pm_fn_eq, hf, pw_clamp h0 (by omega), ea, pm_set_eq, pm_set_eq]
theorem pw_last {c n a : Nat} {lo hi j : Int} {w : Int64} (I : pw_I h) (he : pm_ent m = some (na, nl, own, rt, C)) (hq : pm_get C pc = some (.lastore, len)) (hs : pw_T[c]? = some (.inl (3, n, lo, hi))) (ha : 16 + c = a) (hn : n ≤ 2147483647) (h0 : 0 ≤ j) (h1 : j < n) (hc : pc + len = pc')
    (H : pw_I (pw_w h c j.toNat (.long w)) → pw_E [c] h (pw_w h c j.toNat (.long w)) → pw X d (pw_w h c j.toNat (.long w)) m pc' ls r Q) : pw X d h m pc ls (.long w :: pw_i j :: .ref a :: r) Q := by
  subst hc
  obtain ⟨l, e1, e2, e3⟩ := pw_arr I hs
  obtain ⟨I2, E2⟩ := pw_Iw (k := j.toNat) (v := .long w) I hs (by omega) ⟨w, rfl⟩
  refine pw_go he hq (h' := pw_w h c j.toNat (.long w)) (pc' := pc + len) (ls' := ls) (st' := r) (fun ih => ?_) (H I2 E2)
  rw [pw_w_arr e1]
  show pm_gLst ih d h m own pc len ls (.long w :: pw_i j :: .ref a :: r) = _
  unfold pm_gLst pw_i
  dsimp only
  rw [pw_cellI e1 ha]
  show cond (Nat.beq 3 3) (cond (pm_in (Int32.ofInt j) (pm_len l)) (pm_fl w fun y => pm_fn (pc + len) fun q => ih d (pm_set h (a - 16) (.inl (3, pm_set l (Int32.ofInt j).toNatClampNeg (.long y)))) m q ls r) none) none = _
  have hin : pm_in (Int32.ofInt j) (pm_len l) = true := by
    unfold pm_in
    rw [decide_eq_false (pw_neg h0 (by omega)), cond_false, pw_clamp h0 (by omega), pm_len_eq]
    exact Nat.ble_eq_true_of_le (by omega)
  have ea : a - 16 = c := by omega
  rw [Nat.beq_refl, cond_true, hin, cond_true, pm_fl_eq, pm_fn_eq, pw_clamp h0 (by omega), ea, pm_set_eq, pm_set_eq]
theorem pw_put0 {ix c ci k t a : Nat} {sps : List pw_F} {sp : pw_F} {v : Value} (I : pw_I h) (he : pm_ent m = some (na, nl, own, rt, C)) (hq : pm_get C pc = some (.putfield ix, len)) (hl : pm_get (pm_lnk own) ix = some (0, ci, k, t)) (hs : pw_T[c]? = some (.inr (ci, sps))) (hk : sps[k]? = some sp) (hv : pw_vk h sp v) (hr : pm_scv (16 + h.length) v = true) (hfit : pm_fit t v = true) (ha : 16 + c = a) (hc : pc + len = pc')
    (H : pw_I (pw_w h c k v) → pw_E [c] h (pw_w h c k v) → pw X d (pw_w h c k v) m pc' ls r Q) (hp : pw_np c k = true := by rfl) : pw X d h m pc ls (v :: .ref a :: r) Q := by
  subst hc
  obtain ⟨fs, e1, e2, e3⟩ := pw_obj I hs
  obtain ⟨I2, E2⟩ := pw_Iwf I hs hk hv hr hp
  refine pw_go he hq (h' := pw_w h c k v) (pc' := pc + len) (ls' := ls) (st' := r) (fun ih => ?_) (H I2 E2)
  rw [pw_w_obj e1]
  show pm_gPut ix ih d h m own pc len ls (v :: .ref a :: r) = _
  unfold pm_gPut
  dsimp only
  rw [hl, pw_cellI e1 ha]
  show cond (Nat.beq ci ci) (cond (Nat.blt k (pm_len fs)) (cond (pm_fit t v) (pm_fv v fun v => pm_fn (pc + len) fun q => ih d (pm_set h (a - 16) (.inr (ci, pm_set fs k v))) m q ls r) none) none) none = _
  have hkl : Nat.blt k (pm_len fs) = true := by
    rw [pm_len_eq]
    have := (List.getElem?_eq_some_iff.mp hk).1
    exact Nat.ble_eq_true_of_le (by omega)
  have ea : a - 16 = c := by omega
  rw [Nat.beq_refl, cond_true, hkl, cond_true, hfit, cond_true, pm_fv_eq, pm_fn_eq, ea, pm_set_eq, pm_set_eq]
theorem pw_putI {ix c ci k a : Nat} {sps : List pw_F} {lo hi b : Int} (I : pw_I h) (he : pm_ent m = some (na, nl, own, rt, C)) (hq : pm_get C pc = some (.putfield ix, len)) (hl : pm_get (pm_lnk own) ix = some (0, ci, k, 0)) (hs : pw_T[c]? = some (.inr (ci, sps))) (hk : sps[k]? = some (0, lo, hi)) (h1 : lo ≤ b) (h2 : b ≤ hi) (h3 : -2147483648 ≤ b) (h4 : b ≤ 2147483647) (ha : 16 + c = a) (hc : pc + len = pc')
    (H : pw_I (pw_w h c k (pw_i b)) → pw_E [c] h (pw_w h c k (pw_i b)) → pw X d (pw_w h c k (pw_i b)) m pc' ls r Q) (hp : pw_np c k = true := by rfl) : pw X d h m pc ls (pw_i b :: .ref a :: r) Q := pw_put0 I he hq hl hs hk ⟨b, rfl, h1, h2, h3, h4⟩ rfl rfl ha hc H hp
theorem pw_putZ {ix c ci k a : Nat} {sps : List pw_F} {lo hi b : Int} (I : pw_I h) (he : pm_ent m = some (na, nl, own, rt, C)) (hq : pm_get C pc = some (.putfield ix, len)) (hl : pm_get (pm_lnk own) ix = some (0, ci, k, 1)) (hs : pw_T[c]? = some (.inr (ci, sps))) (hk : sps[k]? = some (0, lo, hi)) (h1 : lo ≤ b) (h2 : b ≤ hi) (h3 : b = 0 ∨ b = 1) (ha : 16 + c = a) (hc : pc + len = pc')
    (H : pw_I (pw_w h c k (pw_i b)) → pw_E [c] h (pw_w h c k (pw_i b)) → pw X d (pw_w h c k (pw_i b)) m pc' ls r Q) (hp : pw_np c k = true := by rfl) : pw X d h m pc ls (pw_i b :: .ref a :: r) Q := pw_put0 I he hq hl hs hk ⟨b, rfl, h1, h2, by omega, by omega⟩ rfl (by rcases h3 with rfl | rfl <;> rfl) ha hc H hp
theorem pw_putL {ix c ci k a : Nat} {sps : List pw_F} {lo hi : Int} {w : Int64} (I : pw_I h) (he : pm_ent m = some (na, nl, own, rt, C)) (hq : pm_get C pc = some (.putfield ix, len)) (hl : pm_get (pm_lnk own) ix = some (0, ci, k, 2)) (hs : pw_T[c]? = some (.inr (ci, sps))) (hk : sps[k]? = some (1, lo, hi)) (ha : 16 + c = a) (hc : pc + len = pc')
    (H : pw_I (pw_w h c k (.long w)) → pw_E [c] h (pw_w h c k (.long w)) → pw X d (pw_w h c k (.long w)) m pc' ls r Q) (hp : pw_np c k = true := by rfl) : pw X d h m pc ls (.long w :: .ref a :: r) Q := pw_put0 I he hq hl hs hk ⟨w, rfl⟩ rfl rfl ha hc H hp
theorem pw_Iwp {h : pm_H} {ci k : Nat} {sps : List pw_F} {sp : pw_F} {v : Value} (I : pw_I h) (hs : pw_T[125]? = some (.inr (ci, sps))) (hk : sps[k]? = some sp) (hv : pw_vk h sp v) (hr : pm_scv (16 + h.length) v = true) : pw_I (pw_w h 125 k v) ∧ pw_E [125, 1000 + k] h (pw_w h 125 k v) := by
  obtain ⟨fs, e1, e2, e3⟩ := pw_obj I hs
  rw [pw_w_obj e1]
  refine ⟨I.set e1 (fun t' l' g => by cases g) (fun s g => ?_) ?_, ⟨⟨List.length_set, pm_slt_set e1 List.length_set⟩, fun c' _ hn => ?_, fun j hj hn => ?_⟩⟩
  · cases hs.symm.trans g
    refine ⟨rfl, by rw [List.length_set]; exact e2, fun j sp' x h1 hx => ?_⟩
    by_cases hkj : k = j
    · subst hkj
      rw [List.getElem?_set_self (by have := (List.getElem?_eq_some_iff.mp hx).1; rw [List.length_set] at this; exact this)] at hx
      cases hx
      cases hk.symm.trans h1
      exact hv
    · rw [List.getElem?_set_ne hkj] at hx
      exact e3 j sp' x h1 hx
  · show pm_all (pm_scv (16 + h.length)) (fs.set k v) = true
    rw [pm_all_eq, List.all_eq_true]
    intro x hx
    rcases List.mem_or_eq_of_mem_set hx with g | g
    · exact pw_scv_fld I e1 x g
    · rw [g]; exact hr
  · rw [List.getElem?_set_ne]
    intro e
    exact hn (by rw [e]; exact List.mem_cons_self)
  · refine pw_at_fld e1 (fun q => hn ?_)
    rw [q.2]
    exact List.mem_cons_of_mem _ (List.mem_singleton.mpr rfl)
theorem pw_putP {ix ci k a : Nat} {sps : List pw_F} {lo hi b : Int} (I : pw_I h) (he : pm_ent m = some (na, nl, own, rt, C)) (hq : pm_get C pc = some (.putfield ix, len)) (hl : pm_get (pm_lnk own) ix = some (0, ci, k, 0)) (hs : pw_T[125]? = some (.inr (ci, sps))) (hk : sps[k]? = some (0, lo, hi)) (h1 : lo ≤ b) (h2 : b ≤ hi) (h3 : -2147483648 ≤ b) (h4 : b ≤ 2147483647) (ha : 16 + 125 = a) (hc : pc + len = pc')
    (H : pw_I (pw_w h 125 k (pw_i b)) → pw_E [125, 1000 + k] h (pw_w h 125 k (pw_i b)) → pw X d (pw_w h 125 k (pw_i b)) m pc' ls r Q) : pw X d h m pc ls (pw_i b :: .ref a :: r) Q := by
  subst hc
  obtain ⟨fs, e1, e2, e3⟩ := pw_obj I hs
  obtain ⟨I2, E2⟩ := pw_Iwp (v := pw_i b) I hs hk ⟨b, rfl, h1, h2, h3, h4⟩ rfl
  refine pw_go he hq (h' := pw_w h 125 k (pw_i b)) (pc' := pc + len) (ls' := ls) (st' := r) (fun ih => ?_) (H I2 E2)
  rw [pw_w_obj e1]
  show pm_gPut ix ih d h m own pc len ls (pw_i b :: .ref a :: r) = _
  unfold pm_gPut
  dsimp only
  rw [hl, pw_cellI e1 ha]
  show cond (Nat.beq ci ci) (cond (Nat.blt k (pm_len fs)) (cond (pm_fit 0 (pw_i b)) (pm_fv (pw_i b) fun v => pm_fn (pc + len) fun q => ih d (pm_set h (a - 16) (.inr (ci, pm_set fs k v))) m q ls r) none) none) none = _
  have hkl : Nat.blt k (pm_len fs) = true := by
    rw [pm_len_eq]
    have := (List.getElem?_eq_some_iff.mp hk).1
    exact Nat.ble_eq_true_of_le (by omega)
  have ea : a - 16 = 125 := by omega
  rw [Nat.beq_refl, cond_true, hkl, cond_true, show pm_fit 0 (pw_i b) = true from rfl, cond_true, pm_fv_eq, pm_fn_eq, ea, pm_set_eq, pm_set_eq]
theorem pw_prim0 {ix f : Nat} {ih : pm_I} (hl : pm_get (pm_lnk own) ix = some (12, f, 0, 0)) (hf : Nat.beq f 0 = false) : pm_gInv X 2 ix ih d h m own pc len ls st = pm_prim X f (fun h' st' => cond (pm_cat8 st') (pm_fn (pc + 3) fun q => ih d h' m q ls st') none) h st := by
  unfold pm_gInv
  rw [hl]
  show cond (Nat.beq 2 (cond (Nat.beq f 0) 3 2)) _ none = _
  rw [hf]
  rfl
theorem pw_max {ix : Nat} {a b : Int} (he : pm_ent m = some (na, nl, own, rt, C)) (hq : pm_get C pc = some (.invokestatic ix, len)) (hl : pm_get (pm_lnk own) ix = some (12, 1, 0, 0)) (h1 : -2147483648 ≤ a) (h2 : a ≤ 2147483647) (h3 : -2147483648 ≤ b) (h4 : b ≤ 2147483647) (h8 : pm_cat8 (pw_i (max a b) :: r) = true) (H : pw X d h m (pc + 3) ls (pw_i (max a b) :: r) Q) : pw X d h m pc ls (pw_i b :: pw_i a :: r) Q := by
  refine pw_ld he hq (fun ih => ?_) H
  refine (pw_prim0 (len := len) hl rfl).trans ?_
  have e : (if Int32.ofInt a < Int32.ofInt b then Int32.ofInt b else Int32.ofInt a) = Int32.ofInt (max a b) := by
    by_cases hab : a < b
    · rw [if_pos ((pw_lt h1 h2 h3 h4).mpr hab), Int.max_eq_right (by omega)]
    · rw [if_neg (fun g => hab ((pw_lt h1 h2 h3 h4).mp g)), Int.max_eq_left (by omega)]
  show cond (pm_cat8 (.int (if Int32.ofInt a < Int32.ofInt b then Int32.ofInt b else Int32.ofInt a) :: r)) (pm_fn (pc + 3) fun q => ih d h m q ls (.int (if Int32.ofInt a < Int32.ofInt b then Int32.ofInt b else Int32.ofInt a) :: r)) none = _
  rw [e]
  show cond (pm_cat8 (pw_i (max a b) :: r)) (pm_fn (pc + 3) fun q => ih d h m q ls (pw_i (max a b) :: r)) none = _
  rw [h8, cond_true, pm_fn_eq]
theorem pw_min {ix : Nat} {a b : Int} (he : pm_ent m = some (na, nl, own, rt, C)) (hq : pm_get C pc = some (.invokestatic ix, len)) (hl : pm_get (pm_lnk own) ix = some (12, 2, 0, 0)) (h1 : -2147483648 ≤ a) (h2 : a ≤ 2147483647) (h3 : -2147483648 ≤ b) (h4 : b ≤ 2147483647) (h8 : pm_cat8 (pw_i (min a b) :: r) = true) (H : pw X d h m (pc + 3) ls (pw_i (min a b) :: r) Q) : pw X d h m pc ls (pw_i b :: pw_i a :: r) Q := by
  refine pw_ld he hq (fun ih => ?_) H
  refine (pw_prim0 (len := len) hl rfl).trans ?_
  have e : (if Int32.ofInt b < Int32.ofInt a then Int32.ofInt b else Int32.ofInt a) = Int32.ofInt (min a b) := by
    by_cases hab : b < a
    · rw [if_pos ((pw_lt h3 h4 h1 h2).mpr hab), Int.min_eq_right (by omega)]
    · rw [if_neg (fun g => hab ((pw_lt h3 h4 h1 h2).mp g)), Int.min_eq_left (by omega)]
  show cond (pm_cat8 (.int (if Int32.ofInt b < Int32.ofInt a then Int32.ofInt b else Int32.ofInt a) :: r)) (pm_fn (pc + 3) fun q => ih d h m q ls (.int (if Int32.ofInt b < Int32.ofInt a then Int32.ofInt b else Int32.ofInt a) :: r)) none = _
  rw [e]
  show cond (pm_cat8 (pw_i (min a b) :: r)) (pm_fn (pc + 3) fun q => ih d h m q ls (pw_i (min a b) :: r)) none = _
  rw [h8, cond_true, pm_fn_eq]
theorem pw_abs {ix : Nat} {a : Int} (he : pm_ent m = some (na, nl, own, rt, C)) (hq : pm_get C pc = some (.invokestatic ix, len)) (hl : pm_get (pm_lnk own) ix = some (12, 3, 0, 0)) (h8 : pm_cat8 (pw_i 0 :: r) = true) (H : ∀ b : Int, -2147483648 ≤ b → b ≤ 2147483647 → (0 ≤ a → a ≤ 2147483647 → b = a) → (-2147483648 < a → a < 0 → b = -a) → pw X d h m (pc + 3) ls (pw_i b :: r) Q) : pw X d h m pc ls (pw_i a :: r) Q := by
  have key : ∀ x : Int32, pw X d h m (pc + 3) ls (.int x :: r) Q → (x = if 0 ≤ Int32.ofInt a then Int32.ofInt a else 0 - Int32.ofInt a) → pw X d h m pc ls (pw_i a :: r) Q := by
    intro x hx ex
    refine pw_ld he hq (st' := .int x :: r) (pc' := pc + 3) (fun ih => ?_) hx
    refine (pw_prim0 (len := len) hl rfl).trans ?_
    show cond (pm_cat8 (.int (if 0 ≤ Int32.ofInt a then Int32.ofInt a else 0 - Int32.ofInt a) :: r)) (pm_fn (pc + 3) fun q => ih d h m q ls (.int (if 0 ≤ Int32.ofInt a then Int32.ofInt a else 0 - Int32.ofInt a) :: r)) none = _
    rw [← ex]
    have h8' : pm_cat8 (.int x :: r) = true := h8
    rw [h8', cond_true, pm_fn_eq]
  obtain ⟨b, b1, b2, b3⟩ := pw_any (if 0 ≤ Int32.ofInt a then Int32.ofInt a else 0 - Int32.ofInt a)
  have b3 : (if 0 ≤ Int32.ofInt a then Int32.ofInt a else 0 - Int32.ofInt a) = Int32.ofInt b := by
    have : Value.int (if 0 ≤ Int32.ofInt a then Int32.ofInt a else 0 - Int32.ofInt a) = .int (Int32.ofInt b) := b3
    exact Value.int.inj this
  refine key (Int32.ofInt b) (H b b1 b2 (fun h0 h1 => ?_) (fun h0 h1 => ?_)) b3.symm
  · have e0 : (0 : Int32) = Int32.ofInt 0 := rfl
    rw [if_pos (by rw [e0, pw_le (by omega) (by omega) (by omega) h1]; exact h0)] at b3
    exact ((pw_eq (by omega) h1 b1 b2).mp b3).symm
  · have e0 : (0 : Int32) = Int32.ofInt 0 := rfl
    rw [if_neg (by rw [e0, pw_le (by omega) (by omega) (by omega) (by omega)]; omega), e0, ← Int32.ofInt_sub] at b3
    have := (pw_eq (by omega) (by omega) b1 b2).mp b3
    omega
theorem pw_labs {ix : Nat} {w : Int64} (he : pm_ent m = some (na, nl, own, rt, C)) (hq : pm_get C pc = some (.invokestatic ix, len)) (hl : pm_get (pm_lnk own) ix = some (12, 4, 0, 0)) (h8 : pm_cat8 (.long w :: r) = true) (H : pw X d h m (pc + 3) ls (.long (if 0 < w then w else -w) :: r) Q) : pw X d h m pc ls (.long w :: r) Q := by
  refine pw_ld he hq (fun ih => ?_) H
  refine (pw_prim0 (len := len) hl rfl).trans ?_
  show cond (pm_cat8 (.long (if 0 < w then w else -w) :: r)) (pm_fn (pc + 3) fun q => ih d h m q ls (.long (if 0 < w then w else -w) :: r)) none = _
  have h8' : pm_cat8 (.long (if 0 < w then w else -w) :: r) = true := h8
  rw [h8', cond_true, pm_fn_eq]
theorem pw_fill {ix c n a : Nat} {lo hi b : Int} (I : pw_I h) (he : pm_ent m = some (na, nl, own, rt, C)) (hq : pm_get C pc = some (.invokestatic ix, len)) (hl : pm_get (pm_lnk own) ix = some (12, 6, 0, 0)) (hs : pw_T[c]? = some (.inl (0, n, lo, hi))) (hn : n ≤ 60000) (h1 : lo ≤ b) (h2 : b ≤ hi) (h3 : -2147483648 ≤ b) (h4 : b ≤ 2147483647) (ha : 16 + c = a) (h8 : pm_cat8 r = true)
    (H : pw_I (h.set c (.inl (0, List.replicate n (pw_i b)))) → pw_E [c] h (h.set c (.inl (0, List.replicate n (pw_i b)))) → pw X d (h.set c (.inl (0, List.replicate n (pw_i b)))) m (pc + 3) ls r Q) : pw X d h m pc ls (pw_i b :: .ref a :: r) Q := by
  obtain ⟨l, e1, e2, e3⟩ := pw_arr I hs
  have I2 : pw_I (h.set c (.inl (0, List.replicate n (pw_i b)))) := by
    refine I.set e1 (fun t' l' g => ?_) (fun s g => ?_) (pw_scc_arr (by omega))
    · cases g
      refine ⟨_, rfl, by rw [List.length_replicate]; exact e2.symm, fun _ j x hx => ?_⟩
      exact ⟨_, List.eq_of_mem_replicate (List.mem_of_getElem? hx)⟩
    · cases hs.symm.trans g
      refine ⟨rfl, List.length_replicate, fun j x hx => ?_⟩
      have := List.eq_of_mem_replicate (List.mem_of_getElem? hx)
      rw [this]
      exact ⟨b, rfl, h1, h2, h3, h4⟩
  refine pw_go he hq (fun ih => ?_) (H I2 (pw_E_set e1 (by show (List.replicate n (pw_i b)).length = l.length; rw [List.length_replicate]; exact e2.symm) (fun k _ => pw_at_cell (pw_c125 hs) k)))
  refine (pw_prim0 (len := len) hl rfl).trans ?_
  show (match pm_cell h a with
    | some (.inl (t, l)) => cond (Nat.beq t 0 && Nat.ble (pm_len l) 60000) (cond (pm_cat8 r) (pm_fn (pc + 3) fun q => ih d (pm_set h (a - 16) (.inl (0, pm_rep (pm_len l) (.int (Int32.ofInt b))))) m q ls r) none) none
    | _ => none) = _
  rw [pw_cellI e1 ha]
  show cond (Nat.beq 0 0 && Nat.ble (pm_len l) 60000) (cond (pm_cat8 r) (pm_fn (pc + 3) fun q => ih d (pm_set h (a - 16) (.inl (0, pm_rep (pm_len l) (.int (Int32.ofInt b))))) m q ls r) none) none = _
  have ea : a - 16 = c := by omega
  rw [pm_len_eq, e2, show (Nat.beq 0 0 && Nat.ble n 60000) = true by rw [Nat.ble_eq_true_of_le hn]; rfl, cond_true, h8, cond_true, pm_fn_eq, ea, pm_set_eq, pm_rep_eq]
  rfl
end Pv
