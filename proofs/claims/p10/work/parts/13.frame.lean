/-! soundness, the frame: what holds of a method's own start (s), and the instructions that read and write the heap -/
def pm_NW : List Cond := tables_1.filter (fun w => match w with
  | .methodLinkNest _ _ _ _ => true
  | .declares _ => true
  | .castable _ _ => true
  | _ => false)
/-- an int array that is there at the start and that nobody writes -/
def pm_ex (A : Nat → Prop) (ad : Nat → Nat) (U : State) (a : Nat) (l : List Value) : Prop := ∃ cell : Cell, U.heap[ad a]? = some cell ∧ U.isArrayOf cell .int ∧ cell.vm ≠ .unknown ∧ cell.slots.size = l.length ∧ (∀ (j : Nat) (v : Value), l[j]? = some v → cell.slots[j]? = some v) ∧ ¬ A (ad a)
/-- the String constants -/
def pm_Sx (A : Nat → Prop) (ad : Nat → Nat) (X : List (Nat × List Value)) (U : State) : Prop := ps_K A U ∧ ∀ (a : Nat) (l : List Value), 4 ≤ a → a < 12 → X[a]? = some (4, l) → ∃ (v : Nat) (bs : List Int32), l = bs.map Value.int ∧ 0 < bs.length ∧ bs.length < 2 ^ 31 ∧ ps_O A (ad a) v bs U
theorem pm_Sx.go {A : Nat → Prop} {ad : Nat → Nat} {X : List (Nat × List Value)} {s U : State} {locs : List Loc} (h : pm_Sx A ad X s) (hal : s.vm.Alike U.vm) (hS : va_S A s.heap U.heap locs) : pm_Sx A ad X U := ⟨h.1.go hal hS, fun a l h1 h2 h3 => by
  obtain ⟨v, bs, e1, e2, e3, e4⟩ := h.2 a l h1 h2 h3
  exact ⟨v, bs, e1, e2, e3, e4.go hal hS⟩⟩
/-- what a method's start gives: classes, links across the nest, what is there at the start -/
def pm_Cx (D : va_G) (cA : Nat → ClassId) (A : Nat → Prop) (ad : Nat → Nat) (X : List (Nat × List Value)) (U : State) : Prop :=
  va_K D vwCl (pm_tys cA) U ∧ (∀ w ∈ pm_NW, va_Nw w U) ∧ (∀ C ∈ [RX3, RX7], va_AO C U) ∧ (∀ (a : Nat) (l : List Value), a < 16 → X[a]? = some (0, l) → pm_ex A ad U a l) ∧
  (∀ a : Nat, 1 ≤ a → a ≤ 3 → va_Z (pm_stn a).1 (pm_stn a).2 "[I" (.ref (ad a)) A U U.heap) ∧ (∀ q ∈ pm_strs, vk_R (pm_nm q.1) q.2.1 q.2.2.1 (ad q.2.2.2) U) ∧
  vx_Zq Bundle.tN "UNASSIGNED_STACK" Bundle.steD A U U.heap ∧ vx_Zq Bundle.tN "SUPPRESSED_SENTINEL" Bundle.listD A U U.heap ∧ pm_Sx A ad X U
theorem pm_NW_warm {s U : State} (hW : s.WarmedH U.vm) {w : Cond} (hw : w ∈ pm_NW) (h : va_Nw w s) : va_Nw w U := by
  have hm := (List.mem_filter.mp hw).2
  split at hm
  · exact va_Nw.warmM hW h
  · exact va_Nw.warmD hW h
  · exact va_Nw.warmC hW h
  · cases hm
/-- at a callee's start -/
theorem pm_Cx.go {D : va_G} {cA : Nat → ClassId} {A : Nat → Prop} {ad : Nat → Nat} {X : List (Nat × List Value)} {s U : State} {locs : List Loc} (h : pm_Cx D cA A ad X s) (hW : s.WarmedH U.vm) (hS : va_S A s.heap U.heap locs) : pm_Cx D cA A ad X U := by
  obtain ⟨h1, h2, h3, h4, h5, h6, h7, h8, h9⟩ := h
  have hk : ∀ a : Nat, a < s.heap.size → ¬ A a → U.heap[a]? = s.heap[a]? := hS.2.1
  refine ⟨h1.moved hW.alike, fun w hw => pm_NW_warm hW hw (h2 w hw), fun C hC => (h3 C hC).moved hW.alike, fun a l ha hl => ?_, fun a ha hb => va_Z.moved hW.alike ((h5 a ha hb).kept hk), fun q hq => (h6 q hq).warm hW, vx_Zq.moved hW.alike (h7.kept hk), vx_Zq.moved hW.alike (h8.kept hk), h9.go hW.alike hS⟩
  obtain ⟨cell, e1, e2, e3, e4, e5, e6⟩ := h4 a l ha hl
  exact ⟨cell, by rw [hk _ (Array.getElem?_eq_some_iff.mp e1).1 e6]; exact e1, State.isArrayOf_alike hW.alike e2, e3, e4, e5, e6⟩
/-- the same state, a frame laid over it -/
theorem pm_Cx.same {D : va_G} {cA : Nat → ClassId} {A : Nat → Prop} {ad : Nat → Nat} {X : List (Nat × List Value)} {s U : State} (h : pm_Cx D cA A ad X s) (hv : U.vm = s.vm) (hh : U.heap = s.heap) : pm_Cx D cA A ad X U := by
  obtain ⟨h1, h2, h3, h4, h5, h6, h7, h8, h9⟩ := h
  have hal : s.vm.Alike U.vm := by rw [hv]; exact Vm.Alike.refl _
  refine ⟨h1.moved hal, fun w hw => ?_, fun C hC => (h3 C hC).moved hal, fun a l ha hl => ?_, fun a ha hb => by rw [hh]; exact va_Z.moved hal (h5 a ha hb), fun q hq => (h6 q hq).same hv, by rw [hh]; exact vx_Zq.moved hal h7, by rw [hh]; exact vx_Zq.moved hal h8, h9.go hal (ps_S0 hh)⟩
  · have hm := (List.mem_filter.mp hw).2
    split at hm
    · exact va_Nw.same rfl hv.symm (h2 _ hw)
    · exact va_Nw.same rfl hv.symm (h2 _ hw)
    · exact va_Nw.same rfl hv.symm (h2 _ hw)
    · cases hm
  · obtain ⟨cell, e1, e2, e3, e4, e5, e6⟩ := h4 a l ha hl
    exact ⟨cell, by rw [hh]; exact e1, State.isArrayOf_alike hal e2, e3, e4, e5, e6⟩
/-- slots of a picture -/
def pm_sz (c : pm_C) : Nat := match c with
  | .inl q => q.2.length
  | .inr q => q.2.length
def pm_slt (h : pm_H) : Nat := (h.map pm_sz).sum
theorem pm_slt_push (h : pm_H) (c : pm_C) : pm_slt (h ++ [c]) = pm_slt h + pm_sz c := by simp [pm_slt]
theorem pm_slt_set {h : pm_H} {k : Nat} {c c' : pm_C} (hk : h[k]? = some c) (hz : pm_sz c' = pm_sz c) : pm_slt (h.set k c') = pm_slt h := by
  unfold pm_slt
  rw [List.map_set, hz]
  congr 1
  have hm : (h.map pm_sz)[k]? = some (pm_sz c) := by rw [List.getElem?_map, hk]; rfl
  apply List.ext_getElem?
  intro j
  by_cases hj : k = j
  · subst hj
    rw [List.getElem?_set_self (List.getElem?_eq_some_iff.mp hm).1, hm]
  · rw [List.getElem?_set_ne hj]
/-- a method's frame: the machine, its code, its class, the words, its start -/
def pm_Fr (p : Program) (s : State) (mid : MethodId) (args : Array Value) (meth : Method) (c : Code) (D : va_G) (cA : Nat → ClassId) (A : Nat → Prop) (ad : Nat → Nat) (X : List (Nat × List Value)) (m : Nat) (e : pm_M) (y : pm_Hd) : Prop :=
  p.tables.exec = Jvm.exec ∧ c.code = pm_byt y.2.1 ∧ c.maxLocals = e.2.1 ∧ s.vm.findClass (pm_nm e.2.2.1) = some mid.cls ∧ (∀ w ∈ pm_W0, w.before args s = true) ∧ pm_Cx D cA A ad X s ∧ meth.name = y.1.name ∧ pm_ent m = some e ∧ pm_get pm_hds m = some y ∧ ∀ q : Nat, s.heap.size ≤ q → A q
/-- the heap as the frame has it: the picture, what stayed, the count of what was made (hb, sb: cells and slots of the picture at the start; x: exceptions that were caught, in the law's frame alone) -/
def pm_At (s : State) (D : va_G) (cA : Nat → ClassId) (A : Nat → Prop) (ad : Nat → Nat) (m hb sb x : Nat) (h : pm_H) (H : Heap) (locs : List Loc) (cells slots : Nat) : Prop :=
  pm_rel D cA A ad h H ∧ va_S A s.heap H locs ∧ (m = 309 ∨ (x = 0 ∧ H.size = s.heap.size + cells)) ∧ cells + hb = h.length + x ∧ slots + sb = pm_slt h + 6 * x
theorem pm_At.stored {s : State} {D : va_G} {cA : Nat → ClassId} {A : Nat → Prop} {ad : Nat → Nat} {m hb sb x : Nat} {h : pm_H} {H H1 : Heap} {locs locs1 : List Loc} {cells slots k : Nat} {c c' : pm_C} (hA : pm_At s D cA A ad m hb sb x h H locs cells slots) (hm : m ≠ 309) (hk : h[k]? = some c) (hz : pm_sz c' = pm_sz c)
    (hP : va_P D vwCl ((pm_ws ad cA h).set k (ad (16 + k), pm_re ad cA c')) H1) (hD : va_D A ((pm_ws ad cA h).set k (ad (16 + k), pm_re ad cA c'))) (hS : va_S A H H1 locs1) (hup : H1.size ≤ s.heap.size + cells) : pm_At s D cA A ad m hb sb x (h.set k c') H1 locs1 cells slots := by
  obtain ⟨h1, h2, h3, h4, h5⟩ := hA
  obtain ⟨hx, h3⟩ := h3.resolve_left hm
  have hsz : H1.size = H.size := by have := hS.1; omega
  exact ⟨h1.stored (List.getElem?_eq_some_iff.mp hk).1 hP hD hsz, pm_S_trans h2 hS, Or.inr ⟨hx, by rw [hsz]; exact h3⟩, by rw [List.length_set]; exact h4, by rw [pm_slt_set hk hz]; exact h5⟩
theorem pm_At.made {s : State} {D : va_G} {cA : Nat → ClassId} {A : Nat → Prop} {ad : Nat → Nat} {m hb sb x : Nat} {h : pm_H} {H H1 : Heap} {locs : List Loc} {cells slots : Nat} {c : pm_C} (hA : pm_At s D cA A ad m hb sb x h H locs cells slots) (hAs : ∀ q : Nat, s.heap.size ≤ q → A q) (hz : H1.size = H.size + 1) (ho : ∀ q, q < H.size → H1[q]? = H[q]?) (hc : va_at D vwCl (H.size, pm_re ad cA c) H1) : pm_At s D cA A ad m hb sb x (h ++ [c]) H1 locs (cells + 1) (slots + pm_sz c) := by
  obtain ⟨h1, h2, h3, h4, h5⟩ := hA
  refine ⟨h1.made (hAs _ h2.1) hz ho hc, ⟨by have := h2.1; omega, fun q hq hn => (ho q (Nat.lt_of_lt_of_le hq h2.1)).trans (h2.2.1 q hq hn), h2.2.2⟩, ?_, by rw [List.length_append]; show cells + 1 + hb = h.length + 1 + x; omega, by rw [pm_slt_push]; omega⟩
  rcases h3 with h3 | ⟨hx, h3⟩
  · exact Or.inl h3
  · exact Or.inr ⟨hx, by omega⟩
theorem pm_blt {a b : Nat} (h : Nat.blt a b = true) : a < b := Nat.le_of_ble_eq_true h
theorem pm_cond_true {b : Bool} {K : pm_R} {o : pm_H × (Option Value ⊕ Unit)} (h : cond b K none = some o) : b = true ∧ K = some o := by
  cases b with
  | false => cases h
  | true => exact ⟨rfl, h⟩
theorem pm_cond_false {b : Bool} {K : pm_R} {o : pm_H × (Option Value ⊕ Unit)} (h : cond b none K = some o) : b = false ∧ K = some o := by
  cases b with
  | false => exact ⟨rfl, h⟩
  | true => cases h
theorem pm_fv_eq (v : Value) (k : Value → pm_R) : pm_fv v k = k v := by
  unfold pm_fv
  split
  · rw [pm_fi_eq]
  · rw [pm_fl_eq]
  · rfl
section PmH
variable {p : Program} {l : Launch} {e : Env} {R : Room} {s : State} {mid : MethodId} {args : Array Value} {below : List Frame} {meth : Method} {c : Code} {H : Heap} {locs : List Loc} {cells slots : Nat} {Q : State → Prop}
variable {D : va_G} {cA : Nat → ClassId} {A : Nat → Prop} {ad : Nat → Nat} {X : List (Nat × List Value)} {m : Nat} {E : pm_M} {y : pm_Hd} {hb sb x : Nat} {h : pm_H}
variable {d pc len : Nat} {ls : pm_L} {st : List Value} {ih : pm_I} {o : pm_H × (Option Value ⊕ Unit)}
theorem pm_jLdcI {ix n : Nat} (F : pm_Fr p s mid args meth c D cA A ad X m E y) (hl : pm_get (pm_lnk E.2.2.1) ix = some (8, n, 0, 0) ∨ ∃ b z, pm_get (pm_lnk E.2.2.1) ix = some (8, n, b, z)) : (Cond.constant (pm_nm E.2.2.1) ix (Int32.ofNat n)).before args s = true := by
  obtain ⟨-, -, -, -, hw, -⟩ := F
  have key : ∀ b z, pm_get (pm_lnk E.2.2.1) ix = some (8, n, b, z) → (Cond.constant (pm_nm E.2.2.1) ix (Int32.ofNat n)).before args s = true := by
    intro b z hg
    obtain ⟨i, hi⟩ := pm_link hg
    have hi : decide (tables_1[i]? = some (.constant (pm_nm E.2.2.1) ix (Int32.ofNat n))) = true := hi
    exact hw _ (pm_W0_at i (of_decide_eq_true hi) rfl)
  rcases hl with h | ⟨b, z, h⟩
  · exact key _ _ h
  · exact key _ _ h
theorem pm_ldcJ {ix n b z : Nat} (F : pm_Fr p s mid args meth c D cA A ad X m E y) (hg : pm_get (pm_lnk E.2.2.1) ix = some (9, n, b, z)) : (Cond.constantLong (pm_nm E.2.2.1) ix (Int64.ofNat n)).before args s = true := by
  obtain ⟨-, -, -, -, hw, -⟩ := F
  obtain ⟨i, hi⟩ := pm_link hg
  have hi : decide (tables_1[i]? = some (.constantLong (pm_nm E.2.2.1) ix (Int64.ofNat n))) = true := hi
  exact hw _ (pm_W0_at i (of_decide_eq_true hi) rfl)
/-- a field's link -/
theorem pm_fld {ix ci k t : Nat} (F : pm_Fr p s mid args meth c D cA A ad X m E y) (hg : pm_get (pm_lnk E.2.2.1) ix = some (0, ci, k, t)) : ∃ (C : String) (T : u_T) (N : Nat), vwCl[ci]? = some (C, T, N) ∧ k < N ∧ (Cond.fieldLink (pm_nm E.2.2.1) ix (T k).1 (T k).2.1 (T k).2.2.1).before args s = true ∧ pm_tyok t (parseFieldDescriptor (T k).2.2.1) = true ∧ (T k).1 = pm_nm ci := by
  obtain ⟨-, -, -, -, hw, -⟩ := F
  obtain ⟨i, hi⟩ := pm_link hg
  have hi : (match vwCl[ci]? with
    | some r => Nat.blt k r.2.2 && (decide (tables_1[i]? = some (.fieldLink (pm_nm E.2.2.1) ix (r.2.1 k).1 (r.2.1 k).2.1 (r.2.1 k).2.2.1)) && (pm_tyok t (parseFieldDescriptor (r.2.1 k).2.2.1) && (decide ((r.2.1 k).1 = r.1) && decide (r.1 = pm_nm ci))))
    | none => false) = true := hi
  split at hi
  · rename_i r hr
    obtain ⟨C, T, N⟩ := r
    simp only [Bool.and_eq_true, decide_eq_true_eq] at hi
    obtain ⟨q1, q2, q3, q4, q5⟩ := hi
    exact ⟨C, T, N, hr, pm_blt q1, hw _ (pm_W0_at i q2 rfl), q3, q4.trans q5⟩
  · cases hi
theorem pm_jGet {ix : Nat} (F : pm_Fr p s mid args meth c D cA A ad X m E y) (hA : pm_At s D cA A ad m hb sb x h H locs cells slots) (hd : decode (pm_byt y.2.1) pc = .ok (.getfield ix, 3))
    (hK : ∀ q ls st, ih d h m q ls st = some o → pm_J p l e R s mid args below meth c H locs cells slots Q ad E.2.1 q ls st) (hr : pm_gGet ix ih d h m E.2.2.1 pc 3 ls st = some o) : pm_J p l e R s mid args below meth c H locs cells slots Q ad E.2.1 pc ls st := by
  intro LS hl
  unfold pm_gGet at hr
  split at hr
  · rename_i a r
    split at hr
    · rename_i ci k t cj fs hg hc
      replace hr := pm_cond_true hr
      obtain ⟨hb1, hr⟩ := hr
      have e1 : ci = cj := Nat.eq_of_beq_eq_true hb1
      subst e1
      split at hr
      · rename_i v hv
        rw [pm_fn_eq] at hr
        rw [pm_nth_eq] at hv
        obtain ⟨C, T, N, f1, f2, f3, f4, f5⟩ := pm_fld F hg
        obtain ⟨k0, rfl, -, hk0⟩ := pm_cell_some hc
        obtain ⟨hx, hbc, hml, hown, hw, hCx, -⟩ := F
        exact va_get (own := pm_nm E.2.2.1) (ref := (T k).1) (C := C) (T := T) (N := N) (Ts := pm_W0) hx hbc hw (pm_cls f1).1 hown hCx.1 hA.1.1 k0 (pm_ws_at hk0) f1 k f2 f3 (fun _ q => q) (v := pm_rv ad v) (by rw [List.getElem?_map, hv]; rfl) hd (hK _ _ _ hr LS hl)
      · cases hr
    · cases hr
  · cases hr
theorem pm_fit_ok {t : Nat} {ty : FieldType} {v : Value} (h1 : pm_fit t v = true) (h2 : pm_tyok t (some ty) = true) : narrow ty (pm_rv ad v) = pm_rv ad v ∧ fits ty (pm_rv ad v) = true := by
  match t, h1, h2 with
  | 0, h1, h2 =>
    cases ty <;> first | (cases h2; done) | skip
    cases v <;> first | (cases h1; done) | exact ⟨rfl, rfl⟩
  | 1, h1, h2 =>
    cases ty <;> first | (cases h2; done) | skip
    cases v with
    | int z =>
      have h3 : (decide (z = 0) || decide (z = 1)) = true := h1
      simp only [Bool.or_eq_true, decide_eq_true_eq] at h3
      rcases h3 with rfl | rfl
      · exact ⟨by show narrow .boolean (.int 0) = .int 0; decide, by show fits .boolean (.int 0) = true; decide⟩
      · exact ⟨by show narrow .boolean (.int 1) = .int 1; decide, by show fits .boolean (.int 1) = true; decide⟩
    | _ => cases h1
  | 2, h1, h2 =>
    cases ty <;> first | (cases h2; done) | skip
    cases v <;> first | (cases h1; done) | exact ⟨rfl, rfl⟩
  | 3, h1, h2 =>
    cases ty <;> first | (cases h2; done) | skip
    all_goals cases v <;> first | (cases h1; done) | exact ⟨rfl, rfl⟩
  | n + 4, h1, h2 => cases v <;> cases h1
theorem pm_jPut {ix : Nat} (F : pm_Fr p s mid args meth c D cA A ad X m E y) (hA : pm_At s D cA A ad m hb sb x h H locs cells slots) (hd : decode (pm_byt y.2.1) pc = .ok (.putfield ix, 3)) (hm : m ≠ 309)
    (hfin : ∀ ci k t C T N, pm_get (pm_lnk E.2.2.1) ix = some (0, ci, k, t) → vwCl[ci]? = some (C, T, N) → (T k).2.2.2 = true → ci = E.2.2.1 ∧ y.1.name = "<init>")
    (hK : ∀ h1 H1 locs1 q ls st, pm_At s D cA A ad m hb sb x h1 H1 locs1 cells slots → ih d h1 m q ls st = some o → pm_J p l e R s mid args below meth c H1 locs1 cells slots Q ad E.2.1 q ls st) (hr : pm_gPut ix ih d h m E.2.2.1 pc 3 ls st = some o) : pm_J p l e R s mid args below meth c H locs cells slots Q ad E.2.1 pc ls st := by
  intro LS hl
  unfold pm_gPut at hr
  split at hr
  · rename_i v a r
    split at hr
    · rename_i ci k t cj fs hg hc
      replace hr := pm_cond_true hr
      obtain ⟨hb1, hr⟩ := hr
      have e1 : ci = cj := Nat.eq_of_beq_eq_true hb1
      subst e1
      replace hr := pm_cond_true hr
      obtain ⟨hb2, hr⟩ := hr
      replace hr := pm_cond_true hr
      obtain ⟨hb3, hr⟩ := hr
      rw [pm_len_eq] at hb2
      rw [pm_fv_eq, pm_fn_eq] at hr
      obtain ⟨C, T, N, f1, f2, f3, f4, f5⟩ := pm_fld F hg
      obtain ⟨k0, rfl, e2, hk0⟩ := pm_cell_some hc
      rw [e2, pm_set_eq, pm_set_eq] at hr
      have hlt : k < fs.length := pm_blt hb2
      obtain ⟨hx, hbc, hml, hown, hw, hCx, hnm, -⟩ := F
      obtain ⟨g1, ⟨ty0, g2⟩, g3, -⟩ := pm_cls f1
      rw [g2 k f2] at f4
      obtain ⟨n1, n2⟩ := pm_fit_ok (ad := ad) hb3 f4
      have hgo : ∀ (H1 : Heap) (locs1 : List Loc), va_P D vwCl ((pm_ws ad cA h).set k0 (ad (16 + k0), .inr (ci, (fs.map (pm_rv ad)).set k (pm_rv ad v)))) H1 → va_D A ((pm_ws ad cA h).set k0 (ad (16 + k0), .inr (ci, (fs.map (pm_rv ad)).set k (pm_rv ad v)))) → va_S A H H1 locs1 → W p l e R s mid args below meth c H1 locs1 cells slots Q (F0 mid (pc + 3) LS (r.map (pm_rv ad))) := by
        intro H1 locs1 hP1 hD1 hS1
        have e3 : (.inr (ci, (fs.map (pm_rv ad)).set k (pm_rv ad v)) : va_E) = pm_re ad cA (.inr (ci, fs.set k v)) := by
          show _ = Sum.inr (ci, (fs.set k v).map (pm_rv ad))
          rw [List.map_set]
        rw [e3] at hP1 hD1
        refine pm_up fun hup => ?_
        exact hK _ H1 locs1 _ _ _ (hA.stored hm hk0 (by show (fs.set k v).length = fs.length; simp) hP1 hD1 hS1 hup) hr LS hl
      have hlen : k < (fs.map (pm_rv ad)).length := by rw [List.length_map]; exact hlt
      cases hfi : (T k).2.2.2 with
      | false => exact va_put (own := pm_nm E.2.2.1) (ref := (T k).1) (C := C) (T := T) (N := N) (Ts := pm_W0) (ty := ty0 k) hx hbc hw g1 ty0 g2 g3 hown hCx.1 hA.1.1 hA.1.2.1 (pm_S_self hA.2.1) k0 (pm_ws_at hk0) f1 k f2 f3 (fun _ q => q) hfi (g2 k f2) n1 n2 hlen hd hgo
      | true =>
        obtain ⟨q1, q2⟩ := hfin ci k t C T N hg f1 hfi
        exact va_putF (own := pm_nm E.2.2.1) (ref := (T k).1) (C := C) (T := T) (N := N) (Ts := pm_W0) (ty := ty0 k) hx hbc hw g1 ty0 g2 g3 hown hCx.1 hA.1.1 hA.1.2.1 (pm_S_self hA.2.1) k0 (pm_ws_at hk0) f1 k f2 f3 (fun _ q => q) hfi (hnm.trans q2) (by rw [f5, q1]) (g2 k f2) n1 n2 hlen hd hgo
    · cases hr
  · cases hr
end PmH
