/-! soundness: constants of the pool, heads of methods, calls -/
theorem pm_cat8_sum {r : List Value} (h : pm_cat8 r = true) : (r.map fun v => v.category).sum ≤ 8 := by
  have e : ∀ r : List Value, (List.rec 0 (fun v _ ih => v.category + ih) r : Nat) = (r.map fun v => v.category).sum := by
    intro r
    induction r with
    | nil => rfl
    | cons a r ih => rw [List.map_cons, List.sum_cons, ← ih]
  unfold pm_cat8 at h
  rw [e] at h
  exact Nat.le_of_ble_eq_true h
theorem pm_cat8_rv {ad : Nat → Nat} {r : List Value} (h : pm_cat8 r = true) : ((r.map (pm_rv ad)).map fun v => v.category).sum ≤ 8 := by
  rw [List.map_map, show ((fun v : Value => v.category) ∘ pm_rv ad) = fun v => v.category from funext fun v => pm_rv_cat ad v]
  exact pm_cat8_sum h
theorem pm_good {L : List Cond} (h : ∀ w ∈ L, w ∈ pm_W0) : GoodIn pm_W0 L := fun w hw => ⟨h w hw, good_of_word (List.mem_filter.mp (h w hw)).2⟩
/-- a head: its words -/
theorem pm_hd_ok {kd : Nat} {y : pm_Hd} {e : pm_M} {ps : Nat × Nat × Nat × Nat} (h : pm_ckh kd y e ps = true) (hk : kd = 1 ∨ kd = 2 ∨ kd = 3) : Cond.code y.1 (pm_byt y.2.1) e.2.1 y.2.2 ∈ pm_W0 ∧ Cond.initialized y.1.cls ∈ pm_W0 ∧ y.1.cls = pm_nm e.2.2.1 ∧ pm_tyok e.2.2.2.1 y.2.2 = true ∧ e.2.1 ≤ 80 ∧ Jvm.plainName y.1.cls = true ∧ (y.1.cls ≠ "java/lang/invoke/MethodHandle" ∧ y.1.cls ≠ "java/lang/invoke/VarHandle") ∧
    (kd = 1 → Cond.instanceMethod y.1 ∈ pm_W0 ∧ Cond.selects y.1.cls y.1 y.1 ∈ pm_W0 ∧ (parseMethodDescriptor y.1.desc).map (fun d => d.parameters.length + 1) = some e.1) ∧ (kd = 2 → Cond.static y.1 ∈ pm_W0 ∧ (parseMethodDescriptor y.1.desc).map (fun d => d.parameters.length) = some e.1) ∧ (kd = 3 → Cond.instanceMethod y.1 ∈ pm_W0 ∧ y.1.name = "<init>" ∧ (parseMethodDescriptor y.1.desc).map (fun d => d.parameters.length + 1) = some e.1) := by
  unfold pm_ckh at h
  rw [Bool.or_eq_true] at h
  have h := h.resolve_left (fun q => by rcases hk with rfl | rfl | rfl <;> cases q)
  simp only [Bool.and_eq_true] at h
  obtain ⟨h1, h2, h3, h4, h5, h6, h7, h8, h9, h10⟩ := h
  refine ⟨?_, pm_W0_at _ (of_decide_eq_true h3) rfl, of_decide_eq_true h4, h5, Nat.le_of_ble_eq_true h6, h7, ⟨of_decide_eq_true h8, of_decide_eq_true h9⟩, ?_, ?_, ?_⟩
  · split at h1
    · rename_i y2 b l2 r2 hw
      simp only [Bool.and_eq_true, decide_eq_true_eq] at h1
      obtain ⟨q1, q2, q3⟩ := h1
      have q2 := Nat.eq_of_beq_eq_true q2
      subst q1; subst q2; subst q3
      have hb : pm_byt y.2.1 = b := by
        unfold pm_byt
        cases hz : Nat.beq y.2.1 99999 with
        | true => rw [hz] at h2; cases h2
        | false => rw [cond_false, hw]
      rw [hb]
      exact pm_W0_at _ hw rfl
    · cases h1
  · rintro rfl
    simp only [Bool.and_eq_true, decide_eq_true_eq] at h10
    exact ⟨pm_W0_at _ h10.1 rfl, List.mem_filter.mpr ⟨List.mem_of_getElem? h10.2.1, rfl⟩, h10.2.2⟩
  · rintro rfl
    simp only [Bool.and_eq_true, decide_eq_true_eq] at h10
    exact ⟨pm_W0_at _ h10.1 rfl, h10.2⟩
  · rintro rfl
    simp only [Bool.and_eq_true, decide_eq_true_eq] at h10
    exact ⟨pm_W0_at _ h10.1 rfl, h10.2.1, h10.2.2⟩
/-- a link to a method -/
theorem pm_lkM {own ix kd m' na ci : Nat} (hg : pm_get (pm_lnk own) ix = some (kd, m', na, ci)) (hk : kd = 1 ∨ kd = 2 ∨ kd = 3 ∨ kd = 14) : ∃ y e, pm_get pm_hds m' = some y ∧ pm_ent m' = some e ∧ pm_get pm_kdt m' = some kd ∧ e.1 = na ∧ ((kd = 1 ∨ kd = 3) → e.2.2.1 = ci) ∧ (Cond.methodLink (pm_nm own) ix y.1 ∈ tables_1 ∨ Cond.methodLinkNest (pm_nm own) ix y.1 "RiverWage" ∈ tables_1) := by
  obtain ⟨i, hi⟩ := pm_link hg
  have hi : ((Nat.beq kd 1 || Nat.beq kd 2 || Nat.beq kd 3 || Nat.beq kd 14) && match pm_get pm_hds m', pm_ent m' with
    | some y, some e => (decide (tables_1[i]? = some (.methodLink (pm_nm own) ix y.1)) || decide (tables_1[i]? = some (.methodLinkNest (pm_nm own) ix y.1 "RiverWage"))) && ((match pm_get pm_kdt m' with
      | some kd' => Nat.beq kd' kd
      | none => false) && (Nat.beq e.1 na && (Nat.beq kd 2 || (Nat.beq kd 14 || (Nat.beq e.2.2.1 ci)))))
    | _, _ => false) = true := by
    rcases hk with rfl | rfl | rfl | rfl <;> exact hi
  rw [Bool.and_eq_true] at hi
  obtain ⟨-, hi⟩ := hi
  split at hi
  · rename_i y e h1 h2
    simp only [Bool.and_eq_true] at hi
    obtain ⟨q1, q2, q3, q4⟩ := hi
    refine ⟨y, e, h1, h2, ?_, Nat.eq_of_beq_eq_true q3, ?_, ?_⟩
    · split at q2
      · rename_i kd' hkd
        rw [hkd, Nat.eq_of_beq_eq_true q2]
      · cases q2
    · intro hz
      simp only [Bool.or_eq_true] at q4
      rcases q4 with q | q | q
      · have := Nat.eq_of_beq_eq_true q; omega
      · have := Nat.eq_of_beq_eq_true q; omega
      · exact Nat.eq_of_beq_eq_true q
    · simp only [Bool.or_eq_true, decide_eq_true_eq] at q1
      rcases q1 with q | q
      · exact Or.inl (List.mem_of_getElem? q)
      · exact Or.inr (List.mem_of_getElem? q)
  · cases hi
def pm_wsm (y : pm_Hd) (e : pm_M) : List Cond := Cond.code y.1 (pm_byt y.2.1) e.2.1 y.2.2 :: pm_W0
/-- a call's start: its arguments, the picture -/
def pm_Pc (D : va_G) (cA : Nat → ClassId) (A : Nat → Prop) (ad : Nat → Nat) (X : List (Nat × List Value)) (h : pm_H) (As : List Value) : Array Value → State → Prop := fun v U => v = (As.map (pm_rv ad)).toArray ∧ pm_Cx D cA A ad X U ∧ pm_rel D cA A ad h U.heap ∧ ∀ q : Nat, U.heap.size ≤ q → A q
/-- its end -/
def pm_Qc (D : va_G) (cA : Nat → ClassId) (A : Nat → Prop) (ad : Nat → Nat) (h1 : pm_H) (v : Option Value) : Array Value → State → Outcome → State → Prop := fun _ st oc t => oc = .returned (v.map (pm_rv ad)) ∧ pm_rel D cA A ad h1 t.heap ∧ va_F A st t
def pm_rm (d mc ms : Nat) : Room := { frames := d + 10, cells := mc, slots := ms, locals := 100 * d + 200 }
/-- the contract of a method at given arguments and a given picture -/
def pm_Mt (l : Launch) (D : va_G) (cA : Nat → ClassId) (A : Nat → Prop) (ad : Nat → Nat) (X : List (Nat × List Value)) (y : pm_Hd) (e : pm_M) (d : Nat) (h : pm_H) (As : List Value) (h1 : pm_H) (v : Option Value) : Prop :=
  Met l y.1 (pm_wsm y e) (pm_rm d (h1.length - h.length) (pm_slt h1 - pm_slt h)) (pm_Pc D cA A ad X h As) (pm_Qc D cA A ad h1 v) (h1.length - h.length) (pm_slt h1 - pm_slt h) A
theorem pm_Pc_blind {D : va_G} {cA : Nat → ClassId} {A : Nat → Prop} {ad : Nat → Nat} {X : List (Nat × List Value)} {h : pm_H} {As : List Value} : FrameBlind (pm_Pc D cA A ad X h As) := by
  intro a U g mk q
  exact ⟨q.1, q.2.1.same rfl rfl, q.2.2.1, q.2.2.2⟩
section PmC
variable {p : Program} {l : Launch} {e : Env} {R : Room} {s : State} {mid : MethodId} {args : Array Value} {below : List Frame} {meth : Method} {c : Code} {H : Heap} {locs : List Loc} {cells slots : Nat} {Q : State → Prop}
variable {D : va_G} {cA : Nat → ClassId} {A : Nat → Prop} {ad : Nat → Nat} {X : List (Nat × List Value)} {m : Nat} {E : pm_M} {y : pm_Hd} {hb sb x : Nat} {h : pm_H}
variable {d pc len : Nat} {ls : pm_L} {st : List Value} {ih : pm_I} {o : pm_H × (Option Value ⊕ Unit)}
theorem pm_jLdc {ix : Nat} (F : pm_Fr p s mid args meth c D cA A ad X m E y) (hd : decode (pm_byt y.2.1) pc = .ok (.ldc ix, 2))
    (hK : ∀ q ls st, ih d h m q ls st = some o → pm_J p l e R s mid args below meth c H locs cells slots Q ad E.2.1 q ls st) (hr : pm_gLdc ix ih d h m E.2.2.1 pc 2 ls st = some o) : pm_J p l e R s mid args below meth c H locs cells slots Q ad E.2.1 pc ls st := by
  intro LS hl
  unfold pm_gLdc at hr
  split at hr
  · rename_i n b z hg
    rw [pm_fn_eq] at hr
    have hc := pm_jLdcI F (Or.inr ⟨_, _, hg⟩)
    obtain ⟨hx, hbc, hml, hown, -⟩ := F
    exact lv_ldc hx hbc hown hc hd (hK _ _ _ hr LS hl)
  · rename_i a b z hg
    rw [pm_fn_eq] at hr
    obtain ⟨i, hi⟩ := pm_link hg
    have hi : pm_strs.any (fun r => Nat.beq r.1 E.2.2.1 && (Nat.beq r.2.1 ix && Nat.beq r.2.2.2 a)) = true := hi
    obtain ⟨r, hr1, hr2⟩ := List.any_eq_true.mp hi
    simp only [Bool.and_eq_true] at hr2
    obtain ⟨q1, q2, q3⟩ := hr2
    have q1 := Nat.eq_of_beq_eq_true q1
    have q2 := Nat.eq_of_beq_eq_true q2
    have q3 := Nat.eq_of_beq_eq_true q3
    obtain ⟨hx, hbc, hml, hown, hw, hCx, -⟩ := F
    have hs := hCx.2.2.2.2.2.1 r hr1
    rw [q1, q2, q3] at hs
    exact va_ldcS hx hbc hown hs hd (hK _ _ _ hr LS hl)
  · cases hr
theorem pm_jLdw {ix : Nat} (F : pm_Fr p s mid args meth c D cA A ad X m E y) (hd : decode (pm_byt y.2.1) pc = .ok (.ldc_w ix, 3))
    (hK : ∀ q ls st, ih d h m q ls st = some o → pm_J p l e R s mid args below meth c H locs cells slots Q ad E.2.1 q ls st) (hr : pm_gLdw ix ih d h m E.2.2.1 pc 3 ls st = some o) : pm_J p l e R s mid args below meth c H locs cells slots Q ad E.2.1 pc ls st := by
  intro LS hl
  unfold pm_gLdw at hr
  split at hr
  · rename_i n b z hg
    rw [pm_fn_eq] at hr
    have hc := pm_jLdcI F (Or.inr ⟨_, _, hg⟩)
    obtain ⟨hx, hbc, hml, hown, -⟩ := F
    exact lv_ldcw hx hbc hown hc hd (hK _ _ _ hr LS hl)
  · cases hr
theorem pm_jLd2 {ix : Nat} (F : pm_Fr p s mid args meth c D cA A ad X m E y) (hd : decode (pm_byt y.2.1) pc = .ok (.ldc2_w ix, 3))
    (hK : ∀ q ls st, ih d h m q ls st = some o → pm_J p l e R s mid args below meth c H locs cells slots Q ad E.2.1 q ls st) (hr : pm_gLd2 ix ih d h m E.2.2.1 pc 3 ls st = some o) : pm_J p l e R s mid args below meth c H locs cells slots Q ad E.2.1 pc ls st := by
  intro LS hl
  unfold pm_gLd2 at hr
  split at hr
  · rename_i n b z hg
    rw [pm_fn_eq] at hr
    have hc := pm_ldcJ F hg
    obtain ⟨hx, hbc, hml, hown, -⟩ := F
    exact lv_ldc2 hx hbc hown hc hd (hK _ _ _ hr LS hl)
  · cases hr
theorem pm_jSta {ix : Nat} (F : pm_Fr p s mid args meth c D cA A ad X m E y) (hA : pm_At s D cA A ad m hb sb x h H locs cells slots) (hd : decode (pm_byt y.2.1) pc = .ok (.getstatic ix, 3))
    (hK : ∀ q ls st, ih d h m q ls st = some o → pm_J p l e R s mid args below meth c H locs cells slots Q ad E.2.1 q ls st) (hr : pm_gSta ix ih d h m E.2.2.1 pc 3 ls st = some o) : pm_J p l e R s mid args below meth c H locs cells slots Q ad E.2.1 pc ls st := by
  intro LS hl
  unfold pm_gSta at hr
  split at hr
  · rename_i a b z hg
    rw [pm_fn_eq] at hr
    obtain ⟨i, hi⟩ := pm_link hg
    have hi : (Nat.ble 1 a && (Nat.ble a 3 && decide (tables_1[i]? = some (.fieldLink (pm_nm E.2.2.1) ix (pm_stn a).1 (pm_stn a).2 "[I")))) = true := hi
    simp only [Bool.and_eq_true, decide_eq_true_eq] at hi
    obtain ⟨q1, q2, q3⟩ := hi
    obtain ⟨hx, hbc, hml, hown, hw, hCx, -⟩ := F
    exact va_gets (ref := (pm_stn a).1) hx hbc (hCx.2.2.2.2.1 a (Nat.le_of_ble_eq_true q1) (Nat.le_of_ble_eq_true q2)) hA.2.1 hown (hw _ (pm_W0_at i q3 rfl)) (fun _ q => q) hd (hK _ _ _ hr LS hl)
  · cases hr
/-- behind a call: the new picture -/
theorem pm_after {LS : Array Slot} {st0 rest : List Value} {h1 : pm_H} {v : Option Value} {a0 : Array Value} (hr : va_Run p l e R s mid args below meth c H locs cells slots (h1.length - h.length) (pm_slt h1 - pm_slt h) (F0 mid pc LS st0) rest (pm_Qc D cA A ad h1 v a0) A) (hA : pm_At s D cA A ad m hb sb x h H locs cells slots) (hl1 : h.length ≤ h1.length) (hl2 : pm_slt h ≤ pm_slt h1)
    (kk : ∀ (H1 : Heap) (locs1 : List Loc), pm_At s D cA A ad m hb sb x h1 H1 locs1 (cells + (h1.length - h.length)) (slots + (pm_slt h1 - pm_slt h)) → W p l e R s mid args below meth c H1 locs1 (cells + (h1.length - h.length)) (slots + (pm_slt h1 - pm_slt h)) Q (F0 mid (pc + 3) LS ((v.map (pm_rv ad)).toList ++ rest))) : W p l e R s mid args below meth c H locs cells slots Q (F0 mid pc LS st0) := by
  intro T hT X
  obtain ⟨v', st₀, t, T', L, h0, X', hL, e1, e2, ⟨hv, hrel, hF⟩, st⟩ := hr T hT X
  have hv' : v' = v.map (pm_rv ad) := by cases hv; rfl
  subst hv'
  obtain ⟨a1, a2, a3, a4, a5⟩ := hA
  have hz : t.heap.size = H.size + (h1.length - h.length) := by
    have q1 := a1.2.2 (h1.length - h.length)
    have q2 := hrel.2.2 0
    rw [show 16 + h.length + (h1.length - h.length) = 16 + h1.length + 0 by omega] at q1
    omega
  obtain ⟨t2, b1, b2⟩ := kk T'.heap (locs ++ L) ⟨by rw [e1]; exact hrel, ⟨by rw [e1]; have := a2.1; omega, fun q g1 g2 => by
      rw [e1, hF.2 q (by rw [h0]; exact Nat.lt_of_lt_of_le g1 a2.1) g2, h0]
      exact a2.2.1 q g1 g2, fun q hq => by
      rcases List.mem_append.mp hq with g | g
      · exact a2.2.2 q g
      · exact hL q g⟩, by
      rcases a3 with g | ⟨g1, g2⟩
      · exact Or.inl g
      · exact Or.inr ⟨g1, by rw [e1, hz]; omega⟩, by omega, by omega⟩ T' rfl X'
  exact ⟨t2, st t2 b1, b2⟩
/-- a call's start out of the frame -/
theorem pm_pre {As : List Value} (F : pm_Fr p s mid args meth c D cA A ad X m E y) (hA : pm_At s D cA A ad m hb sb x h H locs cells slots) : ∀ U : State, U.heap = H → s.WarmedH U.vm → pm_Pc D cA A ad X h As (As.map (pm_rv ad)).toArray U := by
  intro U hU hW
  obtain ⟨hx, hbc, hml, hown, hw, hCx, hnm, he, hy, hAs⟩ := F
  exact ⟨rfl, hCx.go hW (by rw [hU]; exact hA.2.1), by rw [hU]; exact hA.1, fun q hq => hAs q (Nat.le_trans hA.2.1.1 (by rw [← hU]; exact hq))⟩
end PmC
