/-! soundness: what is called by its meaning (fill apart) -/
section PmP
variable {p : Program} {l : Launch} {e : Env} {R : Room} {s : State} {mid : MethodId} {args : Array Value} {below : List Frame} {meth : Method} {c : Code} {H : Heap} {locs : List Loc} {cells slots : Nat} {Q : State → Prop}
variable {D : va_G} {cA : Nat → ClassId} {A : Nat → Prop} {ad : Nat → Nat} {X : List (Nat × List Value)} {m : Nat} {E : pm_M} {y : pm_Hd} {hb sb x : Nat} {h : pm_H}
variable {d pc len : Nat} {ls : pm_L} {st : List Value} {ih : pm_I} {o : pm_H × (Option Value ⊕ Unit)}
theorem pm_cat8_tl {v : Value} {r : List Value} (h : pm_cat8 (v :: r) = true) : pm_cat8 r = true := by
  have h1 := pm_cat8_sum h
  rw [List.map_cons, List.sum_cons] at h1
  have e : ∀ r : List Value, (List.rec 0 (fun v _ ih => v.category + ih) r : Nat) = (r.map fun v => v.category).sum := by
    intro r
    induction r with
    | nil => rfl
    | cons a r ih => rw [List.map_cons, List.sum_cons, ← ih]
  unfold pm_cat8
  rw [e]
  exact Nat.ble_eq_true_of_le (by omega)
theorem pm_jPrim {how ix f a b : Nat} (F : pm_Fr p s mid args meth c D cA A ad X m E y) (hA : pm_At s D cA A ad m hb sb x h H locs cells slots) (hg : pm_get (pm_lnk E.2.2.1) ix = some (12, f, a, b)) (hhow : how = cond (Nat.beq f 0) 3 2)
    (hd1 : (how = 2 → decode (pm_byt y.2.1) pc = .ok (.invokestatic ix, 3)) ∧ (how = 3 → decode (pm_byt y.2.1) pc = .ok (.invokespecial ix, 3))) (hm : m ≠ 309 ∨ f = 0)
    (hR : d + 10 ≤ R.frames ∧ 100 * d + 200 ≤ R.locals) (hroom : ∀ (h1 : pm_H) (q : Nat) (ls : pm_L) (st : List Value), ih d h1 m q ls st = some o → h1.length + x ≤ R.cells + hb ∧ pm_slt h1 + 6 * x ≤ R.slots + sb)
    (hfill : ∀ z k v r q, f = 6 → st = .int z :: .ref (16 + k) :: r → h[k]? = some (.inl (0, v)) → v.length ≤ 60000 → pm_cat8 r = true → ih d (h.set k (.inl (0, List.replicate v.length (.int z)))) m q ls r = some o → q = pc + 3 → pm_J p l e R s mid args below meth c H locs cells slots Q ad E.2.1 pc ls st)
    (hK : ∀ h1 H1 locs1 cells1 slots1 q ls st, pm_At s D cA A ad m hb sb x h1 H1 locs1 cells1 slots1 → ih d h1 m q ls st = some o → pm_J p l e R s mid args below meth c H1 locs1 cells1 slots1 Q ad E.2.1 q ls st)
    (hr : pm_prim X f (fun h' st' => cond (pm_cat8 st') (pm_fn (pc + 3) fun q => ih d h' m q ls st') none) h st = some o) : pm_J p l e R s mid args below meth c H locs cells slots Q ad E.2.1 pc ls st := by
  obtain ⟨i, hi⟩ := pm_link hg
  have hi : (Nat.ble f 6 && decide (tables_1[i]? = some (.methodLink (pm_nm E.2.2.1) ix (pm_prn f)))) = true := hi
  rw [Bool.and_eq_true, decide_eq_true_eq] at hi
  obtain ⟨hf6, hi⟩ := hi
  obtain ⟨hx, hbc, hml, hown, hw, hCx, hnm, he, hyy, hAs⟩ := id F
  have hlk : (Cond.methodLink (pm_nm E.2.2.1) ix (pm_prn f)).before args s = true := hw _ (pm_W0_at i hi rfl)
  have hini : (Cond.initialized "java/lang/Math").before args s = true := hw _ (pm_W0_of (by decide +kernel) rfl)
  have rooms : ∀ {h1 : pm_H} {q : Nat} {ls : pm_L} {st : List Value}, ih d h1 m q ls st = some o → h1.length = h.length → pm_slt h1 = pm_slt h → cells ≤ R.cells ∧ slots ≤ R.slots := by
    intro h1 q ls st hz e1 e2
    obtain ⟨r1, r2⟩ := hroom _ _ _ _ hz
    have a4 := hA.2.2.2.1
    have a5 := hA.2.2.2.2
    exact ⟨by omega, by omega⟩
  have hK0 : ∀ q ls st, ih d h m q ls st = some o → pm_J p l e R s mid args below meth c H locs cells slots Q ad E.2.1 q ls st := fun q ls st => hK h H locs cells slots q ls st hA
  intro LS hl
  have hls : c.maxLocals = LS.size := hml.trans hl.1.symm
  have hf : f = 0 ∨ f = 1 ∨ f = 2 ∨ f = 3 ∨ f = 4 ∨ f = 5 ∨ f = 6 := by
    have := Nat.le_of_ble_eq_true hf6
    omega
  rcases hf with rfl | rfl | rfl | rfl | rfl | rfl | rfl
  · replace hr : pm_p0 X (fun h' st' => cond (pm_cat8 st') (pm_fn (pc + 3) fun q => ih d h' m q ls st') none) h st = some o := hr
    unfold pm_p0 at hr
    split at hr
    · rename_i z r
      replace hr := pm_cond_true hr
      obtain ⟨hb1, hr⟩ := hr
      rw [pm_fn_eq] at hr
      have h8 := lv_room (m := mid) (pc := pc) (ls := LS) (rest := (Value.ref z :: r).map (pm_rv ad)) (pm_cat8_rv (ad := ad) hb1)
      refine W.objInit hx hbc hown hlk (hw _ (pm_W0_of (by decide +kernel) rfl)) (hw _ (pm_W0_of (by decide +kernel) rfl)) rfl hls.symm rfl (hd1.2 hhow) (by omega) (by omega) (hK0 _ _ _ hr LS hl)
    · cases hr
  · replace hr : pm_p1 X (fun h' st' => cond (pm_cat8 st') (pm_fn (pc + 3) fun q => ih d h' m q ls st') none) h st = some o := hr
    unfold pm_p1 at hr
    split at hr
    · replace hr := pm_cond_true hr
      obtain ⟨hb1, hr⟩ := hr
      rw [pm_fn_eq] at hr
      have h8 := pm_cat8_rv (ad := ad) (pm_cat8_tl hb1)
      obtain ⟨c1, c2⟩ := rooms hr rfl rfl
      exact va_mmax hx hbc hls hown hlk (hw _ (pm_W0_of (by decide +kernel) rfl)) hini (hw _ (pm_W0_of (by decide +kernel) rfl)) (by omega) (by omega) c1 c2 (hd1.1 hhow) (hK0 _ _ _ hr LS hl)
    · cases hr
  · replace hr : pm_p2 X (fun h' st' => cond (pm_cat8 st') (pm_fn (pc + 3) fun q => ih d h' m q ls st') none) h st = some o := hr
    unfold pm_p2 at hr
    split at hr
    · replace hr := pm_cond_true hr
      obtain ⟨hb1, hr⟩ := hr
      rw [pm_fn_eq] at hr
      have h8 := pm_cat8_rv (ad := ad) (pm_cat8_tl hb1)
      obtain ⟨c1, c2⟩ := rooms hr rfl rfl
      exact va_mmin hx hbc hls hown hlk (hw _ (pm_W0_of (by decide +kernel) rfl)) hini (hw _ (pm_W0_of (by decide +kernel) rfl)) (by omega) (by omega) c1 c2 (hd1.1 hhow) (hK0 _ _ _ hr LS hl)
    · cases hr
  · replace hr : pm_p3 X (fun h' st' => cond (pm_cat8 st') (pm_fn (pc + 3) fun q => ih d h' m q ls st') none) h st = some o := hr
    unfold pm_p3 at hr
    split at hr
    · replace hr := pm_cond_true hr
      obtain ⟨hb1, hr⟩ := hr
      rw [pm_fn_eq] at hr
      have h8 := pm_cat8_rv (ad := ad) (pm_cat8_tl hb1)
      obtain ⟨c1, c2⟩ := rooms hr rfl rfl
      exact va_mabs hx hbc hls hown hlk (hw _ (pm_W0_of (by decide +kernel) rfl)) hini (hw _ (pm_W0_of (by decide +kernel) rfl)) (by omega) (by omega) c1 c2 (hd1.1 hhow) (hK0 _ _ _ hr LS hl)
    · cases hr
  · replace hr : pm_p4 X (fun h' st' => cond (pm_cat8 st') (pm_fn (pc + 3) fun q => ih d h' m q ls st') none) h st = some o := hr
    unfold pm_p4 at hr
    split at hr
    · replace hr := pm_cond_true hr
      obtain ⟨hb1, hr⟩ := hr
      rw [pm_fn_eq] at hr
      have h8 := pm_cat8_rv (ad := ad) (pm_cat8_tl hb1)
      obtain ⟨c1, c2⟩ := rooms hr rfl rfl
      exact va_mabs_long hx hbc hls hown hlk (hw _ (pm_W0_of (by decide +kernel) rfl)) hini (hw _ (pm_W0_of (by decide +kernel) rfl)) (by omega) (by omega) c1 c2 (hd1.1 hhow) (hK0 _ _ _ hr LS hl)
    · cases hr
  · have hm := hm.resolve_right (by decide)
    replace hr : pm_p5 X (fun h' st' => cond (pm_cat8 st') (pm_fn (pc + 3) fun q => ih d h' m q ls st') none) h st = some o := hr
    unfold pm_p5 at hr
    split at hr
    · rename_i n dp d0 sp a0 r
      split at hr
      · rename_i t v t' v' hrow hc
        replace hr := pm_cond_true hr
        obtain ⟨hb1, hr⟩ := hr
        replace hr := pm_cond_true hr
        obtain ⟨hb2, hr⟩ := hr
        rw [pm_fn_eq] at hr
        simp only [Bool.and_eq_true, Bool.not_eq_true', decide_eq_false_iff_not] at hb1
        obtain ⟨t1, t2, t3, t4, t5, t6, t7, t8⟩ := hb1
        have t1 := Nat.eq_of_beq_eq_true t1
        have t2 := Nat.eq_of_beq_eq_true t2
        have t3 := Nat.le_of_ble_eq_true t3
        rw [pm_len_eq] at t7 t8
        have t7 := Nat.le_of_ble_eq_true t7
        have t8 := Nat.le_of_ble_eq_true t8
        subst t1; subst t2
        obtain ⟨k1, rfl, e2, hk1⟩ := pm_cell_some hc
        rw [e2, pm_set_eq] at hr
        have h8 := pm_cat8_rv (ad := ad) hb2
        rcases pm_row_own hrow with ⟨q1, -⟩ | ⟨k0, rfl, hk0⟩
        · omega
        · have ha0 := pm_ws_at (ad := ad) (cA := cA) hk0
          have ha1 := pm_ws_at (ad := ad) (cA := cA) hk1
          rw [show pm_re ad cA (.inl (0, v)) = .inl (cA 0, v.length, .inl (fun j => pm_iv (v.getD j .null))) from rfl] at ha0
          rw [show pm_re ad cA (.inl (0, v')) = .inl (cA 0, v'.length, .inl (fun j => pm_iv (v'.getD j .null))) from rfl] at ha1
          refine va_copyi (ty := .int) hx hbc hls hown hlk (hw _ (pm_W0_of (by decide +kernel) rfl)) (hw _ (pm_W0_of (by decide +kernel) rfl)) (hw _ (pm_W0_of (by decide +kernel) rfl)) hCx.1 hA.1.1 hA.1.2.1 (pm_S_self hA.2.1) k0 k1 0 0 ha0 ha1 rfl rfl rfl t6 t5 t4 t7 t8 (fun _ _ => rfl) (by omega) (by show _ + (7 + 11) ≤ _; omega) (hd1.1 hhow) fun H1 locs1 hP1 hD1 hS1 => ?_
          have e3 : (.inl (cA 0, v'.length, .inl (va_cpy (fun j => pm_iv (v.getD j .null)) (fun j => pm_iv (v'.getD j .null)) sp.toNatClampNeg dp.toNatClampNeg n.toNatClampNeg)) : va_E) = pm_re ad cA (.inl (0, pm_cpy v v' sp.toNatClampNeg dp.toNatClampNeg n.toNatClampNeg)) := by
            show _ = Sum.inl (cA 0, (pm_cpy v v' sp.toNatClampNeg dp.toNatClampNeg n.toNatClampNeg).length, pm_ct ad 0 (pm_cpy v v' sp.toNatClampNeg dp.toNatClampNeg n.toNatClampNeg))
            rw [pm_ctI ad _ (by decide) (by decide), pm_cpy_len _ _ _ _ _ t7 t8, pm_cpyF pm_iv _ _ _ _ _ t7 t8]
          rw [e3] at hP1 hD1
          refine pm_up fun hup => ?_
          exact hK _ H1 locs1 _ _ _ _ _ (hA.stored (c' := .inl (0, pm_cpy v v' sp.toNatClampNeg dp.toNatClampNeg n.toNatClampNeg)) hm hk1 (pm_cpy_len _ _ _ _ _ t7 t8) hP1 hD1 hS1 hup) hr LS hl
      · cases hr
    · cases hr
  · replace hr : pm_p6 X (fun h' st' => cond (pm_cat8 st') (pm_fn (pc + 3) fun q => ih d h' m q ls st') none) h st = some o := hr
    unfold pm_p6 at hr
    split at hr
    · rename_i z d0 r
      split at hr
      · rename_i t v hc
        replace hr := pm_cond_true hr
        obtain ⟨hb1, hr⟩ := hr
        replace hr := pm_cond_true hr
        obtain ⟨hb2, hr⟩ := hr
        rw [Bool.and_eq_true, pm_len_eq] at hb1
        obtain ⟨hb1, hb3⟩ := hb1
        have hb1 := Nat.eq_of_beq_eq_true hb1
        subst hb1
        obtain ⟨k1, rfl, e2, hk1⟩ := pm_cell_some hc
        rw [pm_fn_eq, e2, pm_set_eq, pm_rep_eq, pm_len_eq] at hr
        exact hfill z k1 v r _ rfl rfl hk1 (Nat.le_of_ble_eq_true hb3) hb2 hr rfl LS hl
      · cases hr
    · cases hr
end PmP
