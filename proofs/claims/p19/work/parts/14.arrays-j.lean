section
/-! soundness: arrays, new cells, constants -/
theorem pm_ty_at (cA : Nat → ClassId) {t : Nat} (h : pm_okt t = true) : ∃ ty, (pm_tys cA)[t]? = some (cA t, ty) := by
  unfold pm_okt at h
  simp only [Bool.or_eq_true] at h
  rcases h with (h | h) | h
  · have ht := pm_blt h
    match t, ht with
    | 0, _ => exact ⟨_, rfl⟩
    | 1, _ => exact ⟨_, rfl⟩
    | 2, _ => exact ⟨_, rfl⟩
    | 3, _ => exact ⟨_, rfl⟩
    | 4, _ => exact ⟨_, rfl⟩
    | n + 5, q => exact absurd q (by omega)
  · have := Nat.eq_of_beq_eq_true h
    subst this
    exact ⟨_, rfl⟩
  · have := Nat.eq_of_beq_eq_true h
    subst this
    exact ⟨_, rfl⟩
section PmA
variable {p : Program} {l : Launch} {e : Env} {R : Room} {s : State} {mid : MethodId} {args : Array Value} {below : List Frame} {meth : Method} {c : Code} {H : Heap} {locs : List Loc} {cells slots : Nat} {Q : State → Prop}
variable {D : va_G} {cA : Nat → ClassId} {A : Nat → Prop} {ad : Nat → Nat} {X : List (Nat × List Value)} {m : Nat} {E : pm_M} {y : pm_Hd} {hb sb x : Nat} {h : pm_H}
variable {d pc len : Nat} {ls : pm_L} {st : List Value} {ih : pm_I} {o : pm_H × (Option Value ⊕ Unit)}
/-- what is there at the start, seen from here -/
theorem pm_ex_here (F : pm_Fr p s mid args meth c D cA A ad X m E y) (hA : pm_At s D cA A ad m hb sb x h H locs cells slots) {a : Nat} {v : List Value} (ha : a < 16) (hX : X[a]? = some (0, v)) : ∃ cell : Cell, H[ad a]? = some cell ∧ s.isArrayOf cell .int ∧ cell.vm ≠ .unknown ∧ cell.slots.size = v.length ∧ ∀ (j : Nat) (w : Value), v[j]? = some w → cell.slots[j]? = some w := by
  obtain ⟨-, -, -, -, -, hCx, -⟩ := F
  obtain ⟨cell, e1, e2, e3, e4, e5, e6⟩ := hCx.2.2.2.1 a v ha hX
  exact ⟨cell, by rw [hA.2.1.2.1 _ (Array.getElem?_eq_some_iff.mp e1).1 e6]; exact e1, e2, e3, e4, e5⟩
theorem pm_jLen (F : pm_Fr p s mid args meth c D cA A ad X m E y) (hA : pm_At s D cA A ad m hb sb x h H locs cells slots) (hd : decode (pm_byt y.2.1) pc = .ok (.arraylength, 1))
    (hK : ∀ q ls st, ih d h m q ls st = some o → pm_J p l e R s mid args below meth c H locs cells slots Q ad E.2.1 q ls st) (hr : pm_gLen X ih d h m E.2.2.1 pc 1 ls st = some o) : pm_J p l e R s mid args below meth c H locs cells slots Q ad E.2.1 pc ls st := by
  intro LS hl
  unfold pm_gLen at hr
  split at hr
  · rename_i a r
    split at hr
    · rename_i t v hrow
      replace hr := pm_cond_true hr
      obtain ⟨hb1, hr⟩ := hr
      rw [pm_fn_eq, pm_fn_eq, pm_len_eq] at hr
      have hj := hK _ _ _ hr LS hl
      rcases pm_row_own hrow with ⟨ha, hX, rfl⟩ | ⟨k, rfl, hk⟩
      · obtain ⟨cell, e1, e2, e3, e4, -⟩ := pm_ex_here F hA ha hX
        obtain ⟨hx, hbc, -⟩ := F
        exact W.alen (n := Int32.ofNat v.length) hx hbc e1 e2 (by rw [e4] <;> rfl) rfl rfl hd hj
      · obtain ⟨ty, hty⟩ := pm_ty_at cA hb1
        obtain ⟨hx, hbc, hml, hown, hw, hCx, -⟩ := F
        exact va_alen (v := Int32.ofNat v.length) hx hbc hCx.1 hA.1.1 k t (pm_ws_at hk) hty rfl hd hj
    · cases hr
  · cases hr
theorem pm_not_neg {j : Int32} (h : decide (j < 0) = false) : ¬ j < 0 := of_decide_eq_false h
theorem pm_vin {j : Int32} {v : List Value} {w : Value} (h0 : ¬ j < 0) (h : v[j.toNatClampNeg]? = some w) : vp_in j v.length := by
  have := pm_len_lt h
  rintro (q | q)
  · exact h0 q
  · omega
/-- an int out of an own row of numbers, by the row of its type -/
theorem pm_jIald {t t' : Nat} (F : pm_Fr p s mid args meth c D cA A ad X m E y) (hA : pm_At s D cA A ad m hb sb x h H locs cells slots)
    (row : ∀ (u k : Nat) (v : List Value) (j : Int32) (LS : Array Slot) (rest : List Value), (u = t ∨ u = t') → h[k]? = some (.inl (u, v)) → vp_in j v.length → W p l e R s mid args below meth c H locs cells slots Q (F0 mid (pc + 1) LS (.int (pm_iv (v.getD j.toNatClampNeg .null)) :: rest)) → W p l e R s mid args below meth c H locs cells slots Q (F0 mid pc LS (.int j :: .ref (ad (16 + k)) :: rest)))
    (hd : (t = 0 ∨ t' = 0) → decode (pm_byt y.2.1) pc = .ok (.iaload, 1))
    (hK : ∀ q ls st, ih d h m q ls st = some o → pm_J p l e R s mid args below meth c H locs cells slots Q ad E.2.1 q ls st) (hr : pm_gAld X t t' ih d h m E.2.2.1 pc 1 ls st = some o) : pm_J p l e R s mid args below meth c H locs cells slots Q ad E.2.1 pc ls st := by
  intro LS hl
  unfold pm_gAld at hr
  split at hr
  · rename_i j a r
    split at hr
    · rename_i u v hrow
      replace hr := pm_cond_true hr
      obtain ⟨hb1, hr⟩ := hr
      replace hr := pm_cond_false hr
      obtain ⟨hb2, hr⟩ := hr
      have h0 := pm_not_neg hb2
      have hu : u = t ∨ u = t' := by
        simp only [Bool.or_eq_true] at hb1
        rcases hb1 with q | q
        · exact Or.inl (Nat.eq_of_beq_eq_true q)
        · exact Or.inr (Nat.eq_of_beq_eq_true q)
      split at hr
      · rename_i z hz
        rw [pm_fn_eq] at hr
        rw [pm_nth_eq] at hz
        have hj := hK _ _ _ hr LS hl
        rcases pm_row_own hrow with ⟨ha, hX, rfl⟩ | ⟨k, rfl, hk⟩
        · obtain ⟨cell, e1, e2, e3, e4, e5⟩ := pm_ex_here F hA ha hX
          obtain ⟨hx, hbc, -⟩ := F
          exact W.iald (v := .int z) hx hbc e1 e2 e3 (by rw [e4]; exact pm_vin h0 hz) (e5 _ _ hz) rfl rfl (hd (hu.elim (fun q => Or.inl q.symm) (fun q => Or.inr q.symm))) hj
        · refine row u k v j LS _ hu hk (pm_vin h0 hz) ?_
          rw [pm_getI hz]
          exact hj
      · cases hr
    · cases hr
  · cases hr
theorem pm_rowI (F : pm_Fr p s mid args meth c D cA A ad X m E y) (hA : pm_At s D cA A ad m hb sb x h H locs cells slots) (hd : decode (pm_byt y.2.1) pc = .ok (.iaload, 1)) (u k : Nat) (v : List Value) (j : Int32) (LS : Array Slot) (rest : List Value) (hu : u = 0 ∨ u = 0) (hk : h[k]? = some (.inl (u, v))) (hin : vp_in j v.length) (kk : W p l e R s mid args below meth c H locs cells slots Q (F0 mid (pc + 1) LS (.int (pm_iv (v.getD j.toNatClampNeg .null)) :: rest))) : W p l e R s mid args below meth c H locs cells slots Q (F0 mid pc LS (.int j :: .ref (ad (16 + k)) :: rest)) := by
  have e0 : u = 0 := hu.elim id id
  subst e0
  obtain ⟨hx, hbc, hml, hown, hw, hCx, -⟩ := F
  have ha := pm_ws_at (ad := ad) (cA := cA) hk
  rw [show pm_re ad cA (.inl (0, v)) = .inl (cA 0, v.length, .inl (fun j => pm_iv (v.getD j .null))) from rfl] at ha
  exact va_iald hx hbc hCx.1 hA.1.1 k 0 ha rfl hin hd kk
theorem pm_rowB (F : pm_Fr p s mid args meth c D cA A ad X m E y) (hA : pm_At s D cA A ad m hb sb x h H locs cells slots) (hd : decode (pm_byt y.2.1) pc = .ok (.baload, 1)) (u k : Nat) (v : List Value) (j : Int32) (LS : Array Slot) (rest : List Value) (hu : u = 1 ∨ u = 4) (hk : h[k]? = some (.inl (u, v))) (hin : vp_in j v.length) (kk : W p l e R s mid args below meth c H locs cells slots Q (F0 mid (pc + 1) LS (.int (pm_iv (v.getD j.toNatClampNeg .null)) :: rest))) : W p l e R s mid args below meth c H locs cells slots Q (F0 mid pc LS (.int j :: .ref (ad (16 + k)) :: rest)) := by
  obtain ⟨hx, hbc, hml, hown, hw, hCx, -⟩ := F
  have ha := pm_ws_at (ad := ad) (cA := cA) hk
  rcases hu with rfl | rfl
  · rw [show pm_re ad cA (.inl (1, v)) = .inl (cA 1, v.length, .inl (fun j => pm_iv (v.getD j .null))) from rfl] at ha
    exact va_zald hx hbc hCx.1 hA.1.1 k 1 ha rfl hin hd kk
  · rw [show pm_re ad cA (.inl (4, v)) = .inl (cA 4, v.length, .inl (fun j => pm_iv (v.getD j .null))) from rfl] at ha
    exact va_bald hx hbc hCx.1 hA.1.1 k 4 ha rfl hin hd kk
theorem pm_rowC (F : pm_Fr p s mid args meth c D cA A ad X m E y) (hA : pm_At s D cA A ad m hb sb x h H locs cells slots) (hd : decode (pm_byt y.2.1) pc = .ok (.caload, 1)) (u k : Nat) (v : List Value) (j : Int32) (LS : Array Slot) (rest : List Value) (hu : u = 2 ∨ u = 2) (hk : h[k]? = some (.inl (u, v))) (hin : vp_in j v.length) (kk : W p l e R s mid args below meth c H locs cells slots Q (F0 mid (pc + 1) LS (.int (pm_iv (v.getD j.toNatClampNeg .null)) :: rest))) : W p l e R s mid args below meth c H locs cells slots Q (F0 mid pc LS (.int j :: .ref (ad (16 + k)) :: rest)) := by
  have e0 : u = 2 := hu.elim id id
  subst e0
  obtain ⟨hx, hbc, hml, hown, hw, hCx, -⟩ := F
  have ha := pm_ws_at (ad := ad) (cA := cA) hk
  rw [show pm_re ad cA (.inl (2, v)) = .inl (cA 2, v.length, .inl (fun j => pm_iv (v.getD j .null))) from rfl] at ha
  exact va_cald hx hbc hCx.1 hA.1.1 k 2 ha rfl hin hd kk
theorem pm_jLald (F : pm_Fr p s mid args meth c D cA A ad X m E y) (hA : pm_At s D cA A ad m hb sb x h H locs cells slots) (hd : decode (pm_byt y.2.1) pc = .ok (.laload, 1))
    (hK : ∀ q ls st, ih d h m q ls st = some o → pm_J p l e R s mid args below meth c H locs cells slots Q ad E.2.1 q ls st) (hr : pm_gLald X ih d h m E.2.2.1 pc 1 ls st = some o) : pm_J p l e R s mid args below meth c H locs cells slots Q ad E.2.1 pc ls st := by
  intro LS hl
  unfold pm_gLald at hr
  split at hr
  · rename_i j a r
    split at hr
    · rename_i u v hrow
      replace hr := pm_cond_true hr
      obtain ⟨hb1, hr⟩ := hr
      replace hr := pm_cond_false hr
      obtain ⟨hb2, hr⟩ := hr
      have h0 := pm_not_neg hb2
      have hu : u = 3 := Nat.eq_of_beq_eq_true hb1
      subst hu
      split at hr
      · rename_i z hz
        rw [pm_fn_eq] at hr
        rw [pm_nth_eq] at hz
        have hj := hK _ _ _ hr LS hl
        rcases pm_row_own hrow with ⟨ha, hX, q⟩ | ⟨k, rfl, hk⟩
        · cases q
        · obtain ⟨hx, hbc, hml, hown, hw, hCx, -⟩ := F
          have ha := pm_ws_at (ad := ad) (cA := cA) hk
          rw [show pm_re ad cA (.inl (3, v)) = .inl (cA 3, v.length, .inr (.inl (fun j => pm_gv (v.getD j .null)))) from rfl] at ha
          refine va_lald hx hbc hCx.1 hA.1.1 k 3 ha rfl (pm_vin h0 hz) hd ?_
          show W p l e R s mid args below meth c H locs cells slots Q (F0 mid (pc + 1) LS (.long (pm_gv (v.getD j.toNatClampNeg .null)) :: _))
          rw [pm_getL hz]
          exact hj
      · cases hr
    · cases hr
  · cases hr
theorem pm_jAald (F : pm_Fr p s mid args meth c D cA A ad X m E y) (hA : pm_At s D cA A ad m hb sb x h H locs cells slots) (hd : decode (pm_byt y.2.1) pc = .ok (.aaload, 1))
    (hK : ∀ q ls st, ih d h m q ls st = some o → pm_J p l e R s mid args below meth c H locs cells slots Q ad E.2.1 q ls st) (hr : pm_gAald ih d h m E.2.2.1 pc 1 ls st = some o) : pm_J p l e R s mid args below meth c H locs cells slots Q ad E.2.1 pc ls st := by
  intro LS hl
  unfold pm_gAald at hr
  split at hr
  · rename_i j a r
    split at hr
    · rename_i t v hc
      replace hr := pm_cond_true hr
      obtain ⟨hb1, hr⟩ := hr
      replace hr := pm_cond_false hr
      obtain ⟨hb2, hr⟩ := hr
      have h0 := pm_not_neg hb2
      split at hr
      · rename_i z hz
        rw [pm_fn_eq] at hr
        rw [pm_nth_eq] at hz
        have hj := hK _ _ _ hr LS hl
        obtain ⟨k, rfl, -, hk⟩ := pm_cell_some hc
        obtain ⟨hx, hbc, hml, hown, hw, hCx, -⟩ := F
        have ha := pm_ws_at (ad := ad) (cA := cA) hk
        simp only [Bool.or_eq_true] at hb1
        have hgo : va_rf (pm_qv ad (v.getD j.toNatClampNeg .null)) = .ref (ad z) := by rw [pm_getQ hz]; rfl
        rcases hb1 with q | q
        · have e8 := Nat.eq_of_beq_eq_true q
          subst e8
          rw [show pm_re ad cA (.inl (8, v)) = .inl (cA 8, v.length, .inr (.inr (.inr (.inr (fun j => pm_qv ad (v.getD j .null)))))) from rfl] at ha
          refine va_aldq (C := RX3) hx hbc hCx.1 hA.1.1 k 8 ha rfl (pm_vin h0 hz) hd ?_
          show W p l e R s mid args below meth c H locs cells slots Q (F0 mid (pc + 1) LS (va_rf (pm_qv ad (v.getD j.toNatClampNeg .null)) :: _))
          rw [hgo]
          exact hj
        · have e12 := Nat.eq_of_beq_eq_true q
          subst e12
          rw [show pm_re ad cA (.inl (12, v)) = .inl (cA 12, v.length, .inr (.inr (.inr (.inr (fun j => pm_qv ad (v.getD j .null)))))) from rfl] at ha
          refine va_aldq (C := RX7) hx hbc hCx.1 hA.1.1 k 12 ha rfl (pm_vin h0 hz) hd ?_
          show W p l e R s mid args below meth c H locs cells slots Q (F0 mid (pc + 1) LS (va_rf (pm_qv ad (v.getD j.toNatClampNeg .null)) :: _))
          rw [hgo]
          exact hj
      · cases hr
    · cases hr
  · cases hr
/-- a store of an int, by the row of its type -/
theorem pm_jIast {t : Nat} {f : Int32 → Int32} (hA : pm_At s D cA A ad m hb sb x h H locs cells slots) (hm : m ≠ 309) (ht3 : t ≠ 3) (ht5 : t < 5)
    (row : ∀ (k : Nat) (v : List Value) (j z : Int32) (LS : Array Slot) (rest : List Value), h[k]? = some (.inl (t, v)) → vp_in j v.length → (∀ (H1 : Heap) (locs1 : List Loc), va_P D vwCl ((pm_ws ad cA h).set k (ad (16 + k), .inl (cA t, v.length, .inl (upd (fun j => pm_iv (v.getD j .null)) j.toNatClampNeg (f z))))) H1 → va_D A ((pm_ws ad cA h).set k (ad (16 + k), .inl (cA t, v.length, .inl (upd (fun j => pm_iv (v.getD j .null)) j.toNatClampNeg (f z))))) → va_S A H H1 locs1 → W p l e R s mid args below meth c H1 locs1 cells slots Q (F0 mid (pc + 1) LS rest)) → W p l e R s mid args below meth c H locs cells slots Q (F0 mid pc LS (.int z :: .int j :: .ref (ad (16 + k)) :: rest)))
    (hK : ∀ h1 H1 locs1 q ls st, pm_At s D cA A ad m hb sb x h1 H1 locs1 cells slots → ih d h1 m q ls st = some o → pm_J p l e R s mid args below meth c H1 locs1 cells slots Q ad E.2.1 q ls st) (hr : pm_gIst t f ih d h m E.2.2.1 pc 1 ls st = some o) : pm_J p l e R s mid args below meth c H locs cells slots Q ad E.2.1 pc ls st := by
  intro LS hl
  unfold pm_gIst at hr
  split at hr
  · rename_i z j a r
    split at hr
    · rename_i u v hc
      replace hr := pm_cond_true hr
      obtain ⟨hb1, hr⟩ := hr
      replace hr := pm_cond_true hr
      obtain ⟨hb2, hr⟩ := hr
      have hu := Nat.eq_of_beq_eq_true hb1
      subst hu
      rw [pm_len_eq] at hb2
      obtain ⟨k, rfl, e2, hk⟩ := pm_cell_some hc
      rw [pm_fi_eq, pm_fn_eq, e2, pm_set_eq, pm_set_eq] at hr
      refine row k v j z LS _ hk (pm_in_of hb2) fun H1 locs1 hP1 hD1 hS1 => ?_
      have e3 : (.inl (cA u, v.length, .inl (upd (fun j => pm_iv (v.getD j .null)) j.toNatClampNeg (f z))) : va_E) = pm_re ad cA (.inl (u, v.set j.toNatClampNeg (.int (f z)))) := by
        show _ = Sum.inl (cA u, (v.set j.toNatClampNeg (.int (f z))).length, pm_ct ad u (v.set j.toNatClampNeg (.int (f z))))
        rw [pm_ctI ad _ ht3 ht5, List.length_set, pm_upI v _ _ (pm_in_lt hb2)]
      rw [e3] at hP1 hD1
      refine pm_up fun hup => ?_
      exact hK _ H1 locs1 _ _ _ (hA.stored hm hk (by show (v.set j.toNatClampNeg (.int (f z))).length = v.length; simp) hP1 hD1 hS1 hup) hr LS hl
    · cases hr
  · cases hr
theorem pm_jLast (F : pm_Fr p s mid args meth c D cA A ad X m E y) (hA : pm_At s D cA A ad m hb sb x h H locs cells slots) (hm : m ≠ 309) (hd : decode (pm_byt y.2.1) pc = .ok (.lastore, 1))
    (hK : ∀ h1 H1 locs1 q ls st, pm_At s D cA A ad m hb sb x h1 H1 locs1 cells slots → ih d h1 m q ls st = some o → pm_J p l e R s mid args below meth c H1 locs1 cells slots Q ad E.2.1 q ls st) (hr : pm_gLst ih d h m E.2.2.1 pc 1 ls st = some o) : pm_J p l e R s mid args below meth c H locs cells slots Q ad E.2.1 pc ls st := by
  intro LS hl
  unfold pm_gLst at hr
  split at hr
  · rename_i z j a r
    split at hr
    · rename_i u v hc
      replace hr := pm_cond_true hr
      obtain ⟨hb1, hr⟩ := hr
      replace hr := pm_cond_true hr
      obtain ⟨hb2, hr⟩ := hr
      have hu := Nat.eq_of_beq_eq_true hb1
      subst hu
      rw [pm_len_eq] at hb2
      obtain ⟨k, rfl, e2, hk⟩ := pm_cell_some hc
      rw [pm_fl_eq, pm_fn_eq, e2, pm_set_eq, pm_set_eq] at hr
      obtain ⟨hx, hbc, hml, hown, hw, hCx, -⟩ := F
      have ha := pm_ws_at (ad := ad) (cA := cA) hk
      rw [show pm_re ad cA (.inl (3, v)) = .inl (cA 3, v.length, .inr (.inl (fun j => pm_gv (v.getD j .null)))) from rfl] at ha
      refine va_last hx hbc hCx.1 hA.1.1 hA.1.2.1 (pm_S_self hA.2.1) k 3 ha rfl (pm_in_of hb2) hd fun H1 locs1 hP1 hD1 hS1 => ?_
      have e3 : (.inl (cA 3, v.length, .inr (.inl (vp_updL (fun j => pm_gv (v.getD j .null)) j.toNatClampNeg z))) : va_E) = pm_re ad cA (.inl (3, v.set j.toNatClampNeg (.long z))) := by
        show _ = Sum.inl (cA 3, (v.set j.toNatClampNeg (.long z)).length, pm_ct ad 3 (v.set j.toNatClampNeg (.long z)))
        rw [pm_ct3, List.length_set, pm_upL v _ _ (pm_in_lt hb2)]
      rw [e3] at hP1 hD1
      refine pm_up fun hup => ?_
      exact hK _ H1 locs1 _ _ _ (hA.stored hm hk (by show (v.set j.toNatClampNeg (.long z)).length = v.length; simp) hP1 hD1 hS1 hup) hr LS hl
    · cases hr
  · cases hr
theorem pm_jAast (F : pm_Fr p s mid args meth c D cA A ad X m E y) (hA : pm_At s D cA A ad m hb sb x h H locs cells slots) (hm : m ≠ 309) (hd : decode (pm_byt y.2.1) pc = .ok (.aastore, 1))
    (hK : ∀ h1 H1 locs1 q ls st, pm_At s D cA A ad m hb sb x h1 H1 locs1 cells slots → ih d h1 m q ls st = some o → pm_J p l e R s mid args below meth c H1 locs1 cells slots Q ad E.2.1 q ls st) (hr : pm_gAst ih d h m E.2.2.1 pc 1 ls st = some o) : pm_J p l e R s mid args below meth c H locs cells slots Q ad E.2.1 pc ls st := by
  intro LS hl
  unfold pm_gAst at hr
  split at hr
  · rename_i z j a r
    split at hr
    · rename_i t v ci fs hc hcz
      replace hr := pm_cond_true hr
      obtain ⟨hb1, hr⟩ := hr
      replace hr := pm_cond_true hr
      obtain ⟨hb2, hr⟩ := hr
      rw [pm_len_eq] at hb1
      obtain ⟨k, rfl, e2, hk⟩ := pm_cell_some hc
      obtain ⟨k2, rfl, -, hk2⟩ := pm_cell_some hcz
      rw [pm_fn_eq, e2, pm_set_eq, pm_set_eq] at hr
      obtain ⟨hx, hbc, hml, hown, hw, hCx, -⟩ := F
      have ha := pm_ws_at (ad := ad) (cA := cA) hk
      have hv := pm_ws_at (ad := ad) (cA := cA) hk2
      rw [Bool.and_eq_true, Bool.or_eq_true] at hb2
      have h5 : 5 ≤ t := by have := Nat.eq_of_beq_eq_true hb2.1; omega
      have e0 : pm_re ad cA (.inl (t, v)) = .inl (cA t, v.length, .inr (.inr (.inr (.inr (fun j => pm_qv ad (v.getD j .null)))))) := by
        show Sum.inl (cA t, v.length, pm_ct ad t v) = _
        rw [pm_ctQ ad v h5]
      rw [e0] at ha
      have hgo : ∀ (H1 : Heap) (locs1 : List Loc), va_P D vwCl ((pm_ws ad cA h).set k (ad (16 + k), .inl (cA t, v.length, .inr (.inr (.inr (.inr (va_up (fun j => pm_qv ad (v.getD j .null)) j.toNatClampNeg (some (ad (16 + k2)))))))))) H1 → va_D A ((pm_ws ad cA h).set k (ad (16 + k), .inl (cA t, v.length, .inr (.inr (.inr (.inr (va_up (fun j => pm_qv ad (v.getD j .null)) j.toNatClampNeg (some (ad (16 + k2)))))))))) → va_S A H H1 locs1 → W p l e R s mid args below meth c H1 locs1 cells slots Q (F0 mid (pc + 1) LS (r.map (pm_rv ad))) := by
        intro H1 locs1 hP1 hD1 hS1
        have e3 : (.inl (cA t, v.length, .inr (.inr (.inr (.inr (va_up (fun j => pm_qv ad (v.getD j .null)) j.toNatClampNeg (some (ad (16 + k2)))))))) : va_E) = pm_re ad cA (.inl (t, v.set j.toNatClampNeg (.ref (16 + k2)))) := by
          show _ = Sum.inl (cA t, (v.set j.toNatClampNeg (.ref (16 + k2))).length, pm_ct ad t (v.set j.toNatClampNeg (.ref (16 + k2))))
          rw [pm_ctQ ad _ h5, List.length_set, pm_upQ ad v _ _ (pm_in_lt hb1)]
        rw [e3] at hP1 hD1
        refine pm_up fun hup => ?_
        exact hK _ H1 locs1 _ _ _ (hA.stored hm hk (by show (v.set j.toNatClampNeg (.ref (16 + k2))).length = v.length; simp) hP1 hD1 hS1 hup) hr LS hl
      obtain ⟨q1, q2⟩ := hb2
      have e5 := Nat.eq_of_beq_eq_true q1
      rcases q2 with q2 | q2
      · have e8 := Nat.eq_of_beq_eq_true q2
        have e9 : ci = 3 := by omega
        subst e8; subst e9
        exact va_astq (r := (RX3, TX3, 4)) hx hbc hCx.1 hA.1.1 hA.1.2.1 (pm_S_self hA.2.1) k 8 k2 3 ha rfl hv rfl (pm_in_of hb1) hd hgo
      · have e8 := Nat.eq_of_beq_eq_true q2
        have e9 : ci = 7 := by omega
        subst e8; subst e9
        exact va_astq (r := (RX7, TX7, 7)) hx hbc hCx.1 hA.1.1 hA.1.2.1 (pm_S_self hA.2.1) k 12 k2 7 ha rfl hv rfl (pm_in_of hb1) hd hgo
    · cases hr
  · cases hr
end PmA
end
section
/-! soundness: new cells, constants, what is called by its meaning -/
section PmN
variable {p : Program} {l : Launch} {e : Env} {R : Room} {s : State} {mid : MethodId} {args : Array Value} {below : List Frame} {meth : Method} {c : Code} {H : Heap} {locs : List Loc} {cells slots : Nat} {Q : State → Prop}
variable {D : va_G} {cA : Nat → ClassId} {A : Nat → Prop} {ad : Nat → Nat} {X : List (Nat × List Value)} {m : Nat} {E : pm_M} {y : pm_Hd} {hb sb x : Nat} {h : pm_H}
variable {d pc len : Nat} {ls : pm_L} {st : List Value} {ih : pm_I} {o : pm_H × (Option Value ⊕ Unit)}
/-- fields of a new object -/
def pm_X0 (X : List (Nat × List Value)) : Prop := ∀ (ci : Nat) (C : String) (T : u_T) (N z : Nat) (fs : List Value), vwCl[ci]? = some (C, T, N) → X[16 + ci]? = some (z, fs) → fs.length = N ∧ (∀ (k : Nat) (ty : FieldType), k < N → parseFieldDescriptor (T k).2.2.1 = some ty → fs[k]? = some (defaultValue ty))
theorem pm_default_rv (ty : FieldType) : pm_rv ad (defaultValue ty) = defaultValue ty := by cases ty <;> rfl
theorem pm_jNew {ix : Nat} (F : pm_Fr p s mid args meth c D cA A ad X m E y) (hX : pm_X0 X) (hA : pm_At s D cA A ad m hb sb x h H locs cells slots) (hd : decode (pm_byt y.2.1) pc = .ok (.new ix, 3))
    (hroom : ∀ (h1 : pm_H) (q : Nat) (ls : pm_L) (st : List Value), ih d h1 m q ls st = some o → h1.length + x ≤ R.cells + hb ∧ pm_slt h1 + 6 * x ≤ R.slots + sb)
    (hthr : ∀ b z w, pm_get (pm_lnk E.2.2.1) ix = some (13, b, z, w) → pm_scH h = true → st = [] → o = (h, .inr ()) → pm_J p l e R s mid args below meth c H locs cells slots Q ad E.2.1 pc ls st)
    (hK : ∀ h1 H1 cells1 slots1 q ls st, pm_At s D cA A ad m hb sb x h1 H1 locs cells1 slots1 → ih d h1 m q ls st = some o → pm_J p l e R s mid args below meth c H1 locs cells1 slots1 Q ad E.2.1 q ls st) (hr : pm_gNew X ix ih d h m E.2.2.1 pc 3 ls st = some o) : pm_J p l e R s mid args below meth c H locs cells slots Q ad E.2.1 pc ls st := by
  unfold pm_gNew at hr
  split at hr
  · rename_i ci n w hg
    split at hr
    · rename_i z fs hz
      replace hr := pm_cond_true hr
      obtain ⟨hb1, hr⟩ := hr
      rw [pm_nth_eq] at hz
      rw [pm_fn_eq, pm_fn_eq, pm_len_eq] at hr
      rw [pm_len_eq] at hb1
      obtain ⟨i, hi⟩ := pm_link hg
      have hi : (match vwCl[ci]? with
        | some r => decide (tables_1[i]? = some (.classLink (pm_nm E.2.2.1) ix r.1)) && Nat.beq n r.2.2
        | none => false) = true := hi
      split at hi
      · rename_i r hr1
        obtain ⟨C, T, N⟩ := r
        simp only [Bool.and_eq_true, decide_eq_true_eq] at hi
        obtain ⟨hi1, hi2⟩ := hi
        obtain ⟨x1, x2⟩ := hX ci C T N z fs hr1 hz
        obtain ⟨g1, ⟨ty0, g2⟩, g3, g4, g5⟩ := pm_cls hr1
        obtain ⟨hx, hbc, hml, hown, hw, hCx, hnm, he, hy, hAs⟩ := F
        have hKn := hCx.1.1 ci _ hr1
        obtain ⟨rm1, rm2⟩ := hroom _ _ _ _ hr
        rw [List.length_append] at rm1
        rw [pm_slt_push] at rm2
        have hsz : pm_sz (.inr (ci, fs)) = N := x1
        rw [hsz] at rm2
        have c1 : cells + 1 ≤ R.cells := by have := hA.2.2.2.1; simp at rm1; omega
        have c2 : slots + N ≤ R.slots := by have := hA.2.2.2.2; omega
        intro LS hl
        refine W.newcK (C := C) (n := N) hx hbc hown (hw _ (pm_W0_at i hi1 rfl)) (hw _ g4) (hw _ g5) rfl hd c1 c2 hKn.2.1 rfl fun H1 kC hkC e1 z1 o1 => ?_
        have hat : va_at D vwCl (H.size, pm_re ad cA (.inr (ci, fs))) H1 := by
          refine ⟨(C, T, N), hr1, (u_born ty0 hw g1 hKn hkC e1 g2).to fun j hj => ?_⟩
          have h5 := x2 j (ty0 j) hj (g2 j hj)
          show defaultValue (ty0 j) = vp_V (fs.map (pm_rv ad)) j
          unfold vp_V
          rw [List.getD_eq_getElem?_getD, List.getElem?_map, h5]
          exact (pm_default_rv _).symm
        have hA1 := hA.made (c := .inr (ci, fs)) hAs z1 o1 hat
        rw [hsz] at hA1
        have hj := hK _ H1 _ _ _ _ _ hA1 hr LS hl
        have ha : ad (16 + h.length) = H.size := hA.1.2.2 0
        have e9 : ((Value.ref (16 + h.length) :: st).map (pm_rv ad)) = .ref H.size :: st.map (pm_rv ad) := by
          rw [List.map_cons]
          show Value.ref (ad (16 + h.length)) :: _ = _
          rw [ha]
        rw [e9] at hj
        exact hj
      · cases hi
    · cases hr
  · rename_i b z w hg
    replace hr := pm_cond_true hr
    obtain ⟨hb1, hr⟩ := hr
    rw [Bool.and_eq_true, pm_len_eq] at hb1
    exact hthr b z w hg hb1.1 (List.length_eq_zero_iff.mp (Nat.eq_of_beq_eq_true hb1.2)) (Option.some.inj hr).symm
  · cases hr
theorem pm_jNwa {t : ArrayType} (F : pm_Fr p s mid args meth c D cA A ad X m E y) (hA : pm_At s D cA A ad m hb sb x h H locs cells slots) (hd : decode (pm_byt y.2.1) pc = .ok (.newarray t, 2))
    (hroom : ∀ (h1 : pm_H) (q : Nat) (ls : pm_L) (st : List Value), ih d h1 m q ls st = some o → h1.length + x ≤ R.cells + hb ∧ pm_slt h1 + 6 * x ≤ R.slots + sb)
    (hK : ∀ h1 H1 cells1 slots1 q ls st, pm_At s D cA A ad m hb sb x h1 H1 locs cells1 slots1 → ih d h1 m q ls st = some o → pm_J p l e R s mid args below meth c H1 locs cells1 slots1 Q ad E.2.1 q ls st) (hr : pm_gNwa t ih d h m E.2.2.1 pc 2 ls st = some o) : pm_J p l e R s mid args below meth c H locs cells slots Q ad E.2.1 pc ls st := by
  intro LS hl
  unfold pm_gNwa at hr
  split at hr
  · rename_i n r
    replace hr := pm_cond_false hr
    obtain ⟨hb1, hr⟩ := hr
    replace hr := pm_cond_true hr
    obtain ⟨hb2, hr⟩ := hr
    replace hr := pm_cond_true hr
    obtain ⟨hb3, hr⟩ := hr
    rw [pm_fn_eq, pm_fn_eq, pm_len_eq, pm_rep_eq] at hr
    have h0 := pm_not_neg hb1
    have h6 : n.toNatClampNeg ≤ 60000 := Nat.le_of_ble_eq_true hb2
    obtain ⟨rm1, rm2⟩ := hroom _ _ _ _ hr
    rw [List.length_append] at rm1
    rw [pm_slt_push] at rm2
    have hsz : pm_sz (.inl ((pm_tc t).1, List.replicate n.toNatClampNeg (pm_tc t).2)) = n.toNatClampNeg := List.length_replicate
    rw [hsz] at rm2
    have c1 : cells + 1 ≤ R.cells := by have := hA.2.2.2.1; simp at rm1; omega
    have c2 : slots + n.toNatClampNeg ≤ R.slots := by have := hA.2.2.2.2; omega
    obtain ⟨hx, hbc, hml, hown, hw, hCx, hnm, he, hy, hAs⟩ := F
    have key : ∀ (ty : FieldType), newarray.typeOf t = ty → (Cond.arrayClass ty).before args s = true → (pm_tys cA)[(pm_tc t).1]? = some (cA (pm_tc t).1, ty) → componentBytes ty ≤ 8 → (∀ cI : ClassId, cI = cA (pm_tc t).1 → va_at D vwCl (H.size, pm_re ad cA (.inl ((pm_tc t).1, List.replicate n.toNatClampNeg (pm_tc t).2))) (H.push (arrV cI n.toNatClampNeg (fun _ => defaultValue ty)))) → (∀ cI, va_RA s cI ty = (s.vm.findClass ("[" ++ ty.toString) = some cI)) → W p l e R s mid args below meth c H locs cells slots Q (F0 mid pc LS ((Value.int n :: r).map (pm_rv ad))) := by
      intro ty hty har htt hcb hat hra
      refine va_newaK (atype := t) hx hbc (by rw [hty]; exact har) rfl hd rfl h0 rfl (by rw [hty]; calc n.toNatClampNeg * componentBytes ty ≤ 60000 * 8 := Nat.mul_le_mul h6 hcb
        _ ≤ 536870912 := by decide) c1 c2 rfl fun H1 cI e1 z1 o1 hAr hNm => ?_
      rw [hty] at e1 hNm
      have hra2 := (hCx.1.2 _ _ htt).2
      rw [hra] at hra2
      have hcI : cI = cA (pm_tc t).1 := Option.some.inj (hNm.symm.trans hra2)
      have hat1 : va_at D vwCl (H.size, pm_re ad cA (.inl ((pm_tc t).1, List.replicate n.toNatClampNeg (pm_tc t).2))) H1 := by
        have h5 := hat cI hcI
        refine h5.kept ?_
        show H1[H.size]? = (H.push _)[H.size]?
        rw [e1, Array.getElem?_push_size]
      have hA1 := hA.made (c := .inl ((pm_tc t).1, List.replicate n.toNatClampNeg (pm_tc t).2)) hAs z1 o1 hat1
      rw [hsz] at hA1
      have hj := hK _ H1 _ _ _ _ _ hA1 hr LS hl
      have ha : ad (16 + h.length) = H.size := hA.1.2.2 0
      have e9 : ((Value.ref (16 + h.length) :: r).map (pm_rv ad)) = .ref H.size :: r.map (pm_rv ad) := by
        rw [List.map_cons]
        show Value.ref (ad (16 + h.length)) :: _ = _
        rw [ha]
      rw [e9] at hj
      exact hj
    have gI : ∀ (z : Nat) (j : Nat), pm_iv ((List.replicate z (Value.int 0)).getD j .null) = 0 := by
      intro z j
      rw [List.getD_eq_getElem?_getD, List.getElem?_replicate]
      split <;> rfl
    have gL : ∀ (z : Nat) (j : Nat), pm_gv ((List.replicate z (Value.long 0)).getD j .null) = 0 := by
      intro z j
      rw [List.getD_eq_getElem?_getD, List.getElem?_replicate]
      split <;> rfl
    have atI : ∀ (u : Nat) (cI : ClassId) (v : FieldType), u ≠ 3 → u < 5 → defaultValue v = .int 0 → cI = cA u → va_at D vwCl (H.size, pm_re ad cA (.inl (u, List.replicate n.toNatClampNeg (.int 0)))) (H.push (arrV cI n.toNatClampNeg (fun _ => defaultValue v))) := by
      intro u cI v hu3 hu5 hv hc
      show (H.push _)[H.size]? = some (vp_cell (cA u) ((List.replicate n.toNatClampNeg (Value.int 0)).length, pm_ct ad u (List.replicate n.toNatClampNeg (Value.int 0))))
      rw [pm_ctI ad _ hu3 hu5, List.length_replicate, Array.getElem?_push_size, hc, hv, vp_cell_i]
      congr 3
      funext j
      rw [gI]
    cases t with
    | int => exact key .int rfl (hw _ (pm_W0_of (by decide +kernel) rfl)) rfl (by decide) (fun cI hc => atI 0 cI .int (by decide) (by decide) rfl hc) (fun _ => rfl)
    | boolean => exact key .boolean rfl (hw _ (pm_W0_of (by decide +kernel) rfl)) rfl (by decide) (fun cI hc => atI 1 cI .boolean (by decide) (by decide) rfl hc) (fun _ => rfl)
    | char => exact key .char rfl (hw _ (pm_W0_of (by decide +kernel) rfl)) rfl (by decide) (fun cI hc => atI 2 cI .char (by decide) (by decide) rfl hc) (fun _ => rfl)
    | byte => exact key .byte rfl (hw _ (pm_W0_of (by decide +kernel) rfl)) rfl (by decide) (fun cI hc => atI 4 cI .byte (by decide) (by decide) rfl hc) (fun _ => rfl)
    | long =>
      refine key .long rfl (hw _ (pm_W0_of (by decide +kernel) rfl)) rfl (by decide) (fun cI hc => ?_) (fun _ => rfl)
      show (H.push _)[H.size]? = some (vp_cell (cA 3) ((List.replicate n.toNatClampNeg (Value.long 0)).length, pm_ct ad 3 (List.replicate n.toNatClampNeg (Value.long 0))))
      rw [pm_ct3, List.length_replicate, Array.getElem?_push_size, hc, vp_cell_l]
      congr 3
      funext j
      rw [gL]
      rfl
    | float => cases hb3
    | double => cases hb3
    | short => cases hb3
  · cases hr
theorem pm_jAnw {ix : Nat} (F : pm_Fr p s mid args meth c D cA A ad X m E y) (hA : pm_At s D cA A ad m hb sb x h H locs cells slots) (hd : decode (pm_byt y.2.1) pc = .ok (.anewarray ix, 3))
    (hroom : ∀ (h1 : pm_H) (q : Nat) (ls : pm_L) (st : List Value), ih d h1 m q ls st = some o → h1.length + x ≤ R.cells + hb ∧ pm_slt h1 + 6 * x ≤ R.slots + sb)
    (hK : ∀ h1 H1 cells1 slots1 q ls st, pm_At s D cA A ad m hb sb x h1 H1 locs cells1 slots1 → ih d h1 m q ls st = some o → pm_J p l e R s mid args below meth c H1 locs cells1 slots1 Q ad E.2.1 q ls st) (hr : pm_gAnw ix ih d h m E.2.2.1 pc 3 ls st = some o) : pm_J p l e R s mid args below meth c H locs cells slots Q ad E.2.1 pc ls st := by
  intro LS hl
  unfold pm_gAnw at hr
  split at hr
  · rename_i n r ci b w hg
    replace hr := pm_cond_false hr
    obtain ⟨hb1, hr⟩ := hr
    replace hr := pm_cond_true hr
    obtain ⟨hb2, hr⟩ := hr
    rw [Bool.and_eq_true] at hb2
    rw [pm_fn_eq, pm_fn_eq, pm_len_eq, pm_rep_eq] at hr
    have h0 := pm_not_neg hb1
    have h6 : n.toNatClampNeg ≤ 60000 := Nat.le_of_ble_eq_true hb2.1
    obtain ⟨i, hi⟩ := pm_link hg
    have hi : (match vwCl[ci]? with
      | some r => decide (tables_1[i]? = some (.classLink (pm_nm E.2.2.1) ix r.1)) && Nat.beq b r.2.2
      | none => false) = true := hi
    obtain ⟨rm1, rm2⟩ := hroom _ _ _ _ hr
    rw [List.length_append] at rm1
    rw [pm_slt_push] at rm2
    have hsz : pm_sz (.inl (5 + ci, List.replicate n.toNatClampNeg Value.null)) = n.toNatClampNeg := List.length_replicate
    rw [hsz] at rm2
    have c1 : cells + 1 ≤ R.cells := by have := hA.2.2.2.1; simp at rm1; omega
    have c2 : slots + n.toNatClampNeg ≤ R.slots := by have := hA.2.2.2.2; omega
    obtain ⟨hx, hbc, hml, hown, hw, hCx, hnm, he, hy, hAs⟩ := F
    have key : ∀ (C : String), C ∈ [RX3, RX7] → (Cond.classLink (pm_nm E.2.2.1) ix C).before args s = true → (pm_tys cA)[5 + ci]? = some (cA (5 + ci), .object C) → W p l e R s mid args below meth c H locs cells slots Q (F0 mid pc LS ((Value.int n :: r).map (pm_rv ad))) := by
      intro C hC hcl htt
      refine W.anew hx hbc hown hcl (va_AO.use (hCx.2.2.1 C hC)) rfl hd rfl h0 (by omega) c1 c2 fun cI kA comp f1 f2 f3 f4 => ?_
      obtain ⟨kA2, comp2, -, -, -, k4⟩ := (hCx.1.2 _ _ htt).2
      have hcI : cI = cA (5 + ci) := Option.some.inj (f1.symm.trans k4)
      have hat1 : va_at D vwCl (H.size, pm_re ad cA (.inl (5 + ci, List.replicate n.toNatClampNeg .null))) (H.push { cls := cI, slots := Array.replicate n.toNatClampNeg .null, vm := .none }) := by
        show (H.push _)[H.size]? = some (vp_cell (cA (5 + ci)) ((List.replicate n.toNatClampNeg Value.null).length, pm_ct ad (5 + ci) (List.replicate n.toNatClampNeg .null)))
        rw [pm_ctQ ad _ (by omega), List.length_replicate, Array.getElem?_push_size, arrV_new, hcI, vp_cell_q]
        congr 3
        funext j
        rw [List.getD_eq_getElem?_getD, List.getElem?_replicate]
        split <;> rfl
      have hA1 := hA.made (c := .inl (5 + ci, List.replicate n.toNatClampNeg .null)) hAs (Array.size_push _) (fun q hq => by rw [Array.getElem?_push, if_neg (Nat.ne_of_lt hq)]) hat1
      rw [hsz] at hA1
      have hj := hK _ _ _ _ _ _ _ hA1 hr LS hl
      have ha : ad (16 + h.length) = H.size := hA.1.2.2 0
      have e9 : ((Value.ref (16 + h.length) :: r).map (pm_rv ad)) = .ref H.size :: r.map (pm_rv ad) := by
        rw [List.map_cons]
        show Value.ref (ad (16 + h.length)) :: _ = _
        rw [ha]
      rw [e9] at hj
      exact hj
    have hok := hb2.2
    unfold pm_okt at hok
    simp only [Bool.or_eq_true] at hok
    rcases hok with (q | q) | q
    · have := pm_blt q; omega
    · have e3 : ci = 3 := by have := Nat.eq_of_beq_eq_true q; omega
      subst e3
      have hi : (decide (tables_1[i]? = some (.classLink (pm_nm E.2.2.1) ix RX3)) && Nat.beq b 4) = true := hi
      rw [Bool.and_eq_true, decide_eq_true_eq] at hi
      exact key RX3 (by simp) (hw _ (pm_W0_at i hi.1 rfl)) rfl
    · have e3 : ci = 7 := by have := Nat.eq_of_beq_eq_true q; omega
      subst e3
      have hi : (decide (tables_1[i]? = some (.classLink (pm_nm E.2.2.1) ix RX7)) && Nat.beq b 7) = true := hi
      rw [Bool.and_eq_true, decide_eq_true_eq] at hi
      exact key RX7 (by simp) (hw _ (pm_W0_at i hi.1 rfl)) rfl
  · cases hr
end PmN
end
section
/-! soundness: constants of the pool, heads of methods, calls -/
theorem pm_cat8_sum {r : List Value} (h : pm_cat8 r = true) : (r.map fun v => v.category).sum ≤ 8 := by
  have e : ∀ r : List Value, (List.rec 0 (fun v _ ih => v.category + ih) r : Nat) = (r.map fun v => v.category).sum := by
    intro r
    induction r with
    | nil => rfl
    | cons a r ih => rw [List.map_cons, List.sum_cons, ← ih]
  unfold pm_cat8 at h
  rw [e] at h
  exact Nat.le_of_ble_eq_true h
theorem pm_cat8_rv {ad : Nat → Nat} {r : List Value} (h : pm_cat8 r = true) : ((r.map (pm_rv ad)).map fun v => v.category).sum ≤ 8 := by
  rw [List.map_map, show ((fun v : Value => v.category) ∘ pm_rv ad) = fun v => v.category from funext fun v => pm_rv_cat ad v]
  exact pm_cat8_sum h
theorem pm_good {L : List Cond} (h : ∀ w ∈ L, w ∈ pm_W0) : GoodIn pm_W0 L := fun w hw => ⟨h w hw, good_of_word (List.mem_filter.mp (h w hw)).2⟩
/-- a head: its words -/
theorem pm_hd_ok {kd : Nat} {y : pm_Hd} {e : pm_M} {ps : Nat × Nat × Nat × Nat} (h : pm_ckh kd y e ps = true) (hk : kd = 1 ∨ kd = 2 ∨ kd = 3) : Cond.code y.1 (pm_byt y.2.1) e.2.1 y.2.2 ∈ pm_W0 ∧ Cond.initialized y.1.cls ∈ pm_W0 ∧ y.1.cls = pm_nm e.2.2.1 ∧ pm_tyok e.2.2.2.1 y.2.2 = true ∧ e.2.1 ≤ 80 ∧ Jvm.plainName y.1.cls = true ∧ (y.1.cls ≠ "java/lang/invoke/MethodHandle" ∧ y.1.cls ≠ "java/lang/invoke/VarHandle") ∧
    (kd = 1 → Cond.instanceMethod y.1 ∈ pm_W0 ∧ Cond.selects y.1.cls y.1 y.1 ∈ pm_W0 ∧ (parseMethodDescriptor y.1.desc).map (fun d => d.parameters.length + 1) = some e.1) ∧ (kd = 2 → Cond.static y.1 ∈ pm_W0 ∧ (parseMethodDescriptor y.1.desc).map (fun d => d.parameters.length) = some e.1) ∧ (kd = 3 → Cond.instanceMethod y.1 ∈ pm_W0 ∧ y.1.name = "<init>" ∧ (parseMethodDescriptor y.1.desc).map (fun d => d.parameters.length + 1) = some e.1) := by
  unfold pm_ckh at h
  rw [Bool.or_eq_true] at h
  have h := h.resolve_left (fun q => by rcases hk with rfl | rfl | rfl <;> cases q)
  simp only [Bool.and_eq_true] at h
  obtain ⟨h1, h2, h3, h4, h5, h6, h7, h8, h9, h10⟩ := h
  refine ⟨?_, pm_W0_at _ (of_decide_eq_true h3) rfl, of_decide_eq_true h4, h5, Nat.le_of_ble_eq_true h6, h7, ⟨of_decide_eq_true h8, of_decide_eq_true h9⟩, ?_, ?_, ?_⟩
  · split at h1
    · rename_i y2 b l2 r2 hw
      simp only [Bool.and_eq_true, decide_eq_true_eq] at h1
      obtain ⟨q1, q2, q3⟩ := h1
      have q2 := Nat.eq_of_beq_eq_true q2
      subst q1; subst q2; subst q3
      have hb : pm_byt y.2.1 = b := by
        unfold pm_byt
        cases hz : Nat.beq y.2.1 99999 with
        | true => rw [hz] at h2; cases h2
        | false => rw [cond_false, hw]
      rw [hb]
      exact pm_W0_at _ hw rfl
    · cases h1
  · rintro rfl
    simp only [Bool.and_eq_true, decide_eq_true_eq] at h10
    exact ⟨pm_W0_at _ h10.1 rfl, List.mem_filter.mpr ⟨List.mem_of_getElem? h10.2.1, rfl⟩, h10.2.2⟩
  · rintro rfl
    simp only [Bool.and_eq_true, decide_eq_true_eq] at h10
    exact ⟨pm_W0_at _ h10.1 rfl, h10.2⟩
  · rintro rfl
    simp only [Bool.and_eq_true, decide_eq_true_eq] at h10
    exact ⟨pm_W0_at _ h10.1 rfl, h10.2.1, h10.2.2⟩
/-- a link to a method -/
theorem pm_lkM {own ix kd m' na ci : Nat} (hg : pm_get (pm_lnk own) ix = some (kd, m', na, ci)) (hk : kd = 1 ∨ kd = 2 ∨ kd = 3 ∨ kd = 14) : ∃ y e, pm_get pm_hds m' = some y ∧ pm_ent m' = some e ∧ pm_get pm_kdt m' = some kd ∧ e.1 = na ∧ ((kd = 1 ∨ kd = 3) → e.2.2.1 = ci) ∧ (Cond.methodLink (pm_nm own) ix y.1 ∈ tables_1 ∨ Cond.methodLinkNest (pm_nm own) ix y.1 "RiverWage" ∈ tables_1) := by
  obtain ⟨i, hi⟩ := pm_link hg
  have hi : ((Nat.beq kd 1 || Nat.beq kd 2 || Nat.beq kd 3 || Nat.beq kd 14) && match pm_get pm_hds m', pm_ent m' with
    | some y, some e => (decide (tables_1[i]? = some (.methodLink (pm_nm own) ix y.1)) || decide (tables_1[i]? = some (.methodLinkNest (pm_nm own) ix y.1 "RiverWage"))) && ((match pm_get pm_kdt m' with
      | some kd' => Nat.beq kd' kd
      | none => false) && (Nat.beq e.1 na && (Nat.beq kd 2 || (Nat.beq kd 14 || (Nat.beq e.2.2.1 ci)))))
    | _, _ => false) = true := by
    rcases hk with rfl | rfl | rfl | rfl <;> exact hi
  rw [Bool.and_eq_true] at hi
  obtain ⟨-, hi⟩ := hi
  split at hi
  · rename_i y e h1 h2
    simp only [Bool.and_eq_true] at hi
    obtain ⟨q1, q2, q3, q4⟩ := hi
    refine ⟨y, e, h1, h2, ?_, Nat.eq_of_beq_eq_true q3, ?_, ?_⟩
    · split at q2
      · rename_i kd' hkd
        rw [hkd, Nat.eq_of_beq_eq_true q2]
      · cases q2
    · intro hz
      simp only [Bool.or_eq_true] at q4
      rcases q4 with q | q | q
      · have := Nat.eq_of_beq_eq_true q; omega
      · have := Nat.eq_of_beq_eq_true q; omega
      · exact Nat.eq_of_beq_eq_true q
    · simp only [Bool.or_eq_true, decide_eq_true_eq] at q1
      rcases q1 with q | q
      · exact Or.inl (List.mem_of_getElem? q)
      · exact Or.inr (List.mem_of_getElem? q)
  · cases hi
def pm_wsm (y : pm_Hd) (e : pm_M) : List Cond := Cond.code y.1 (pm_byt y.2.1) e.2.1 y.2.2 :: pm_W0
/-- a call's start: its arguments, the picture -/
def pm_Pc (D : va_G) (cA : Nat → ClassId) (A : Nat → Prop) (ad : Nat → Nat) (X : List (Nat × List Value)) (h : pm_H) (As : List Value) : Array Value → State → Prop := fun v U => v = (As.map (pm_rv ad)).toArray ∧ pm_Cx D cA A ad X U ∧ pm_rel D cA A ad h U.heap ∧ ∀ q : Nat, U.heap.size ≤ q → A q
/-- its end -/
def pm_Qc (D : va_G) (cA : Nat → ClassId) (A : Nat → Prop) (ad : Nat → Nat) (h1 : pm_H) (v : Option Value) : Array Value → State → Outcome → State → Prop := fun _ st oc t => oc = .returned (v.map (pm_rv ad)) ∧ pm_rel D cA A ad h1 t.heap ∧ va_F A st t
def pm_rm (d mc ms : Nat) : Room := { frames := d + 10, cells := mc, slots := ms, locals := 100 * d + 200 }
/-- the contract of a method at given arguments and a given picture -/
def pm_Mt (l : Launch) (D : va_G) (cA : Nat → ClassId) (A : Nat → Prop) (ad : Nat → Nat) (X : List (Nat × List Value)) (y : pm_Hd) (e : pm_M) (d : Nat) (h : pm_H) (As : List Value) (h1 : pm_H) (v : Option Value) : Prop :=
  Met l y.1 (pm_wsm y e) (pm_rm d (h1.length - h.length) (pm_slt h1 - pm_slt h)) (pm_Pc D cA A ad X h As) (pm_Qc D cA A ad h1 v) (h1.length - h.length) (pm_slt h1 - pm_slt h) A
theorem pm_Pc_blind {D : va_G} {cA : Nat → ClassId} {A : Nat → Prop} {ad : Nat → Nat} {X : List (Nat × List Value)} {h : pm_H} {As : List Value} : FrameBlind (pm_Pc D cA A ad X h As) := by
  intro a U g mk q
  exact ⟨q.1, q.2.1.same rfl rfl, q.2.2.1, q.2.2.2⟩
section PmC
variable {p : Program} {l : Launch} {e : Env} {R : Room} {s : State} {mid : MethodId} {args : Array Value} {below : List Frame} {meth : Method} {c : Code} {H : Heap} {locs : List Loc} {cells slots : Nat} {Q : State → Prop}
variable {D : va_G} {cA : Nat → ClassId} {A : Nat → Prop} {ad : Nat → Nat} {X : List (Nat × List Value)} {m : Nat} {E : pm_M} {y : pm_Hd} {hb sb x : Nat} {h : pm_H}
variable {d pc len : Nat} {ls : pm_L} {st : List Value} {ih : pm_I} {o : pm_H × (Option Value ⊕ Unit)}
theorem pm_jLdc {ix : Nat} (F : pm_Fr p s mid args meth c D cA A ad X m E y) (hd : decode (pm_byt y.2.1) pc = .ok (.ldc ix, 2))
    (hK : ∀ q ls st, ih d h m q ls st = some o → pm_J p l e R s mid args below meth c H locs cells slots Q ad E.2.1 q ls st) (hr : pm_gLdc ix ih d h m E.2.2.1 pc 2 ls st = some o) : pm_J p l e R s mid args below meth c H locs cells slots Q ad E.2.1 pc ls st := by
  intro LS hl
  unfold pm_gLdc at hr
  split at hr
  · rename_i n b z hg
    rw [pm_fn_eq] at hr
    have hc := pm_jLdcI F (Or.inr ⟨_, _, hg⟩)
    obtain ⟨hx, hbc, hml, hown, -⟩ := F
    exact lv_ldc hx hbc hown hc hd (hK _ _ _ hr LS hl)
  · rename_i a b z hg
    rw [pm_fn_eq] at hr
    obtain ⟨i, hi⟩ := pm_link hg
    have hi : pm_strs.any (fun r => Nat.beq r.1 E.2.2.1 && (Nat.beq r.2.1 ix && Nat.beq r.2.2.2 a)) = true := hi
    obtain ⟨r, hr1, hr2⟩ := List.any_eq_true.mp hi
    simp only [Bool.and_eq_true] at hr2
    obtain ⟨q1, q2, q3⟩ := hr2
    have q1 := Nat.eq_of_beq_eq_true q1
    have q2 := Nat.eq_of_beq_eq_true q2
    have q3 := Nat.eq_of_beq_eq_true q3
    obtain ⟨hx, hbc, hml, hown, hw, hCx, -⟩ := F
    have hs := hCx.2.2.2.2.2.1 r hr1
    rw [q1, q2, q3] at hs
    exact va_ldcS hx hbc hown hs hd (hK _ _ _ hr LS hl)
  · cases hr
theorem pm_jLdw {ix : Nat} (F : pm_Fr p s mid args meth c D cA A ad X m E y) (hd : decode (pm_byt y.2.1) pc = .ok (.ldc_w ix, 3))
    (hK : ∀ q ls st, ih d h m q ls st = some o → pm_J p l e R s mid args below meth c H locs cells slots Q ad E.2.1 q ls st) (hr : pm_gLdw ix ih d h m E.2.2.1 pc 3 ls st = some o) : pm_J p l e R s mid args below meth c H locs cells slots Q ad E.2.1 pc ls st := by
  intro LS hl
  unfold pm_gLdw at hr
  split at hr
  · rename_i n b z hg
    rw [pm_fn_eq] at hr
    have hc := pm_jLdcI F (Or.inr ⟨_, _, hg⟩)
    obtain ⟨hx, hbc, hml, hown, -⟩ := F
    exact lv_ldcw hx hbc hown hc hd (hK _ _ _ hr LS hl)
  · cases hr
theorem pm_jLd2 {ix : Nat} (F : pm_Fr p s mid args meth c D cA A ad X m E y) (hd : decode (pm_byt y.2.1) pc = .ok (.ldc2_w ix, 3))
    (hK : ∀ q ls st, ih d h m q ls st = some o → pm_J p l e R s mid args below meth c H locs cells slots Q ad E.2.1 q ls st) (hr : pm_gLd2 ix ih d h m E.2.2.1 pc 3 ls st = some o) : pm_J p l e R s mid args below meth c H locs cells slots Q ad E.2.1 pc ls st := by
  intro LS hl
  unfold pm_gLd2 at hr
  split at hr
  · rename_i n b z hg
    rw [pm_fn_eq] at hr
    have hc := pm_ldcJ F hg
    obtain ⟨hx, hbc, hml, hown, -⟩ := F
    exact lv_ldc2 hx hbc hown hc hd (hK _ _ _ hr LS hl)
  · cases hr
theorem pm_jSta {ix : Nat} (F : pm_Fr p s mid args meth c D cA A ad X m E y) (hA : pm_At s D cA A ad m hb sb x h H locs cells slots) (hd : decode (pm_byt y.2.1) pc = .ok (.getstatic ix, 3))
    (hK : ∀ q ls st, ih d h m q ls st = some o → pm_J p l e R s mid args below meth c H locs cells slots Q ad E.2.1 q ls st) (hr : pm_gSta ix ih d h m E.2.2.1 pc 3 ls st = some o) : pm_J p l e R s mid args below meth c H locs cells slots Q ad E.2.1 pc ls st := by
  intro LS hl
  unfold pm_gSta at hr
  split at hr
  · rename_i a b z hg
    rw [pm_fn_eq] at hr
    obtain ⟨i, hi⟩ := pm_link hg
    have hi : (Nat.ble 1 a && (Nat.ble a 3 && decide (tables_1[i]? = some (.fieldLink (pm_nm E.2.2.1) ix (pm_stn a).1 (pm_stn a).2 "[I")))) = true := hi
    simp only [Bool.and_eq_true, decide_eq_true_eq] at hi
    obtain ⟨q1, q2, q3⟩ := hi
    obtain ⟨hx, hbc, hml, hown, hw, hCx, -⟩ := F
    exact va_gets (ref := (pm_stn a).1) hx hbc (hCx.2.2.2.2.1 a (Nat.le_of_ble_eq_true q1) (Nat.le_of_ble_eq_true q2)) hA.2.1 hown (hw _ (pm_W0_at i q3 rfl)) (fun _ q => q) hd (hK _ _ _ hr LS hl)
  · cases hr
/-- behind a call: the new picture -/
theorem pm_after {LS : Array Slot} {st0 rest : List Value} {h1 : pm_H} {v : Option Value} {a0 : Array Value} (hr : va_Run p l e R s mid args below meth c H locs cells slots (h1.length - h.length) (pm_slt h1 - pm_slt h) (F0 mid pc LS st0) rest (pm_Qc D cA A ad h1 v a0) A) (hA : pm_At s D cA A ad m hb sb x h H locs cells slots) (hl1 : h.length ≤ h1.length) (hl2 : pm_slt h ≤ pm_slt h1)
    (kk : ∀ (H1 : Heap) (locs1 : List Loc), pm_At s D cA A ad m hb sb x h1 H1 locs1 (cells + (h1.length - h.length)) (slots + (pm_slt h1 - pm_slt h)) → W p l e R s mid args below meth c H1 locs1 (cells + (h1.length - h.length)) (slots + (pm_slt h1 - pm_slt h)) Q (F0 mid (pc + 3) LS ((v.map (pm_rv ad)).toList ++ rest))) : W p l e R s mid args below meth c H locs cells slots Q (F0 mid pc LS st0) := by
  intro T hT X
  obtain ⟨v', st₀, t, T', L, h0, X', hL, e1, e2, ⟨hv, hrel, hF⟩, st⟩ := hr T hT X
  have hv' : v' = v.map (pm_rv ad) := by cases hv; rfl
  subst hv'
  obtain ⟨a1, a2, a3, a4, a5⟩ := hA
  have hz : t.heap.size = H.size + (h1.length - h.length) := by
    have q1 := a1.2.2 (h1.length - h.length)
    have q2 := hrel.2.2 0
    rw [show 16 + h.length + (h1.length - h.length) = 16 + h1.length + 0 by omega] at q1
    omega
  obtain ⟨t2, b1, b2⟩ := kk T'.heap (locs ++ L) ⟨by rw [e1]; exact hrel, ⟨by rw [e1]; have := a2.1; omega, fun q g1 g2 => by
      rw [e1, hF.2 q (by rw [h0]; exact Nat.lt_of_lt_of_le g1 a2.1) g2, h0]
      exact a2.2.1 q g1 g2, fun q hq => by
      rcases List.mem_append.mp hq with g | g
      · exact a2.2.2 q g
      · exact hL q g⟩, by
      rcases a3 with g | ⟨g1, g2⟩
      · exact Or.inl g
      · exact Or.inr ⟨g1, by rw [e1, hz]; omega⟩, by omega, by omega⟩ T' rfl X'
  exact ⟨t2, st t2 b1, b2⟩
/-- a call's start out of the frame -/
theorem pm_pre {As : List Value} (F : pm_Fr p s mid args meth c D cA A ad X m E y) (hA : pm_At s D cA A ad m hb sb x h H locs cells slots) : ∀ U : State, U.heap = H → s.WarmedH U.vm → pm_Pc D cA A ad X h As (As.map (pm_rv ad)).toArray U := by
  intro U hU hW
  obtain ⟨hx, hbc, hml, hown, hw, hCx, hnm, he, hy, hAs⟩ := F
  exact ⟨rfl, hCx.go hW (by rw [hU]; exact hA.2.1), by rw [hU]; exact hA.1, fun q hq => hAs q (Nat.le_trans hA.2.1.1 (by rw [← hU]; exact hq))⟩
end PmC
end
section
/-! one step of the picture machine, an instruction a case (printed by wip/tool/one.py) -/
theorem pm_lnE {k len : Nat} (hk : k ≠ 0) (h : (Nat.beq k 0 || Nat.beq k len) = true) : len = k := by
  rw [Bool.or_eq_true] at h
  rcases h with q | q
  · exact absurd (Nat.eq_of_beq_eq_true q) hk
  · exact (Nat.eq_of_beq_eq_true q).symm
/-- what a frame ends with -/
def pm_End (y : pm_Hd) (e : pm_M) (r : Option Value ⊕ Unit) (pc : Nat) (st : List Value) : Prop := match r with
  | .inl none => decode (pm_byt y.2.1) pc = .ok (.return_, 1) ∧ st = [] ∧ e.2.2.2.1 = 4
  | .inl (some v) => st = [v] ∧ pm_fit e.2.2.2.1 v = true ∧ ((e.2.2.2.1 ≤ 1 ∧ decode (pm_byt y.2.1) pc = .ok (.ireturn, 1)) ∨ (e.2.2.2.1 = 2 ∧ decode (pm_byt y.2.1) pc = .ok (.lreturn, 1)) ∨ (e.2.2.2.1 = 3 ∧ decode (pm_byt y.2.1) pc = .ok (.areturn, 1)))
  | .inr _ => st = [] ∧ ∃ ix b z w, decode (pm_byt y.2.1) pc = .ok (.new ix, 3) ∧ pm_get (pm_lnk e.2.2.1) ix = some (13, b, z, w) ∧ e.2.2.1 = 11 ∧ decode (pm_byt y.2.1) (pc + 3) = .ok (.dup, 1) ∧ decode (pm_byt y.2.1) (pc + 4) = .ok (.invokespecial 184, 3) ∧ decode (pm_byt y.2.1) (pc + 7) = .ok (.athrow, 1)
theorem pm_thr {m pc ix b z w : Nat} {e : pm_M} {y : pm_Hd} (he : pm_ent m = some e) (hy : pm_get pm_hds m = some y) (hok : pm_oki m e y pc (.new ix) = true) (hg : pm_get (pm_lnk e.2.2.1) ix = some (13, b, z, w)) : e.2.2.1 = 11 ∧ decode (pm_byt y.2.1) (pc + 3) = .ok (.dup, 1) ∧ decode (pm_byt y.2.1) (pc + 4) = .ok (.invokespecial 184, 3) ∧ decode (pm_byt y.2.1) (pc + 7) = .ok (.athrow, 1) := by
  have h : (match pm_get (pm_lnk e.2.2.1) ix with
    | some K => !Nat.beq K.1 13 || (Nat.beq e.2.2.1 11 && (decide (pm_get e.2.2.2.2 (pc + 3) = some (.dup, 1)) && (decide (pm_get e.2.2.2.2 (pc + 4) = some (.invokespecial 184, 3)) && decide (pm_get e.2.2.2.2 (pc + 7) = some (.athrow, 1)))))
    | none => true) = true := hok
  rw [hg] at h
  have h : (false || (Nat.beq e.2.2.1 11 && (decide (pm_get e.2.2.2.2 (pc + 3) = some (.dup, 1)) && (decide (pm_get e.2.2.2.2 (pc + 4) = some (.invokespecial 184, 3)) && decide (pm_get e.2.2.2.2 (pc + 7) = some (.athrow, 1)))))) = true := h
  simp only [Bool.false_or, Bool.and_eq_true, decide_eq_true_eq] at h
  obtain ⟨h1, h2, h3, h4⟩ := h
  exact ⟨Nat.eq_of_beq_eq_true h1, (pm_code he hy h2).1, (pm_code he hy h3).1, (pm_code he hy h4).1⟩
section PmO
variable {p : Program} {l : Launch} {e : Env} {R : Room} {s : State} {mid : MethodId} {args : Array Value} {below : List Frame} {meth : Method} {c : Code} {H : Heap} {locs : List Loc} {cells slots : Nat} {Q : State → Prop}
variable {D : va_G} {cA : Nat → ClassId} {A : Nat → Prop} {ad : Nat → Nat} {X : List (Nat × List Value)} {m : Nat} {E : pm_M} {y : pm_Hd} {hb sb x : Nat} {h : pm_H}
variable {d pc len : Nat} {ls : pm_L} {st : List Value} {ih : pm_I} {o : pm_H × (Option Value ⊕ Unit)}
set_option maxHeartbeats 4000000 in
theorem pm_one {i : Instr} (F : pm_Fr p s mid args meth c D cA A ad X m E y) (hX : pm_X0 X) (hA : pm_At s D cA A ad m hb sb x h H locs cells slots) (hd : decode (pm_byt y.2.1) pc = .ok (i, len)) (hln : (Nat.beq (pm_ln i) 0 || Nat.beq (pm_ln i) len) = true) (hok : pm_oki m E y pc i = true)
    (hroom : ∀ (h1 : pm_H) (q : Nat) (ls : pm_L) (st : List Value), ih d h1 m q ls st = some o → h1.length + x ≤ R.cells + hb ∧ pm_slt h1 + 6 * x ≤ R.slots + sb)
    (hK : ∀ h1 H1 locs1 cells1 slots1 q ls st, pm_At s D cA A ad m hb sb x h1 H1 locs1 cells1 slots1 → ih d h1 m q ls st = some o → pm_J p l e R s mid args below meth c H1 locs1 cells1 slots1 Q ad E.2.1 q ls st)
    (hend : o.1 = h → pm_End y E o.2 pc st → (∀ z, o.2 = .inr z → pm_scH h = true) → pm_J p l e R s mid args below meth c H locs cells slots Q ad E.2.1 pc ls st)
    (hinv : ∀ how ix, ((how = 1 ∧ i = .invokevirtual ix) ∨ (how = 2 ∧ i = .invokestatic ix) ∨ (how = 3 ∧ i = .invokespecial ix)) → len = 3 → pm_gInv X how ix ih d h m E.2.2.1 pc 3 ls st = some o → pm_J p l e R s mid args below meth c H locs cells slots Q ad E.2.1 pc ls st)
    (hr : pm_dsp X i ih d h m E.2.2.1 pc len ls st = some o) : pm_J p l e R s mid args below meth c H locs cells slots Q ad E.2.1 pc ls st := by
  have hK0 : ∀ q ls st, ih d h m q ls st = some o → pm_J p l e R s mid args below meth c H locs cells slots Q ad E.2.1 q ls st := fun q ls st => hK h H locs cells slots q ls st hA
  have hx := F.1
  have hbc := F.2.1
  cases i with
  | iconst n =>
    have hlen := pm_lnE (k := 1) (by decide) hln
    subst hlen
    have hr : pm_sC (.int (Int32.ofInt n)) (ih d h m) pc 1 ls st = some o := hr
    exact pm_jC (fun LS rest k => lv_iconst hx hbc hd rfl k) rfl hK0 hr
  | bipush n =>
    have hlen := pm_lnE (k := 2) (by decide) hln
    subst hlen
    have hr : pm_sC (.int (Int8.ofInt n).toInt32) (ih d h m) pc 2 ls st = some o := hr
    exact pm_jC (fun LS rest k => lv_bipush hx hbc hd rfl k) rfl hK0 hr
  | sipush n =>
    have hlen := pm_lnE (k := 3) (by decide) hln
    subst hlen
    have hr : pm_sC (.int (Int16.ofInt n).toInt32) (ih d h m) pc 3 ls st = some o := hr
    exact pm_jC (fun LS rest k => lv_sipush hx hbc hd rfl k) rfl hK0 hr
  | lconst n =>
    have hlen := pm_lnE (k := 1) (by decide) hln
    subst hlen
    have hr : pm_sC (.long (Int64.ofNat n.val)) (ih d h m) pc 1 ls st = some o := hr
    exact pm_jC (fun LS rest k => lv_lconst hx hbc hd rfl k) rfl hK0 hr
  | aload k =>
    have hlen := pm_lnE (k := 2) (by decide) hln
    subst hlen
    have hr : pm_sAld k (ih d h m) pc 2 ls st = some o := hr
    exact pm_jAld (fun x LS rest h1 k => lv_aload hx hbc hd h1 k) hK0 hr
  | aload_n k =>
    have hlen := pm_lnE (k := 1) (by decide) hln
    subst hlen
    have hr : pm_sAld k.val (ih d h m) pc 1 ls st = some o := hr
    exact pm_jAld (fun x LS rest h1 k => lv_aload_n hx hbc hd rfl h1 k) hK0 hr
  | iload k =>
    have hlen := pm_lnE (k := 2) (by decide) hln
    subst hlen
    have hr : pm_sIld k (ih d h m) pc 2 ls st = some o := hr
    exact pm_jIld (fun x LS rest h1 k => lv_iload hx hbc hd h1 k) hK0 hr
  | iload_n k =>
    have hlen := pm_lnE (k := 1) (by decide) hln
    subst hlen
    have hr : pm_sIld k.val (ih d h m) pc 1 ls st = some o := hr
    exact pm_jIld (fun x LS rest h1 k => lv_iload_n hx hbc hd rfl h1 k) hK0 hr
  | lload k =>
    have hlen := pm_lnE (k := 2) (by decide) hln
    subst hlen
    have hr : pm_sLld k (ih d h m) pc 2 ls st = some o := hr
    exact pm_jLld (fun x LS rest h1 k => lv_lload hx hbc hd h1 k) hK0 hr
  | lload_n k =>
    have hlen := pm_lnE (k := 1) (by decide) hln
    subst hlen
    have hr : pm_sLld k.val (ih d h m) pc 1 ls st = some o := hr
    exact pm_jLld (fun x LS rest h1 k => lv_lload_n hx hbc hd rfl h1 k) hK0 hr
  | istore k =>
    have hlen := pm_lnE (k := 2) (by decide) hln
    subst hlen
    have hr : pm_sIst k (ih d h m) pc 2 ls st = some o := hr
    exact pm_jIst (fun x LS rest lv h1 h2 kk => lv_istore hx hbc hd h1 h2 rfl kk) hK0 hr
  | istore_n k =>
    have hlen := pm_lnE (k := 1) (by decide) hln
    subst hlen
    have hr : pm_sIst k.val (ih d h m) pc 1 ls st = some o := hr
    exact pm_jIst (fun x LS rest lv h1 h2 kk => lv_istore_n hx hbc hd rfl h1 h2 rfl kk) hK0 hr
  | astore k =>
    have hlen := pm_lnE (k := 2) (by decide) hln
    subst hlen
    have hr : pm_sAst k (ih d h m) pc 2 ls st = some o := hr
    exact pm_jAst (fun x LS rest lv h1 h2 kk => lv_astore hx hbc hd h1 h2 rfl kk) hK0 hr
  | astore_n k =>
    have hlen := pm_lnE (k := 1) (by decide) hln
    subst hlen
    have hr : pm_sAst k.val (ih d h m) pc 1 ls st = some o := hr
    exact pm_jAst (fun x LS rest lv h1 h2 kk => lv_astore_n hx hbc hd rfl h1 h2 rfl kk) hK0 hr
  | lstore k =>
    have hlen := pm_lnE (k := 2) (by decide) hln
    subst hlen
    have hr : pm_sLst k (ih d h m) pc 2 ls st = some o := hr
    exact pm_jLst (fun x LS rest lv h1 h2 kk => lv_lstore hx hbc hd h1 h2 rfl kk) hK0 hr
  | lstore_n k =>
    have hlen := pm_lnE (k := 1) (by decide) hln
    subst hlen
    have hr : pm_sLst k.val (ih d h m) pc 1 ls st = some o := hr
    exact pm_jLst (fun x LS rest lv h1 h2 kk => lv_lstore_n hx hbc hd rfl h1 h2 rfl kk) hK0 hr
  | iinc k n =>
    have hlen := pm_lnE (k := 3) (by decide) hln
    subst hlen
    have hr : pm_sInc k n (ih d h m) pc 3 ls st = some o := hr
    exact pm_jInc (fun x LS rest lv j h1 h2 h3 kk => lv_iinc hx hbc hd h1 h2 rfl h3 rfl kk) hK0 hr
  | iadd =>
    have hlen := pm_lnE (k := 1) (by decide) hln
    subst hlen
    have hr : pm_sII (fun x y => x + y) (ih d h m) pc 1 ls st = some o := hr
    exact pm_jII (fun x y LS rest k => lv_iadd hx hbc hd k) hK0 hr
  | isub =>
    have hlen := pm_lnE (k := 1) (by decide) hln
    subst hlen
    have hr : pm_sII (fun x y => x - y) (ih d h m) pc 1 ls st = some o := hr
    exact pm_jII (fun x y LS rest k => lv_isub hx hbc hd k) hK0 hr
  | imul =>
    have hlen := pm_lnE (k := 1) (by decide) hln
    subst hlen
    have hr : pm_sII (fun x y => x * y) (ih d h m) pc 1 ls st = some o := hr
    exact pm_jII (fun x y LS rest k => lv_imul hx hbc hd k) hK0 hr
  | iand =>
    have hlen := pm_lnE (k := 1) (by decide) hln
    subst hlen
    have hr : pm_sII (fun x y => x &&& y) (ih d h m) pc 1 ls st = some o := hr
    exact pm_jII (fun x y LS rest k => lv_iand hx hbc hd k) hK0 hr
  | ior =>
    have hlen := pm_lnE (k := 1) (by decide) hln
    subst hlen
    have hr : pm_sII (fun x y => x ||| y) (ih d h m) pc 1 ls st = some o := hr
    exact pm_jII (fun x y LS rest k => lv_ior hx hbc hd k) hK0 hr
  | ishl =>
    have hlen := pm_lnE (k := 1) (by decide) hln
    subst hlen
    have hr : pm_sII (fun x y => x <<< (y &&& 31)) (ih d h m) pc 1 ls st = some o := hr
    exact pm_jII (fun x y LS rest k => lv_ishl hx hbc hd k) hK0 hr
  | ishr =>
    have hlen := pm_lnE (k := 1) (by decide) hln
    subst hlen
    have hr : pm_sII (fun x y => x >>> (y &&& 31)) (ih d h m) pc 1 ls st = some o := hr
    exact pm_jII (fun x y LS rest k => lv_ishr hx hbc hd k) hK0 hr
  | iushr =>
    have hlen := pm_lnE (k := 1) (by decide) hln
    subst hlen
    have hr : pm_sII (fun x y => (x.toUInt32 >>> (y.toUInt32 &&& Int32.toUInt32 31)).toInt32) (ih d h m) pc 1 ls st = some o := hr
    exact pm_jII (fun x y LS rest k => lv_iushr hx hbc hd rfl k) hK0 hr
  | idiv =>
    have hlen := pm_lnE (k := 1) (by decide) hln
    subst hlen
    have hr : pm_sIIz (fun x y => x / y) (ih d h m) pc 1 ls st = some o := hr
    exact pm_jIIz (fun x y LS rest h0 k => lv_idiv hx hbc hd h0 k) hK0 hr
  | irem =>
    have hlen := pm_lnE (k := 1) (by decide) hln
    subst hlen
    have hr : pm_sIIz (fun x y => x - x / y * y) (ih d h m) pc 1 ls st = some o := hr
    exact pm_jIIz (fun x y LS rest h0 k => lv_irem hx hbc hd h0 k) hK0 hr
  | ineg =>
    have hlen := pm_lnE (k := 1) (by decide) hln
    subst hlen
    have hr : pm_sI (fun x => -x) (ih d h m) pc 1 ls st = some o := hr
    exact pm_jI (fun x LS rest k => lv_ineg hx hbc hd k) hK0 hr
  | ladd =>
    have hlen := pm_lnE (k := 1) (by decide) hln
    subst hlen
    have hr : pm_sLL (fun x y => x + y) (ih d h m) pc 1 ls st = some o := hr
    exact pm_jLL (fun x y LS rest k => lv_ladd hx hbc hd k) hK0 hr
  | lsub =>
    have hlen := pm_lnE (k := 1) (by decide) hln
    subst hlen
    have hr : pm_sLL (fun x y => x - y) (ih d h m) pc 1 ls st = some o := hr
    exact pm_jLL (fun x y LS rest k => lv_lsub hx hbc hd k) hK0 hr
  | lmul =>
    have hlen := pm_lnE (k := 1) (by decide) hln
    subst hlen
    have hr : pm_sLL (fun x y => x * y) (ih d h m) pc 1 ls st = some o := hr
    exact pm_jLL (fun x y LS rest k => lv_lmul hx hbc hd k) hK0 hr
  | land =>
    have hlen := pm_lnE (k := 1) (by decide) hln
    subst hlen
    have hr : pm_sLL (fun x y => x &&& y) (ih d h m) pc 1 ls st = some o := hr
    exact pm_jLL (fun x y LS rest k => lv_land hx hbc hd k) hK0 hr
  | lor =>
    have hlen := pm_lnE (k := 1) (by decide) hln
    subst hlen
    have hr : pm_sLL (fun x y => x ||| y) (ih d h m) pc 1 ls st = some o := hr
    exact pm_jLL (fun x y LS rest k => lv_lor hx hbc hd k) hK0 hr
  | ldiv =>
    have hlen := pm_lnE (k := 1) (by decide) hln
    subst hlen
    have hr : pm_sLLz (fun x y => x / y) (ih d h m) pc 1 ls st = some o := hr
    exact pm_jLLz (fun x y LS rest h0 k => lv_ldiv hx hbc hd h0 k) hK0 hr
  | lrem =>
    have hlen := pm_lnE (k := 1) (by decide) hln
    subst hlen
    have hr : pm_sLLz (fun x y => x - x / y * y) (ih d h m) pc 1 ls st = some o := hr
    exact pm_jLLz (fun x y LS rest h0 k => lv_lrem hx hbc hd h0 k) hK0 hr
  | lneg =>
    have hlen := pm_lnE (k := 1) (by decide) hln
    subst hlen
    have hr : pm_sL (fun x => -x) (ih d h m) pc 1 ls st = some o := hr
    exact pm_jL (fun x LS rest k => lv_lneg hx hbc hd k) hK0 hr
  | lshl =>
    have hlen := pm_lnE (k := 1) (by decide) hln
    subst hlen
    have hr : pm_sLI (fun x y => x <<< (y.toInt64 &&& 63)) (ih d h m) pc 1 ls st = some o := hr
    exact pm_jLI (fun x y LS rest k => lv_lshl hx hbc hd rfl k) hK0 hr
  | lshr =>
    have hlen := pm_lnE (k := 1) (by decide) hln
    subst hlen
    have hr : pm_sLI (fun x y => x >>> (y.toInt64 &&& 63)) (ih d h m) pc 1 ls st = some o := hr
    exact pm_jLI (fun x y LS rest k => lv_lshr hx hbc hd rfl k) hK0 hr
  | lushr =>
    have hlen := pm_lnE (k := 1) (by decide) hln
    subst hlen
    have hr : pm_sLI (fun x y => (x.toUInt64 >>> (y.toInt64.toUInt64 &&& Int64.toUInt64 63)).toInt64) (ih d h m) pc 1 ls st = some o := hr
    exact pm_jLI (fun x y LS rest k => lv_lushr hx hbc hd rfl k) hK0 hr
  | lcmp =>
    have hlen := pm_lnE (k := 1) (by decide) hln
    subst hlen
    have hr : pm_sCmp (ih d h m) pc 1 ls st = some o := hr
    exact pm_jCmp (fun x y LS rest k => W.lcmp hx hbc hd k) hK0 hr
  | i2l =>
    have hlen := pm_lnE (k := 1) (by decide) hln
    subst hlen
    have hr : pm_sIL (fun x => x.toInt64) (ih d h m) pc 1 ls st = some o := hr
    exact pm_jIL (fun x LS rest k => lv_i2l hx hbc hd rfl k) hK0 hr
  | l2i =>
    have hlen := pm_lnE (k := 1) (by decide) hln
    subst hlen
    have hr : pm_sLi (fun x => x.toInt32) (ih d h m) pc 1 ls st = some o := hr
    exact pm_jLi (fun x LS rest k => lv_l2i hx hbc hd rfl k) hK0 hr
  | i2b =>
    have hlen := pm_lnE (k := 1) (by decide) hln
    subst hlen
    have hr : pm_sI (fun x => x.toInt8.toInt32) (ih d h m) pc 1 ls st = some o := hr
    exact pm_jI (fun x LS rest k => lv_i2b hx hbc hd rfl k) hK0 hr
  | i2c =>
    have hlen := pm_lnE (k := 1) (by decide) hln
    subst hlen
    have hr : pm_sI (fun x => (x.toUInt32 % 65536).toInt32) (ih d h m) pc 1 ls st = some o := hr
    exact pm_jI (fun x LS rest k => lv_i2c hx hbc hd rfl k) hK0 hr
  | dup =>
    have hlen := pm_lnE (k := 1) (by decide) hln
    subst hlen
    have hr : pm_sDup (ih d h m) pc 1 ls st = some o := hr
    exact pm_jDup (fun v LS rest h1 k => lv_dup hx hbc hd h1 k) hK0 hr
  | pop =>
    have hlen := pm_lnE (k := 1) (by decide) hln
    subst hlen
    have hr : pm_sPop (ih d h m) pc 1 ls st = some o := hr
    exact pm_jPop (fun v LS rest h1 k => lv_pop hx hbc hd h1 k) hK0 hr
  | pop2 =>
    have hlen := pm_lnE (k := 1) (by decide) hln
    subst hlen
    have hr : pm_sPop2 (ih d h m) pc 1 ls st = some o := hr
    exact pm_jPop2 (fun v LS rest h1 k => lv_pop2_2 hx hbc hd h1 k) hK0 hr
  | ifCond cd off =>
    have hlen := pm_lnE (k := 3) (by decide) hln
    subst hlen
    have hr : pm_sIf cd off (ih d h m) pc 3 ls st = some o := hr
    exact pm_jIf (fun x LS rest t ht k1 k2 => pm_rowIf hx hbc hd x LS rest t ht k1 k2) hK0 hr
  | if_icmp cd off =>
    have hlen := pm_lnE (k := 3) (by decide) hln
    subst hlen
    have hr : pm_sIf2 cd off (ih d h m) pc 3 ls st = some o := hr
    exact pm_jIf2 (fun x y LS rest t ht k1 k2 => pm_rowIf2 hx hbc hd x y LS rest t ht k1 k2) hK0 hr
  | goto off =>
    have hlen := pm_lnE (k := 3) (by decide) hln
    subst hlen
    have hr : pm_sGo off (ih d h m) pc 3 ls st = some o := hr
    exact pm_jGo (fun LS rest t ht k => lv_goto hx hbc hd ht k) hK0 hr
  | tableswitch d0 lo hi offs =>
    have hr : pm_sTsw d0 lo hi offs (ih d h m) pc len ls st = some o := hr
    exact pm_jTsw hx hbc hd hK0 hr
  | lookupswitch d0 ps =>
    have hr : pm_sLsw d0 ps (ih d h m) pc len ls st = some o := hr
    exact pm_jLsw hx hbc hd hK0 hr
  | ldc ix =>
    have hlen := pm_lnE (k := 2) (by decide) hln
    subst hlen
    have hr : pm_gLdc ix ih d h m E.2.2.1 pc 2 ls st = some o := hr
    exact pm_jLdc F hd hK0 hr
  | ldc_w ix =>
    have hlen := pm_lnE (k := 3) (by decide) hln
    subst hlen
    have hr : pm_gLdw ix ih d h m E.2.2.1 pc 3 ls st = some o := hr
    exact pm_jLdw F hd hK0 hr
  | ldc2_w ix =>
    have hlen := pm_lnE (k := 3) (by decide) hln
    subst hlen
    have hr : pm_gLd2 ix ih d h m E.2.2.1 pc 3 ls st = some o := hr
    exact pm_jLd2 F hd hK0 hr
  | getstatic ix =>
    have hlen := pm_lnE (k := 3) (by decide) hln
    subst hlen
    have hr : pm_gSta ix ih d h m E.2.2.1 pc 3 ls st = some o := hr
    exact pm_jSta F hA hd hK0 hr
  | getfield ix =>
    have hlen := pm_lnE (k := 3) (by decide) hln
    subst hlen
    have hr : pm_gGet ix ih d h m E.2.2.1 pc 3 ls st = some o := hr
    exact pm_jGet F hA hd hK0 hr
  | putfield ix =>
    have hlen := pm_lnE (k := 3) (by decide) hln
    subst hlen
    have hr : pm_gPut ix ih d h m E.2.2.1 pc 3 ls st = some o := hr
    have hok : (!Nat.beq m 309 && match pm_get (pm_lnk E.2.2.1) ix with
      | some K => match vwCl[K.2.1]? with
        | some r => !(r.2.1 K.2.2.1).2.2.2 || (Nat.beq K.2.1 E.2.2.1 && decide (y.1.name = "<init>"))
        | none => true
      | none => true) = true := hok
    rw [Bool.and_eq_true] at hok
    have hm : m ≠ 309 := fun q => by
      rw [q] at hok
      exact absurd hok.1 (by decide)
    refine pm_jPut F hA hd hm (fun ci k t C T N hg hv hf => ?_) (fun h1 H1 locs1 q ls st => hK h1 H1 locs1 cells slots q ls st) hr
    have h2 := hok.2
    rw [hg] at h2
    dsimp only at h2
    rw [hv] at h2
    dsimp only at h2
    rw [hf] at h2
    simp only [Bool.not_true, Bool.false_or, Bool.and_eq_true, decide_eq_true_eq] at h2
    exact ⟨Nat.eq_of_beq_eq_true h2.1, h2.2⟩
  | new ix =>
    have hlen := pm_lnE (k := 3) (by decide) hln
    subst hlen
    have hr : pm_gNew X ix ih d h m E.2.2.1 pc 3 ls st = some o := hr
    exact pm_jNew F hX hA hd hroom (fun b z w hg hs hst ho => hend (by rw [ho]) (by rw [ho]; exact ⟨hst, ix, b, z, w, hd, hg, pm_thr F.2.2.2.2.2.2.2.1 F.2.2.2.2.2.2.2.2.1 hok hg⟩) (fun _ _ => hs)) (fun h1 H1 c1 s1 q ls st => hK h1 H1 locs c1 s1 q ls st) hr
  | newarray t =>
    have hlen := pm_lnE (k := 2) (by decide) hln
    subst hlen
    have hr : pm_gNwa t ih d h m E.2.2.1 pc 2 ls st = some o := hr
    exact pm_jNwa F hA hd hroom (fun h1 H1 c1 s1 q ls st => hK h1 H1 locs c1 s1 q ls st) hr
  | anewarray ix =>
    have hlen := pm_lnE (k := 3) (by decide) hln
    subst hlen
    have hr : pm_gAnw ix ih d h m E.2.2.1 pc 3 ls st = some o := hr
    exact pm_jAnw F hA hd hroom (fun h1 H1 c1 s1 q ls st => hK h1 H1 locs c1 s1 q ls st) hr
  | arraylength =>
    have hlen := pm_lnE (k := 1) (by decide) hln
    subst hlen
    have hr : pm_gLen X ih d h m E.2.2.1 pc 1 ls st = some o := hr
    exact pm_jLen F hA hd hK0 hr
  | iaload =>
    have hlen := pm_lnE (k := 1) (by decide) hln
    subst hlen
    have hr : pm_gAld X 0 0 ih d h m E.2.2.1 pc 1 ls st = some o := hr
    exact pm_jIald F hA (pm_rowI F hA hd) (fun _ => hd) hK0 hr
  | baload =>
    have hlen := pm_lnE (k := 1) (by decide) hln
    subst hlen
    have hr : pm_gAld X 1 4 ih d h m E.2.2.1 pc 1 ls st = some o := hr
    exact pm_jIald F hA (pm_rowB F hA hd) (fun q => by omega) hK0 hr
  | caload =>
    have hlen := pm_lnE (k := 1) (by decide) hln
    subst hlen
    have hr : pm_gAld X 2 2 ih d h m E.2.2.1 pc 1 ls st = some o := hr
    exact pm_jIald F hA (pm_rowC F hA hd) (fun q => by omega) hK0 hr
  | laload =>
    have hlen := pm_lnE (k := 1) (by decide) hln
    subst hlen
    have hr : pm_gLald X ih d h m E.2.2.1 pc 1 ls st = some o := hr
    exact pm_jLald F hA hd hK0 hr
  | aaload =>
    have hlen := pm_lnE (k := 1) (by decide) hln
    subst hlen
    have hr : pm_gAald ih d h m E.2.2.1 pc 1 ls st = some o := hr
    exact pm_jAald F hA hd hK0 hr
  | iastore =>
    have hlen := pm_lnE (k := 1) (by decide) hln
    subst hlen
    have hr : pm_gIst 0 (fun x => x) ih d h m E.2.2.1 pc 1 ls st = some o := hr
    have hok : (!Nat.beq m 309) = true := hok
    have hm : m ≠ 309 := fun q => by
      rw [q] at hok
      exact absurd hok (by decide)
    refine pm_jIast hA hm (by decide) (by decide) (fun k v j z LS rest hk hin kk => ?_) (fun h1 H1 locs1 q ls st => hK h1 H1 locs1 cells slots q ls st) hr
    have ha := pm_ws_at (ad := ad) (cA := cA) hk
    rw [show pm_re ad cA (.inl (0, v)) = .inl (cA 0, v.length, .inl (fun j => pm_iv (v.getD j .null))) from rfl] at ha
    exact va_iast hx hbc F.2.2.2.2.2.1.1 hA.1.1 hA.1.2.1 (pm_S_self hA.2.1) k 0 ha rfl hin hd kk
  | bastore =>
    have hlen := pm_lnE (k := 1) (by decide) hln
    subst hlen
    have hr : pm_gIst 1 (fun x => x &&& 1) ih d h m E.2.2.1 pc 1 ls st = some o := hr
    have hok : (!Nat.beq m 309) = true := hok
    have hm : m ≠ 309 := fun q => by
      rw [q] at hok
      exact absurd hok (by decide)
    refine pm_jIast hA hm (by decide) (by decide) (fun k v j z LS rest hk hin kk => ?_) (fun h1 H1 locs1 q ls st => hK h1 H1 locs1 cells slots q ls st) hr
    have ha := pm_ws_at (ad := ad) (cA := cA) hk
    rw [show pm_re ad cA (.inl (1, v)) = .inl (cA 1, v.length, .inl (fun j => pm_iv (v.getD j .null))) from rfl] at ha
    exact va_zast hx hbc F.2.2.2.2.2.1.1 hA.1.1 hA.1.2.1 (pm_S_self hA.2.1) k 1 ha rfl hin hd kk
  | castore =>
    have hlen := pm_lnE (k := 1) (by decide) hln
    subst hlen
    have hr : pm_gIst 2 (fun x => x.toUInt32.toUInt16.toUInt32.toInt32) ih d h m E.2.2.1 pc 1 ls st = some o := hr
    have hok : (!Nat.beq m 309) = true := hok
    have hm : m ≠ 309 := fun q => by
      rw [q] at hok
      exact absurd hok (by decide)
    refine pm_jIast hA hm (by decide) (by decide) (fun k v j z LS rest hk hin kk => ?_) (fun h1 H1 locs1 q ls st => hK h1 H1 locs1 cells slots q ls st) hr
    have ha := pm_ws_at (ad := ad) (cA := cA) hk
    rw [show pm_re ad cA (.inl (2, v)) = .inl (cA 2, v.length, .inl (fun j => pm_iv (v.getD j .null))) from rfl] at ha
    exact va_cast hx hbc F.2.2.2.2.2.1.1 hA.1.1 hA.1.2.1 (pm_S_self hA.2.1) k 2 ha rfl hin hd kk
  | lastore =>
    have hlen := pm_lnE (k := 1) (by decide) hln
    subst hlen
    have hr : pm_gLst ih d h m E.2.2.1 pc 1 ls st = some o := hr
    have hok : (!Nat.beq m 309) = true := hok
    have hm : m ≠ 309 := fun q => by
      rw [q] at hok
      exact absurd hok (by decide)
    exact pm_jLast F hA hm hd (fun h1 H1 locs1 q ls st => hK h1 H1 locs1 cells slots q ls st) hr
  | aastore =>
    have hlen := pm_lnE (k := 1) (by decide) hln
    subst hlen
    have hr : pm_gAst ih d h m E.2.2.1 pc 1 ls st = some o := hr
    have hok : (!Nat.beq m 309) = true := hok
    have hm : m ≠ 309 := fun q => by
      rw [q] at hok
      exact absurd hok (by decide)
    exact pm_jAast F hA hm hd (fun h1 H1 locs1 q ls st => hK h1 H1 locs1 cells slots q ls st) hr
  | invokestatic ix =>
    have hlen := pm_lnE (k := 3) (by decide) hln
    subst hlen
    have hr : pm_gInv X 2 ix ih d h m E.2.2.1 pc 3 ls st = some o := hr
    exact hinv 2 ix (Or.inr (Or.inl ⟨rfl, rfl⟩)) rfl hr
  | invokevirtual ix =>
    have hlen := pm_lnE (k := 3) (by decide) hln
    subst hlen
    have hr : pm_gInv X 1 ix ih d h m E.2.2.1 pc 3 ls st = some o := hr
    exact hinv 1 ix (Or.inl ⟨rfl, rfl⟩) rfl hr
  | invokespecial ix =>
    have hlen := pm_lnE (k := 3) (by decide) hln
    subst hlen
    have hr : pm_gInv X 3 ix ih d h m E.2.2.1 pc 3 ls st = some o := hr
    exact hinv 3 ix (Or.inr (Or.inr ⟨rfl, rfl⟩)) rfl hr
  | ireturn =>
    have hlen := pm_lnE (k := 1) (by decide) hln
    subst hlen
    have hr : pm_gRet 0 1 ih d h m E.2.2.1 pc 1 ls st = some o := hr
    unfold pm_gRet at hr
    split at hr
    · rename_i v
      rw [F.2.2.2.2.2.2.2.1] at hr
      dsimp only at hr
      replace hr := pm_cond_true hr
      obtain ⟨hb1, hr⟩ := hr
      replace hr := pm_cond_true hr
      obtain ⟨hb2, hr⟩ := hr
      replace hr := pm_cond_true hr
      obtain ⟨hb3, hr⟩ := hr
      have ho := (Option.some.inj hr).symm
      have q1 := Nat.le_of_ble_eq_true hb1
      have q2 := Nat.le_of_ble_eq_true hb2
      exact hend (by rw [ho]) (by rw [ho]; exact ⟨rfl, hb3, Or.inl ⟨q2, hd⟩⟩) (fun z hz => by rw [ho] at hz; cases hz)
    · cases hr
  | lreturn =>
    have hlen := pm_lnE (k := 1) (by decide) hln
    subst hlen
    have hr : pm_gRet 2 2 ih d h m E.2.2.1 pc 1 ls st = some o := hr
    unfold pm_gRet at hr
    split at hr
    · rename_i v
      rw [F.2.2.2.2.2.2.2.1] at hr
      dsimp only at hr
      replace hr := pm_cond_true hr
      obtain ⟨hb1, hr⟩ := hr
      replace hr := pm_cond_true hr
      obtain ⟨hb2, hr⟩ := hr
      replace hr := pm_cond_true hr
      obtain ⟨hb3, hr⟩ := hr
      have ho := (Option.some.inj hr).symm
      have q1 := Nat.le_of_ble_eq_true hb1
      have q2 := Nat.le_of_ble_eq_true hb2
      exact hend (by rw [ho]) (by rw [ho]; exact ⟨rfl, hb3, Or.inr (Or.inl ⟨by omega, hd⟩)⟩) (fun z hz => by rw [ho] at hz; cases hz)
    · cases hr
  | areturn =>
    have hlen := pm_lnE (k := 1) (by decide) hln
    subst hlen
    have hr : pm_gRet 3 3 ih d h m E.2.2.1 pc 1 ls st = some o := hr
    unfold pm_gRet at hr
    split at hr
    · rename_i v
      rw [F.2.2.2.2.2.2.2.1] at hr
      dsimp only at hr
      replace hr := pm_cond_true hr
      obtain ⟨hb1, hr⟩ := hr
      replace hr := pm_cond_true hr
      obtain ⟨hb2, hr⟩ := hr
      replace hr := pm_cond_true hr
      obtain ⟨hb3, hr⟩ := hr
      have ho := (Option.some.inj hr).symm
      have q1 := Nat.le_of_ble_eq_true hb1
      have q2 := Nat.le_of_ble_eq_true hb2
      exact hend (by rw [ho]) (by rw [ho]; exact ⟨rfl, hb3, Or.inr (Or.inr ⟨by omega, hd⟩)⟩) (fun z hz => by rw [ho] at hz; cases hz)
    · cases hr
  | return_ =>
    have hlen := pm_lnE (k := 1) (by decide) hln
    subst hlen
    have hr : pm_gRtv ih d h m E.2.2.1 pc 1 ls st = some o := hr
    unfold pm_gRtv at hr
    split at hr
    · rw [F.2.2.2.2.2.2.2.1] at hr
      dsimp only at hr
      replace hr := pm_cond_true hr
      obtain ⟨hb1, hr⟩ := hr
      have ho := (Option.some.inj hr).symm
      exact hend (by rw [ho]) (by rw [ho]; exact ⟨hd, rfl, Nat.eq_of_beq_eq_true hb1⟩) (fun z hz => by rw [ho] at hz; cases hz)
    · cases hr
  | _ => exact nomatch (show (none : pm_R) = some o from hr)
end PmO
end
section
/-! soundness: calls of methods that return -/
/-- a picture that has grown -/
def pm_le (h h1 : pm_H) : Prop := h.length ≤ h1.length ∧ pm_slt h ≤ pm_slt h1
theorem pm_le.rf (h : pm_H) : pm_le h h := ⟨Nat.le_refl _, Nat.le_refl _⟩
theorem pm_le.tr {a b c : pm_H} (h1 : pm_le a b) (h2 : pm_le b c) : pm_le a c := ⟨Nat.le_trans h1.1 h2.1, Nat.le_trans h1.2 h2.2⟩
theorem pm_pop_acc : ∀ (n : Nat) (st acc : List Value) (As rest : List Value), pm_pop n st acc = some (As, rest) → ∃ B : List Value, st = B ++ rest ∧ B.length = n ∧ As = B.reverse ++ acc
  | 0, st, acc, As, rest, h => by
    have h : some (acc, st) = some (As, rest) := h
    cases h
    exact ⟨[], rfl, rfl, rfl⟩
  | n + 1, [], acc, As, rest, h => by
    have h : (none : Option (List Value × List Value)) = some (As, rest) := h
    cases h
  | n + 1, v :: st, acc, As, rest, h => by
    have h : pm_pop n st (v :: acc) = some (As, rest) := h
    obtain ⟨B, h1, h2, h3⟩ := pm_pop_acc n st (v :: acc) As rest h
    exact ⟨v :: B, by rw [h1]; rfl, by simp [h2], by simp [h3]⟩
theorem pm_pop_some {n : Nat} {st As rest : List Value} (h : pm_pop n st [] = some (As, rest)) : st = As.reverse ++ rest ∧ As.length = n := by
  obtain ⟨B, h1, h2, h3⟩ := pm_pop_acc n st [] As rest h
  rw [List.append_nil] at h3
  subst h3
  exact ⟨by rw [List.reverse_reverse]; exact h1, by rw [List.length_reverse]; exact h2⟩
theorem pm_cl_nm {ci : Nat} {r : vw_C} (h : vwCl[ci]? = some r) : r.1 = pm_nm ci := by
  match ci, h with
  | 0, h => cases h; rfl
  | 1, h => cases h; rfl
  | 2, h => cases h; rfl
  | 3, h => cases h; rfl
  | 4, h => cases h; rfl
  | 5, h => cases h; rfl
  | 6, h => cases h; rfl
  | 7, h => cases h; rfl
  | 8, h => cases h; rfl
  | 9, h => cases h; rfl
  | 10, h => cases h; rfl
  | 11, h => cases h; rfl
  | 12, h => cases h; rfl
  | n + 13, h => cases h
theorem pm_ini_all : pm_kdt.all (fun c => c.all (fun q => !(Nat.beq q.2 3) || (match pm_ent q.1 with
  | some e => Nat.beq e.2.2.2.1 4
  | none => false))) = true := by decide +kernel
theorem pm_ini {m : Nat} {e : pm_M} (h : pm_get pm_kdt m = some 3) (he : pm_ent m = some e) : e.2.2.2.1 = 4 := by
  obtain ⟨c, hc, hm⟩ := pm_get_mem h
  have h1 := List.all_eq_true.mp (List.all_eq_true.mp pm_ini_all c hc) _ hm
  dsimp only at h1
  rw [he] at h1
  have h2 : (false || Nat.beq e.2.2.2.1 4) = true := h1
  rw [Bool.false_or] at h2
  exact Nat.eq_of_beq_eq_true h2
section PmI
variable {p : Program} {l : Launch} {e : Env} {R : Room} {s : State} {mid : MethodId} {args : Array Value} {below : List Frame} {meth : Method} {c : Code} {H : Heap} {locs : List Loc} {cells slots : Nat} {Q : State → Prop}
variable {D : va_G} {cA : Nat → ClassId} {A : Nat → Prop} {ad : Nat → Nat} {X : List (Nat × List Value)} {m : Nat} {E : pm_M} {y : pm_Hd} {hb sb x : Nat} {h : pm_H}
variable {d pc len : Nat} {ls : pm_L} {st : List Value} {ih : pm_I} {o : pm_H × (Option Value ⊕ Unit)}
theorem pm_NW_of {own ix : Nat} {y' : MethodName} (h : Cond.methodLinkNest (pm_nm own) ix y' "RiverWage" ∈ tables_1) : Cond.methodLinkNest (pm_nm own) ix y' "RiverWage" ∈ pm_NW := List.mem_filter.mpr ⟨h, rfl⟩
/-- a call that returns, by its kind: the machine runs it -/
theorem pm_run {how ix m' na ci d' : Nat} {As rest : List Value} {h1 : pm_H} {v : Option Value} {LS : Array Slot} {y' : pm_Hd} {e' : pm_M} (F : pm_Fr p s mid args meth c D cA A ad X m E y) (hA : pm_At s D cA A ad m hb sb x h H locs cells slots) (hl : pm_lr ad E.2.1 ls LS)
    (hg : pm_get (pm_lnk E.2.2.1) ix = some (how, m', na, ci)) (hhow : how = 1 ∨ how = 2 ∨ how = 3) (hd1 : (how = 1 → decode (pm_byt y.2.1) pc = .ok (.invokevirtual ix, 3)) ∧ (how = 2 → decode (pm_byt y.2.1) pc = .ok (.invokestatic ix, 3)) ∧ (how = 3 → decode (pm_byt y.2.1) pc = .ok (.invokespecial ix, 3)))
    (hy' : pm_get pm_hds m' = some y') (he' : pm_ent m' = some e') (hpop : pm_pop na st [] = some (As, rest)) (hcat : pm_cat8 rest = true)
    (hrcv : how = 1 → ∃ a r fs, As = .ref a :: r ∧ pm_cell h a = some (.inr (ci, fs))) (hrcv3 : how = 3 → ∃ a r, As = .ref a :: r)
    (hR : d' + 11 ≤ R.frames ∧ 100 * d' + 300 ≤ R.locals) (hle : pm_le h h1) (hf : cells + (h1.length - h.length) ≤ R.cells ∧ slots + (pm_slt h1 - pm_slt h) ≤ R.slots)
    (hM : pm_Mt l D cA A ad X y' e' d' h As h1 v) :
    va_Run p l e R s mid args below meth c H locs cells slots (h1.length - h.length) (pm_slt h1 - pm_slt h) (F0 mid pc LS (st.map (pm_rv ad))) (rest.map (pm_rv ad)) (pm_Qc D cA A ad h1 v (As.map (pm_rv ad)).toArray) A := by
  obtain ⟨y2, e2, q1, q2, q3, q4, q5, q6⟩ := pm_lkM hg (by omega)
  have ey : y2 = y' := Option.some.inj (q1.symm.trans hy')
  have ee : e2 = e' := Option.some.inj (q2.symm.trans he')
  subst ey; subst ee
  obtain ⟨y3, e3, ps, r1, r2, r3⟩ := pm_head q3
  have ey : y3 = y2 := Option.some.inj (r1.symm.trans hy')
  have ee : e3 = e2 := Option.some.inj (r2.symm.trans he')
  subst ey; subst ee
  obtain ⟨w1, w2, w3, w4, w5, w6, w7, w8, w9, w10⟩ := pm_hd_ok r3 hhow
  have hpre := pm_pre (As := As) F hA
  have F' := F
  obtain ⟨hx, hbc, hml, hown, hw, hCx, hnm, he, hyy, hAs⟩ := F
  have hS : CallFix p mid c (pm_byt y.2.1) E.2.1 s args pm_W0 (pm_nm E.2.2.1) := ⟨hx, hbc, hml, hown, hw⟩
  have hG : GoodIn pm_W0 (pm_wsm y3 e3) := pm_good fun w hw9 => by
    rcases List.mem_cons.mp hw9 with rfl | hw9
    · exact w1
    · exact hw9
  have hRR : (pm_rm d' (h1.length - h.length) (pm_slt h1 - pm_slt h)).frames + 1 ≤ R.frames ∧ 8 + (e3.2.1 + 11) + (pm_rm d' (h1.length - h.length) (pm_slt h1 - pm_slt h)).locals ≤ R.locals := ⟨hR.1, by show 8 + (e3.2.1 + 11) + (100 * d' + 200) ≤ R.locals; omega⟩
  obtain ⟨hst, hlen⟩ := pm_pop_some hpop
  have hst' : st.map (pm_rv ad) = (As.map (pm_rv ad)).reverse ++ rest.map (pm_rv ad) := by rw [hst, List.map_append, List.map_reverse]
  have hW8 : 2 * (F0 mid pc LS (st.map (pm_rv ad))).monitorRoom + ((rest.map (pm_rv ad)).map fun v => v.category).sum ≤ 8 := lv_room (pm_cat8_rv hcat)
  have hNw : ∀ {z : MethodName}, Cond.methodLinkNest (pm_nm E.2.2.1) ix z "RiverWage" ∈ tables_1 → va_Nw (.methodLinkNest (pm_nm E.2.2.1) ix z "RiverWage") s := fun hz => hCx.2.1 _ (pm_NW_of hz)
  rcases hhow with rfl | rfl | rfl
  · obtain ⟨a, r, fs, rfl, hc⟩ := hrcv rfl
    obtain ⟨v1, v2, v3⟩ := w8 rfl
    obtain ⟨k0, rfl, -, hk0⟩ := pm_cell_some hc
    obtain ⟨rr, hrr, -⟩ := hA.1.1 k0 _ (pm_ws_at hk0)
    have hnmc : rr.1 = y3.1.cls := by rw [pm_cl_nm hrr, w3, q5 (Or.inl rfl)]
    have hrec := va_recv hCx.1 hA.1.1 hrr (pm_ws_at hk0)
    rw [hnmc] at hrec
    have hn : (r.map (pm_rv ad)).length = e3.1 - 1 := by
      have : r.length + 1 = na := hlen
      rw [List.length_map]; omega
    have hdesc : (parseMethodDescriptor y3.1.desc).map (fun d => d.parameters.length) = some (e3.1 - 1) := by
      cases hpd : parseMethodDescriptor y3.1.desc with
      | none => rw [hpd] at v3; cases v3
      | some sg =>
        rw [hpd] at v3
        have : sg.parameters.length + 1 = e3.1 := Option.some.inj v3
        show some sg.parameters.length = some (e3.1 - 1)
        rw [← this]; rfl
    have hst2 : (F0 mid pc LS (st.map (pm_rv ad))).stack = (r.map (pm_rv ad)).reverse ++ .ref (ad (16 + k0)) :: rest.map (pm_rv ad) := by
      show st.map (pm_rv ad) = _
      rw [hst', List.map_cons, List.reverse_cons, List.append_assoc]
      rfl
    rcases q6 with q6 | q6
    · exact va_runV hS hM ⟨callB_of (e3.1 - 1) hw hG rfl rfl rfl (hw _ w2) (hw _ (pm_W0_of q6 rfl)) ⟨w7.1, w7.2, hdesc⟩ hRR, hw _ v1, hw _ v2⟩ ⟨pm_Pc_blind, hrec, hpre⟩ rfl hn hl.1 hst2 hW8 (hd1.1 rfl) hf
    · exact va_runVN hS hM ⟨va_cnB (e3.1 - 1) hw hG rfl rfl rfl (hNw q6) (hw _ w2) ⟨w7.1, w7.2, hdesc⟩ hRR, hw _ v1, hw _ v2⟩ ⟨pm_Pc_blind, hrec, hpre⟩ rfl hn hl.1 hst2 hW8 (hd1.1 rfl) hf
  · obtain ⟨v1, v2⟩ := w9 rfl
    have hn : (As.map (pm_rv ad)).length = e3.1 := by rw [List.length_map]; omega
    rcases q6 with q6 | q6
    · exact va_runS hS hM ⟨callB_of e3.1 hw hG rfl rfl rfl (hw _ w2) (hw _ (pm_W0_of q6 rfl)) ⟨w7.1, w7.2, v2⟩ hRR, hw _ v1⟩ ⟨pm_Pc_blind, hpre⟩ rfl hn hl.1 hst' hW8 (hd1.2.1 rfl) hf
    · exact va_runSN hS hM ⟨va_cnB e3.1 hw hG rfl rfl rfl (hNw q6) (hw _ w2) ⟨w7.1, w7.2, v2⟩ hRR, hw _ v1, trivial⟩ ⟨pm_Pc_blind, hpre⟩ rfl hn hl.1 hst' hW8 (hd1.2.1 rfl) hf
  · obtain ⟨a, r, rfl⟩ := hrcv3 rfl
    obtain ⟨v1, v2, v3⟩ := w10 rfl
    have hn : (r.map (pm_rv ad)).length = e3.1 - 1 := by
      have : r.length + 1 = na := hlen
      rw [List.length_map]; omega
    have hdesc : (parseMethodDescriptor y3.1.desc).map (fun d => d.parameters.length) = some (e3.1 - 1) := by
      cases hpd : parseMethodDescriptor y3.1.desc with
      | none => rw [hpd] at v3; cases v3
      | some sg =>
        rw [hpd] at v3
        have : sg.parameters.length + 1 = e3.1 := Option.some.inj v3
        show some sg.parameters.length = some (e3.1 - 1)
        rw [← this]; rfl
    have hst2 : (F0 mid pc LS (st.map (pm_rv ad))).stack = (r.map (pm_rv ad)).reverse ++ .ref (ad a) :: rest.map (pm_rv ad) := by
      show st.map (pm_rv ad) = _
      rw [hst', List.map_cons, List.reverse_cons, List.append_assoc]
      rfl
    have hret : y3.2.2 = none := by
      have h4 := pm_ini q3 he'
      rw [h4] at w4
      cases hz : y3.2.2 with
      | none => rfl
      | some ty => rw [hz] at w4; cases w4
    have hws : pm_wsm y3 e3 = Cond.code y3.1 (pm_byt y3.2.1) e3.2.1 none :: pm_W0 := by unfold pm_wsm; rw [hret]
    rcases q6 with q6 | q6
    · exact va_runI hS hM ⟨callB_of (e3.1 - 1) hw hG hws rfl rfl (hw _ w2) (hw _ (pm_W0_of q6 rfl)) ⟨w7.1, w7.2, hdesc⟩ hRR, v2, hw _ v1⟩ ⟨pm_Pc_blind, hpre⟩ rfl hn hl.1 hst2 hW8 (hd1.2.2 rfl) hf
    · exact va_runIN hS hM ⟨va_cnB (e3.1 - 1) hw hG hws rfl rfl (hNw q6) (hw _ w2) ⟨w7.1, w7.2, hdesc⟩ hRR, v2, hw _ v1⟩ ⟨pm_Pc_blind, hpre⟩ rfl hn hl.1 hst2 hW8 (hd1.2.2 rfl) hf
/-- a call in a frame of the class or the reference -/
theorem pm_jCall {how ix m' na ci : Nat} {As rest : List Value} (F : pm_Fr p s mid args meth c D cA A ad X m E y) (hA : pm_At s D cA A ad m hb sb x h H locs cells slots)
    (hg : pm_get (pm_lnk E.2.2.1) ix = some (how, m', na, ci)) (hhow : how = 1 ∨ how = 2 ∨ how = 3) (hd1 : (how = 1 → decode (pm_byt y.2.1) pc = .ok (.invokevirtual ix, 3)) ∧ (how = 2 → decode (pm_byt y.2.1) pc = .ok (.invokestatic ix, 3)) ∧ (how = 3 → decode (pm_byt y.2.1) pc = .ok (.invokespecial ix, 3)))
    (hpop : pm_pop na st [] = some (As, rest)) (hcat : pm_cat8 rest = true) (hrcv : how = 1 → ∃ a r fs, As = .ref a :: r ∧ pm_cell h a = some (.inr (ci, fs))) (hrcv3 : how = 3 → ∃ a r, As = .ref a :: r)
    (hR : d + 10 ≤ R.frames ∧ 100 * d + 200 ≤ R.locals) (hroom : ∀ (h1 : pm_H) (q : Nat) (ls : pm_L) (st : List Value), ih d h1 m q ls st = some o → h1.length + x ≤ R.cells + hb ∧ pm_slt h1 + 6 * x ≤ R.slots + sb)
    (hmono : ∀ d' h0 m0 q ls st h1 v, ih d' h0 m0 q ls st = some (h1, v) → pm_le h0 h1)
    (hM : ∀ d' m' y' e' As h1 v, pm_get pm_hds m' = some y' → pm_ent m' = some e' → pm_get pm_kdt m' = some how → As.length = e'.1 → (pm_lay As e'.2.1).length = e'.2.1 → ih d' h m' 0 (pm_lay As e'.2.1) [] = some (h1, .inl v) → pm_Mt l D cA A ad X y' e' d' h As h1 v)
    (hK : ∀ h1 H1 locs1 cells1 slots1 q ls st, pm_At s D cA A ad m hb sb x h1 H1 locs1 cells1 slots1 → ih d h1 m q ls st = some o → pm_J p l e R s mid args below meth c H1 locs1 cells1 slots1 Q ad E.2.1 q ls st)
    (hr : pm_call ih d h m pc ls m' As rest false = some o) : pm_J p l e R s mid args below meth c H locs cells slots Q ad E.2.1 pc ls st := by
  intro LS hl
  unfold pm_call at hr
  split at hr
  · cases hr
  · rename_i d'
    split at hr
    · cases hr
    · rename_i e' he'
      replace hr := pm_cond_true hr
      obtain ⟨hb1, hr⟩ := hr
      rw [pm_len_eq] at hb1
      have hb1 := Nat.eq_of_beq_eq_true hb1
      split at hr
      · rename_i h1 v hrun
        rw [pm_fn_eq] at hr
        obtain ⟨y2, e2, q1, q2, q3, q4, q5, q6⟩ := pm_lkM hg (by omega)
        have ee : e2 = e' := Option.some.inj (q2.symm.trans he')
        subst ee
        have hle := hmono _ _ _ _ _ _ _ _ hrun
        obtain ⟨-, hlen⟩ := pm_pop_some hpop
        have hm := hM d' m' y2 e2 As h1 v q1 he' q3 (by omega) hb1 hrun
        obtain ⟨rm1, rm2⟩ := hroom _ _ _ _ hr
        have a4 := hA.2.2.2.1
        have a5 := hA.2.2.2.2
        have l1 := hle.1
        have l2 := hle.2
        refine pm_after (pm_run F hA hl hg hhow hd1 q1 he' hpop hcat hrcv hrcv3 ⟨by omega, by omega⟩ hle ⟨by omega, by omega⟩ hm) hA hle.1 hle.2 fun H1 locs1 hA1 => ?_
        have hj := hK _ _ _ _ _ _ _ _ hA1 hr LS hl
        cases v with
        | none => exact hj
        | some v => exact hj
      · cases hr
      · cases hr
end PmI
end
section
/-! soundness: what is called by its meaning (fill apart) -/
section PmP
variable {p : Program} {l : Launch} {e : Env} {R : Room} {s : State} {mid : MethodId} {args : Array Value} {below : List Frame} {meth : Method} {c : Code} {H : Heap} {locs : List Loc} {cells slots : Nat} {Q : State → Prop}
variable {D : va_G} {cA : Nat → ClassId} {A : Nat → Prop} {ad : Nat → Nat} {X : List (Nat × List Value)} {m : Nat} {E : pm_M} {y : pm_Hd} {hb sb x : Nat} {h : pm_H}
variable {d pc len : Nat} {ls : pm_L} {st : List Value} {ih : pm_I} {o : pm_H × (Option Value ⊕ Unit)}
theorem pm_cat8_tl {v : Value} {r : List Value} (h : pm_cat8 (v :: r) = true) : pm_cat8 r = true := by
  have h1 := pm_cat8_sum h
  rw [List.map_cons, List.sum_cons] at h1
  have e : ∀ r : List Value, (List.rec 0 (fun v _ ih => v.category + ih) r : Nat) = (r.map fun v => v.category).sum := by
    intro r
    induction r with
    | nil => rfl
    | cons a r ih => rw [List.map_cons, List.sum_cons, ← ih]
  unfold pm_cat8
  rw [e]
  exact Nat.ble_eq_true_of_le (by omega)
theorem pm_jPrim {how ix f a b : Nat} (F : pm_Fr p s mid args meth c D cA A ad X m E y) (hA : pm_At s D cA A ad m hb sb x h H locs cells slots) (hg : pm_get (pm_lnk E.2.2.1) ix = some (12, f, a, b)) (hhow : how = cond (Nat.beq f 0) 3 2)
    (hd1 : (how = 2 → decode (pm_byt y.2.1) pc = .ok (.invokestatic ix, 3)) ∧ (how = 3 → decode (pm_byt y.2.1) pc = .ok (.invokespecial ix, 3))) (hm : m ≠ 309 ∨ f = 0)
    (hR : d + 10 ≤ R.frames ∧ 100 * d + 200 ≤ R.locals) (hroom : ∀ (h1 : pm_H) (q : Nat) (ls : pm_L) (st : List Value), ih d h1 m q ls st = some o → h1.length + x ≤ R.cells + hb ∧ pm_slt h1 + 6 * x ≤ R.slots + sb)
    (hfill : ∀ z k v r q, f = 6 → st = .int z :: .ref (16 + k) :: r → h[k]? = some (.inl (0, v)) → v.length ≤ 60000 → pm_cat8 r = true → ih d (h.set k (.inl (0, List.replicate v.length (.int z)))) m q ls r = some o → q = pc + 3 → pm_J p l e R s mid args below meth c H locs cells slots Q ad E.2.1 pc ls st)
    (hK : ∀ h1 H1 locs1 cells1 slots1 q ls st, pm_At s D cA A ad m hb sb x h1 H1 locs1 cells1 slots1 → ih d h1 m q ls st = some o → pm_J p l e R s mid args below meth c H1 locs1 cells1 slots1 Q ad E.2.1 q ls st)
    (hr : pm_prim X f (fun h' st' => cond (pm_cat8 st') (pm_fn (pc + 3) fun q => ih d h' m q ls st') none) h st = some o) : pm_J p l e R s mid args below meth c H locs cells slots Q ad E.2.1 pc ls st := by
  obtain ⟨i, hi⟩ := pm_link hg
  have hi : (Nat.ble f 6 && decide (tables_1[i]? = some (.methodLink (pm_nm E.2.2.1) ix (pm_prn f)))) = true := hi
  rw [Bool.and_eq_true, decide_eq_true_eq] at hi
  obtain ⟨hf6, hi⟩ := hi
  obtain ⟨hx, hbc, hml, hown, hw, hCx, hnm, he, hyy, hAs⟩ := id F
  have hlk : (Cond.methodLink (pm_nm E.2.2.1) ix (pm_prn f)).before args s = true := hw _ (pm_W0_at i hi rfl)
  have hini : (Cond.initialized "java/lang/Math").before args s = true := hw _ (pm_W0_of (by decide +kernel) rfl)
  have rooms : ∀ {h1 : pm_H} {q : Nat} {ls : pm_L} {st : List Value}, ih d h1 m q ls st = some o → h1.length = h.length → pm_slt h1 = pm_slt h → cells ≤ R.cells ∧ slots ≤ R.slots := by
    intro h1 q ls st hz e1 e2
    obtain ⟨r1, r2⟩ := hroom _ _ _ _ hz
    have a4 := hA.2.2.2.1
    have a5 := hA.2.2.2.2
    exact ⟨by omega, by omega⟩
  have hK0 : ∀ q ls st, ih d h m q ls st = some o → pm_J p l e R s mid args below meth c H locs cells slots Q ad E.2.1 q ls st := fun q ls st => hK h H locs cells slots q ls st hA
  intro LS hl
  have hls : c.maxLocals = LS.size := hml.trans hl.1.symm
  have hf : f = 0 ∨ f = 1 ∨ f = 2 ∨ f = 3 ∨ f = 4 ∨ f = 5 ∨ f = 6 := by
    have := Nat.le_of_ble_eq_true hf6
    omega
  rcases hf with rfl | rfl | rfl | rfl | rfl | rfl | rfl
  · replace hr : pm_p0 X (fun h' st' => cond (pm_cat8 st') (pm_fn (pc + 3) fun q => ih d h' m q ls st') none) h st = some o := hr
    unfold pm_p0 at hr
    split at hr
    · rename_i z r
      replace hr := pm_cond_true hr
      obtain ⟨hb1, hr⟩ := hr
      rw [pm_fn_eq] at hr
      have h8 := lv_room (m := mid) (pc := pc) (ls := LS) (rest := (Value.ref z :: r).map (pm_rv ad)) (pm_cat8_rv (ad := ad) hb1)
      refine W.objInit hx hbc hown hlk (hw _ (pm_W0_of (by decide +kernel) rfl)) (hw _ (pm_W0_of (by decide +kernel) rfl)) rfl hls.symm rfl (hd1.2 hhow) (by omega) (by omega) (hK0 _ _ _ hr LS hl)
    · cases hr
  · replace hr : pm_p1 X (fun h' st' => cond (pm_cat8 st') (pm_fn (pc + 3) fun q => ih d h' m q ls st') none) h st = some o := hr
    unfold pm_p1 at hr
    split at hr
    · replace hr := pm_cond_true hr
      obtain ⟨hb1, hr⟩ := hr
      rw [pm_fn_eq] at hr
      have h8 := pm_cat8_rv (ad := ad) (pm_cat8_tl hb1)
      obtain ⟨c1, c2⟩ := rooms hr rfl rfl
      exact va_mmax hx hbc hls hown hlk (hw _ (pm_W0_of (by decide +kernel) rfl)) hini (hw _ (pm_W0_of (by decide +kernel) rfl)) (by omega) (by omega) c1 c2 (hd1.1 hhow) (hK0 _ _ _ hr LS hl)
    · cases hr
  · replace hr : pm_p2 X (fun h' st' => cond (pm_cat8 st') (pm_fn (pc + 3) fun q => ih d h' m q ls st') none) h st = some o := hr
    unfold pm_p2 at hr
    split at hr
    · replace hr := pm_cond_true hr
      obtain ⟨hb1, hr⟩ := hr
      rw [pm_fn_eq] at hr
      have h8 := pm_cat8_rv (ad := ad) (pm_cat8_tl hb1)
      obtain ⟨c1, c2⟩ := rooms hr rfl rfl
      exact va_mmin hx hbc hls hown hlk (hw _ (pm_W0_of (by decide +kernel) rfl)) hini (hw _ (pm_W0_of (by decide +kernel) rfl)) (by omega) (by omega) c1 c2 (hd1.1 hhow) (hK0 _ _ _ hr LS hl)
    · cases hr
  · replace hr : pm_p3 X (fun h' st' => cond (pm_cat8 st') (pm_fn (pc + 3) fun q => ih d h' m q ls st') none) h st = some o := hr
    unfold pm_p3 at hr
    split at hr
    · replace hr := pm_cond_true hr
      obtain ⟨hb1, hr⟩ := hr
      rw [pm_fn_eq] at hr
      have h8 := pm_cat8_rv (ad := ad) (pm_cat8_tl hb1)
      obtain ⟨c1, c2⟩ := rooms hr rfl rfl
      exact va_mabs hx hbc hls hown hlk (hw _ (pm_W0_of (by decide +kernel) rfl)) hini (hw _ (pm_W0_of (by decide +kernel) rfl)) (by omega) (by omega) c1 c2 (hd1.1 hhow) (hK0 _ _ _ hr LS hl)
    · cases hr
  · replace hr : pm_p4 X (fun h' st' => cond (pm_cat8 st') (pm_fn (pc + 3) fun q => ih d h' m q ls st') none) h st = some o := hr
    unfold pm_p4 at hr
    split at hr
    · replace hr := pm_cond_true hr
      obtain ⟨hb1, hr⟩ := hr
      rw [pm_fn_eq] at hr
      have h8 := pm_cat8_rv (ad := ad) (pm_cat8_tl hb1)
      obtain ⟨c1, c2⟩ := rooms hr rfl rfl
      exact va_mabs_long hx hbc hls hown hlk (hw _ (pm_W0_of (by decide +kernel) rfl)) hini (hw _ (pm_W0_of (by decide +kernel) rfl)) (by omega) (by omega) c1 c2 (hd1.1 hhow) (hK0 _ _ _ hr LS hl)
    · cases hr
  · have hm := hm.resolve_right (by decide)
    replace hr : pm_p5 X (fun h' st' => cond (pm_cat8 st') (pm_fn (pc + 3) fun q => ih d h' m q ls st') none) h st = some o := hr
    unfold pm_p5 at hr
    split at hr
    · rename_i n dp d0 sp a0 r
      split at hr
      · rename_i t v t' v' hrow hc
        replace hr := pm_cond_true hr
        obtain ⟨hb1, hr⟩ := hr
        replace hr := pm_cond_true hr
        obtain ⟨hb2, hr⟩ := hr
        rw [pm_fn_eq] at hr
        simp only [Bool.and_eq_true, Bool.not_eq_true', decide_eq_false_iff_not] at hb1
        obtain ⟨t1, t2, t3, t4, t5, t6, t7, t8⟩ := hb1
        have t1 := Nat.eq_of_beq_eq_true t1
        have t2 := Nat.eq_of_beq_eq_true t2
        have t3 := Nat.le_of_ble_eq_true t3
        rw [pm_len_eq] at t7 t8
        have t7 := Nat.le_of_ble_eq_true t7
        have t8 := Nat.le_of_ble_eq_true t8
        subst t1; subst t2
        obtain ⟨k1, rfl, e2, hk1⟩ := pm_cell_some hc
        rw [e2, pm_set_eq] at hr
        have h8 := pm_cat8_rv (ad := ad) hb2
        rcases pm_row_own hrow with ⟨q1, -⟩ | ⟨k0, rfl, hk0⟩
        · omega
        · have ha0 := pm_ws_at (ad := ad) (cA := cA) hk0
          have ha1 := pm_ws_at (ad := ad) (cA := cA) hk1
          rw [show pm_re ad cA (.inl (0, v)) = .inl (cA 0, v.length, .inl (fun j => pm_iv (v.getD j .null))) from rfl] at ha0
          rw [show pm_re ad cA (.inl (0, v')) = .inl (cA 0, v'.length, .inl (fun j => pm_iv (v'.getD j .null))) from rfl] at ha1
          refine va_copyi (ty := .int) hx hbc hls hown hlk (hw _ (pm_W0_of (by decide +kernel) rfl)) (hw _ (pm_W0_of (by decide +kernel) rfl)) (hw _ (pm_W0_of (by decide +kernel) rfl)) hCx.1 hA.1.1 hA.1.2.1 (pm_S_self hA.2.1) k0 k1 0 0 ha0 ha1 rfl rfl rfl t6 t5 t4 t7 t8 (fun _ _ => rfl) (by omega) (by show _ + (7 + 11) ≤ _; omega) (hd1.1 hhow) fun H1 locs1 hP1 hD1 hS1 => ?_
          have e3 : (.inl (cA 0, v'.length, .inl (va_cpy (fun j => pm_iv (v.getD j .null)) (fun j => pm_iv (v'.getD j .null)) sp.toNatClampNeg dp.toNatClampNeg n.toNatClampNeg)) : va_E) = pm_re ad cA (.inl (0, pm_cpy v v' sp.toNatClampNeg dp.toNatClampNeg n.toNatClampNeg)) := by
            show _ = Sum.inl (cA 0, (pm_cpy v v' sp.toNatClampNeg dp.toNatClampNeg n.toNatClampNeg).length, pm_ct ad 0 (pm_cpy v v' sp.toNatClampNeg dp.toNatClampNeg n.toNatClampNeg))
            rw [pm_ctI ad _ (by decide) (by decide), pm_cpy_len _ _ _ _ _ t7 t8, pm_cpyF pm_iv _ _ _ _ _ t7 t8]
          rw [e3] at hP1 hD1
          refine pm_up fun hup => ?_
          exact hK _ H1 locs1 _ _ _ _ _ (hA.stored (c' := .inl (0, pm_cpy v v' sp.toNatClampNeg dp.toNatClampNeg n.toNatClampNeg)) hm hk1 (pm_cpy_len _ _ _ _ _ t7 t8) hP1 hD1 hS1 hup) hr LS hl
      · cases hr
    · cases hr
  · replace hr : pm_p6 X (fun h' st' => cond (pm_cat8 st') (pm_fn (pc + 3) fun q => ih d h' m q ls st') none) h st = some o := hr
    unfold pm_p6 at hr
    split at hr
    · rename_i z d0 r
      split at hr
      · rename_i t v hc
        replace hr := pm_cond_true hr
        obtain ⟨hb1, hr⟩ := hr
        replace hr := pm_cond_true hr
        obtain ⟨hb2, hr⟩ := hr
        rw [Bool.and_eq_true, pm_len_eq] at hb1
        obtain ⟨hb1, hb3⟩ := hb1
        have hb1 := Nat.eq_of_beq_eq_true hb1
        subst hb1
        obtain ⟨k1, rfl, e2, hk1⟩ := pm_cell_some hc
        rw [pm_fn_eq, e2, pm_set_eq, pm_rep_eq, pm_len_eq] at hr
        exact hfill z k1 v r _ rfl rfl hk1 (Nat.le_of_ble_eq_true hb3) hb2 hr rfl LS hl
      · cases hr
    · cases hr
end PmP
end
section
/-! soundness: the methods of the String constants -/
section PmS
variable {p : Program} {l : Launch} {e : Env} {R : Room} {s : State} {mid : MethodId} {args : Array Value} {below : List Frame} {meth : Method} {c : Code} {H : Heap} {locs : List Loc} {cells slots : Nat} {Q : State → Prop}
variable {D : va_G} {cA : Nat → ClassId} {A : Nat → Prop} {ad : Nat → Nat} {X : List (Nat × List Value)} {m : Nat} {E : pm_M} {y : pm_Hd} {hb sb x : Nat} {h : pm_H}
variable {d pc len : Nat} {ls : pm_L} {st : List Value} {ih : pm_I} {o : pm_H × (Option Value ⊕ Unit)}
theorem pm_sx_some {a : Nat} {l : List Value} (hx : pm_sx X a = some l) : 4 ≤ a ∧ a < 12 ∧ X[a]? = some (4, l) := by
  unfold pm_sx at hx
  cases hb : (Nat.ble 4 a && Nat.blt a 12) with
  | false => rw [hb] at hx; cases hx
  | true =>
    rw [hb, cond_true] at hx
    rw [Bool.and_eq_true] at hb
    refine ⟨Nat.le_of_ble_eq_true hb.1, pm_blt hb.2, ?_⟩
    rw [pm_nth_eq] at hx
    split at hx
    · rename_i q hq
      cases hc : Nat.beq q.1 4 with
      | false => rw [hc] at hx; cases hx
      | true =>
        rw [hc] at hx
        have h1 : q.2 = l := Option.some.inj hx
        have h2 := Nat.eq_of_beq_eq_true hc
        rw [hq]
        obtain ⟨q1, q2⟩ := q
        dsimp only at h1 h2
        rw [h1, h2]
    · cases hx
theorem pm_ixF_eq (z : Int32) : ∀ (bs : List Int32) (k : Nat), pm_ixF z (bs.map Value.int) k = ps_ixF z bs k
  | [], k => rfl
  | b :: bs, k => by
    have e : pm_ixF z ((b :: bs).map Value.int) k = cond (decide (b = z)) (Int32.ofNat k) (pm_ixF z (bs.map Value.int) (k + 1)) := rfl
    rw [e, pm_ixF_eq z bs (k + 1), ps_ixF]
    by_cases hb : b = z
    · rw [decide_eq_true hb, if_pos hb]; rfl
    · rw [decide_eq_false hb, if_neg hb]; rfl
theorem pm_jStr {ix f a b : Nat} (F : pm_Fr p s mid args meth c D cA A ad X m E y) (hA : pm_At s D cA A ad m hb sb x h H locs cells slots) (hg : pm_get (pm_lnk E.2.2.1) ix = some (15, f, a, b)) (hd1 : decode (pm_byt y.2.1) pc = .ok (.invokevirtual ix, 3))
    (hR : d + 10 ≤ R.frames ∧ 100 * d + 200 ≤ R.locals) (hroom : ∀ (h1 : pm_H) (q : Nat) (ls : pm_L) (st : List Value), ih d h1 m q ls st = some o → h1.length + x ≤ R.cells + hb ∧ pm_slt h1 + 6 * x ≤ R.slots + sb)
    (hK : ∀ h1 H1 locs1 cells1 slots1 q ls st, pm_At s D cA A ad m hb sb x h1 H1 locs1 cells1 slots1 → ih d h1 m q ls st = some o → pm_J p l e R s mid args below meth c H1 locs1 cells1 slots1 Q ad E.2.1 q ls st)
    (hr : pm_str X f (fun h' st' => cond (pm_cat8 st') (pm_fn (pc + 3) fun q => ih d h' m q ls st') none) h st = some o) : pm_J p l e R s mid args below meth c H locs cells slots Q ad E.2.1 pc ls st := by
  obtain ⟨i, hi⟩ := pm_link hg
  have hi : (Nat.ble 7 f && (Nat.ble f 9 && decide (tables_1[i]? = some (.methodLink (pm_nm E.2.2.1) ix (pm_prs f))))) = true := hi
  rw [Bool.and_eq_true, Bool.and_eq_true, decide_eq_true_eq] at hi
  obtain ⟨hf7, hf9, hi⟩ := hi
  have hlk := List.mem_of_getElem? hi
  obtain ⟨hx, hbc, hml, hown, hw, hCx, hnm, he, hyy, hAs⟩ := id F
  have hSx : CallFix p mid c (pm_byt y.2.1) E.2.1 s args pm_W0 (pm_nm E.2.2.1) := ⟨hx, hbc, hml, hown, hw⟩
  have hst := hCx.2.2.2.2.2.2.2.2
  have rooms : ∀ {q : Nat} {ls : pm_L} {st : List Value}, ih d h m q ls st = some o → cells ≤ R.cells ∧ slots ≤ R.slots := by
    intro q ls st hz
    obtain ⟨r1, r2⟩ := hroom _ _ _ _ hz
    have a4 := hA.2.2.2.1
    have a5 := hA.2.2.2.2
    exact ⟨by omega, by omega⟩
  have hK0 : ∀ q ls st, ih d h m q ls st = some o → pm_J p l e R s mid args below meth c H locs cells slots Q ad E.2.1 q ls st := fun q ls st => hK h H locs cells slots q ls st hA
  have hpre : ∀ {a v : Nat} {bs : List Int32} (As : List Value), ps_O A (ad a) v bs s → PreV s H "java/lang/String" (ad a) (ps_P (.ref (ad a) :: As) A (ad a) v bs) As := fun {a v bs} As ho => by
    refine ⟨ps_P_blind, ?_, fun U hU hW => ⟨rfl, hst.1.go hW.alike (by rw [hU]; exact hA.2.1), ho.go hW.alike (by rw [hU]; exact hA.2.1)⟩⟩
    obtain ⟨cell, h1, h2, h3, h4⟩ := ho.1.kept hA.2.1.2.1
    exact ⟨cell, h1, h2, h3⟩
  intro LS hl
  have hf : f = 7 ∨ f = 8 ∨ f = 9 := by
    have := Nat.le_of_ble_eq_true hf7
    have := Nat.le_of_ble_eq_true hf9
    omega
  rcases hf with rfl | rfl | rfl
  · replace hr : pm_t7 X (fun h' st' => cond (pm_cat8 st') (pm_fn (pc + 3) fun q => ih d h' m q ls st') none) h st = some o := hr
    unfold pm_t7 at hr
    split at hr
    · rename_i a r
      split at hr
      · rename_i v hsx
        obtain ⟨g1, g2, g3⟩ := pm_sx_some hsx
        obtain ⟨v0, bs, rfl, e2, e3, e4⟩ := hst.2 a v g1 g2 g3
        rw [pm_fn_eq, pm_len_eq, List.length_map] at hr
        replace hr := pm_cond_true hr
        obtain ⟨hb1, hr⟩ := hr
        rw [pm_fn_eq] at hr
        exact ps_callV (As := []) (n := 0) hSx (ps_len l A (ad a) v0 bs) (by decide +kernel) rfl hlk (by decide +kernel) (by decide +kernel) (by decide +kernel) ⟨rfl, rfl⟩ ⟨by show 1 + 1 ≤ _; omega, by show 8 + (1 + 11) + 20 ≤ _; omega⟩ (hpre [] e4) rfl hl.1 (pm_cat8_rv (ad := ad) (pm_cat8_tl hb1)) hd1 (rooms hr) (hK0 _ _ _ hr LS hl)
      · cases hr
    · cases hr
  · replace hr : pm_t8 X (fun h' st' => cond (pm_cat8 st') (pm_fn (pc + 3) fun q => ih d h' m q ls st') none) h st = some o := hr
    unfold pm_t8 at hr
    split at hr
    · rename_i j a r
      split at hr
      · rename_i v hsx
        obtain ⟨g1, g2, g3⟩ := pm_sx_some hsx
        obtain ⟨v0, bs, rfl, e2, e3, e4⟩ := hst.2 a v g1 g2 g3
        replace hr := pm_cond_false hr
        obtain ⟨hj0, hr⟩ := hr
        have hj0 := of_decide_eq_false hj0
        rw [pm_nth_eq, List.getElem?_map] at hr
        split at hr
        · rename_i z hz
          replace hr := pm_cond_true hr
          obtain ⟨hb1, hr⟩ := hr
          rw [pm_fn_eq] at hr
          obtain ⟨k, hk, rfl⟩ := nI_of hj0
          rw [nI_clamp hk] at hz
          cases hq : bs[k]? with
          | none => rw [hq] at hz; cases hz
          | some w =>
            rw [hq] at hz
            have hw9 : w = z := by cases hz; rfl
            subst hw9
            have hkl : k < bs.length := (List.getElem?_eq_some_iff.mp hq).1
            have hgd : bs.getD k 0 = w := by rw [List.getD_eq_getElem?_getD, hq]; rfl
            have hM := ps_ca l A (ad a) v0 bs k hkl e3
            rw [hgd] at hM
            exact ps_callV (As := [.int (nI k)]) (n := 1) hSx hM (by decide +kernel) rfl hlk (by decide +kernel) (by decide +kernel) (by decide +kernel) ⟨rfl, rfl⟩ ⟨by show 3 + 1 ≤ _; omega, by show 8 + (2 + 11) + 64 ≤ _; omega⟩ (hpre [.int (nI k)] e4) rfl hl.1 (pm_cat8_rv (ad := ad) (pm_cat8_tl hb1)) hd1 (rooms hr) (hK0 _ _ _ hr LS hl)
        · cases hr
      · cases hr
    · cases hr
  · replace hr : pm_t9 X (fun h' st' => cond (pm_cat8 st') (pm_fn (pc + 3) fun q => ih d h' m q ls st') none) h st = some o := hr
    unfold pm_t9 at hr
    split at hr
    · rename_i z a r
      split at hr
      · rename_i v hsx
        obtain ⟨g1, g2, g3⟩ := pm_sx_some hsx
        obtain ⟨v0, bs, rfl, e2, e3, e4⟩ := hst.2 a v g1 g2 g3
        rw [pm_ixF_eq] at hr
        replace hr := pm_cond_true hr
        obtain ⟨hb1, hr⟩ := hr
        rw [pm_fn_eq] at hr
        exact ps_callV (As := [.int z]) (n := 1) hSx (ps_ix l A (ad a) v0 bs z e2 e3) (by decide +kernel) rfl hlk (by decide +kernel) (by decide +kernel) (by decide +kernel) ⟨rfl, rfl⟩ ⟨by show 3 + 1 ≤ _; omega, by show 8 + (2 + 11) + 70 ≤ _; omega⟩ (hpre [.int z] e4) rfl hl.1 (pm_cat8_rv (ad := ad) (pm_cat8_tl hb1)) hd1 (rooms hr) (hK0 _ _ _ hr LS hl)
      · cases hr
    · cases hr
end PmS
end
section
/-! a run makes cells and slots, it takes none away (printed by wip/tool/mono.py) -/
/-- a simple handler goes on, or not -/
def pm_thru (f : pm_S) : Prop := ∀ (K : Nat → pm_L → List Value → pm_R) (pc len : Nat) (ls : pm_L) (st : List Value) (o : pm_H × (Option Value ⊕ Unit)), f K pc len ls st = some o → ∃ q ls' st', K q ls' st' = some o
theorem pm_tC (v : Value) : pm_thru (pm_sC v) := by
  intro K pc len ls st o h
  unfold pm_sC at h
  rw [pm_fn_eq] at h
  exact ⟨_, _, _, h⟩
theorem pm_tIld (k : Nat) : pm_thru (pm_sIld k) := by
  intro K pc len ls st o h
  unfold pm_sIld at h
  split at h
  · rw [pm_fn_eq] at h
    exact ⟨_, _, _, h⟩
  · cases h
theorem pm_tLld (k : Nat) : pm_thru (pm_sLld k) := by
  intro K pc len ls st o h
  unfold pm_sLld at h
  split at h
  · rw [pm_fn_eq] at h
    exact ⟨_, _, _, h⟩
  · cases h
theorem pm_tAld (k : Nat) : pm_thru (pm_sAld k) := by
  intro K pc len ls st o h
  unfold pm_sAld at h
  split at h
  · rw [pm_fn_eq] at h
    exact ⟨_, _, _, h⟩
  · cases h
theorem pm_tIst (k : Nat) : pm_thru (pm_sIst k) := by
  intro K pc len ls st o h
  unfold pm_sIst at h
  split at h
  · replace h := pm_cond_true h
    obtain ⟨-, h⟩ := h
    rw [pm_fi_eq, pm_fn_eq] at h
    exact ⟨_, _, _, h⟩
  · cases h
theorem pm_tLst (k : Nat) : pm_thru (pm_sLst k) := by
  intro K pc len ls st o h
  unfold pm_sLst at h
  split at h
  · replace h := pm_cond_true h
    obtain ⟨-, h⟩ := h
    rw [pm_fl_eq, pm_fn_eq] at h
    exact ⟨_, _, _, h⟩
  · cases h
theorem pm_tAst (k : Nat) : pm_thru (pm_sAst k) := by
  intro K pc len ls st o h
  unfold pm_sAst at h
  split at h
  · replace h := pm_cond_true h
    obtain ⟨-, h⟩ := h
    rw [pm_fn_eq] at h
    exact ⟨_, _, _, h⟩
  · cases h
theorem pm_tInc (k : Nat) (n : Int) : pm_thru (pm_sInc k n) := by
  intro K pc len ls st o h
  unfold pm_sInc at h
  split at h
  · replace h := pm_cond_true h
    obtain ⟨-, h⟩ := h
    rw [pm_fi_eq, pm_fn_eq] at h
    exact ⟨_, _, _, h⟩
  · cases h
theorem pm_tII (f : Int32 → Int32 → Int32) : pm_thru (pm_sII f) := by
  intro K pc len ls st o h
  unfold pm_sII at h
  split at h
  · rw [pm_fn_eq] at h
    exact ⟨_, _, _, h⟩
  · cases h
theorem pm_tI (f : Int32 → Int32) : pm_thru (pm_sI f) := by
  intro K pc len ls st o h
  unfold pm_sI at h
  split at h
  · rw [pm_fn_eq] at h
    exact ⟨_, _, _, h⟩
  · cases h
theorem pm_tLL (f : Int64 → Int64 → Int64) : pm_thru (pm_sLL f) := by
  intro K pc len ls st o h
  unfold pm_sLL at h
  split at h
  · rw [pm_fn_eq] at h
    exact ⟨_, _, _, h⟩
  · cases h
theorem pm_tLI (f : Int64 → Int32 → Int64) : pm_thru (pm_sLI f) := by
  intro K pc len ls st o h
  unfold pm_sLI at h
  split at h
  · rw [pm_fn_eq] at h
    exact ⟨_, _, _, h⟩
  · cases h
theorem pm_tL (f : Int64 → Int64) : pm_thru (pm_sL f) := by
  intro K pc len ls st o h
  unfold pm_sL at h
  split at h
  · rw [pm_fn_eq] at h
    exact ⟨_, _, _, h⟩
  · cases h
theorem pm_tIL (f : Int32 → Int64) : pm_thru (pm_sIL f) := by
  intro K pc len ls st o h
  unfold pm_sIL at h
  split at h
  · rw [pm_fn_eq] at h
    exact ⟨_, _, _, h⟩
  · cases h
theorem pm_tLi (f : Int64 → Int32) : pm_thru (pm_sLi f) := by
  intro K pc len ls st o h
  unfold pm_sLi at h
  split at h
  · rw [pm_fn_eq] at h
    exact ⟨_, _, _, h⟩
  · cases h
theorem pm_tCmp  : pm_thru (pm_sCmp) := by
  intro K pc len ls st o h
  unfold pm_sCmp at h
  split at h
  · rw [pm_fn_eq] at h
    exact ⟨_, _, _, h⟩
  · cases h
theorem pm_tIIz (f : Int32 → Int32 → Int32) : pm_thru (pm_sIIz f) := by
  intro K pc len ls st o h
  unfold pm_sIIz at h
  split at h
  · replace h := pm_cond_false h
    obtain ⟨-, h⟩ := h
    rw [pm_fn_eq] at h
    exact ⟨_, _, _, h⟩
  · cases h
theorem pm_tLLz (f : Int64 → Int64 → Int64) : pm_thru (pm_sLLz f) := by
  intro K pc len ls st o h
  unfold pm_sLLz at h
  split at h
  · replace h := pm_cond_false h
    obtain ⟨-, h⟩ := h
    rw [pm_fn_eq] at h
    exact ⟨_, _, _, h⟩
  · cases h
theorem pm_tDup  : pm_thru (pm_sDup) := by
  intro K pc len ls st o h
  unfold pm_sDup at h
  split at h
  · replace h := pm_cond_true h
    obtain ⟨-, h⟩ := h
    rw [pm_fn_eq] at h
    exact ⟨_, _, _, h⟩
  · cases h
theorem pm_tPop  : pm_thru (pm_sPop) := by
  intro K pc len ls st o h
  unfold pm_sPop at h
  split at h
  · replace h := pm_cond_true h
    obtain ⟨-, h⟩ := h
    rw [pm_fn_eq] at h
    exact ⟨_, _, _, h⟩
  · cases h
theorem pm_tPop2  : pm_thru (pm_sPop2) := by
  intro K pc len ls st o h
  unfold pm_sPop2 at h
  split at h
  · replace h := pm_cond_true h
    obtain ⟨-, h⟩ := h
    rw [pm_fn_eq] at h
    exact ⟨_, _, _, h⟩
  · cases h
theorem pm_tIf (c : ClassFile.Cond) (off : Int) : pm_thru (pm_sIf c off) := by
  intro K pc len ls st o h
  unfold pm_sIf at h
  split at h
  · rename_i x r
    obtain ⟨t, -, h⟩ := pm_to_some h
    generalize pm_cnd c x 0 = b at h
    cases b with
    | true => exact ⟨_, _, _, h⟩
    | false =>
      rw [cond_false, pm_fn_eq] at h
      exact ⟨_, _, _, h⟩
  · cases h
theorem pm_tIf2 (c : ClassFile.Cond) (off : Int) : pm_thru (pm_sIf2 c off) := by
  intro K pc len ls st o h
  unfold pm_sIf2 at h
  split at h
  · rename_i y x r
    obtain ⟨t, -, h⟩ := pm_to_some h
    generalize pm_cnd c x y = b at h
    cases b with
    | true => exact ⟨_, _, _, h⟩
    | false =>
      rw [cond_false, pm_fn_eq] at h
      exact ⟨_, _, _, h⟩
  · cases h
theorem pm_tGo (off : Int) : pm_thru (pm_sGo off) := by
  intro K pc len ls st o h
  unfold pm_sGo at h
  obtain ⟨t, -, h⟩ := pm_to_some h
  exact ⟨_, _, _, h⟩
theorem pm_tTsw (d lo hi : Int) (offs : Array Int) : pm_thru (pm_sTsw d lo hi offs) := by
  intro K pc len ls st o h
  unfold pm_sTsw at h
  split at h
  · unfold pm_tsw at h
    split at h
    · obtain ⟨t, -, h⟩ := pm_to_some h
      exact ⟨_, _, _, h⟩
    · split at h
      · obtain ⟨t, -, h⟩ := pm_to_some h
        exact ⟨_, _, _, h⟩
      · cases h
  · cases h
theorem pm_tLsw (d : Int) (ps : Array (Int × Int)) : pm_thru (pm_sLsw d ps) := by
  intro K pc len ls st o h
  unfold pm_sLsw at h
  split at h
  · replace h := pm_cond_true h
    obtain ⟨-, h⟩ := h
    obtain ⟨t, -, h⟩ := pm_to_some h
    exact ⟨_, _, _, h⟩
  · cases h
/-- what comes behind has grown -/
def pm_up0 (ih : pm_I) : Prop := ∀ d h m pc ls st o, ih d h m pc ls st = some o → pm_le h o.1
def pm_thg (g : pm_G) : Prop := ∀ (ih : pm_I) (d : Nat) (h : pm_H) (m own pc len : Nat) (ls : pm_L) (st : List Value) (o : pm_H × (Option Value ⊕ Unit)), pm_up0 ih → g ih d h m own pc len ls st = some o → pm_le h o.1
theorem pm_tLift {f : pm_S} (hf : pm_thru f) : pm_thg (pm_lift f) := by
  intro ih d h m own pc len ls st o hu hr
  obtain ⟨q, ls', st', hr⟩ := hf (ih d h m) pc len ls st o hr
  exact hu _ _ _ _ _ _ _ hr
theorem pm_le_set {h : pm_H} {k : Nat} {c c' : pm_C} (hk : h[k]? = some c) (hz : pm_sz c' = pm_sz c) : pm_le h (h.set k c') := ⟨by simp, by rw [pm_slt_set hk hz]; exact Nat.le_refl _⟩
theorem pm_le_push (h : pm_H) (c : pm_C) : pm_le h (h ++ [c]) := ⟨by simp, by rw [pm_slt_push]; omega⟩
theorem pm_tgLdc (ix : Nat) : pm_thg (pm_gLdc ix) := by
  intro ih d h m own pc len ls st o hu hr
  unfold pm_gLdc at hr
  split at hr
  · rw [pm_fn_eq] at hr
    exact hu _ _ _ _ _ _ _ hr
  · rw [pm_fn_eq] at hr
    exact hu _ _ _ _ _ _ _ hr
  · cases hr
theorem pm_tgLdw (ix : Nat) : pm_thg (pm_gLdw ix) := by
  intro ih d h m own pc len ls st o hu hr
  unfold pm_gLdw at hr
  split at hr
  · rw [pm_fn_eq] at hr
    exact hu _ _ _ _ _ _ _ hr
  · cases hr
theorem pm_tgLd2 (ix : Nat) : pm_thg (pm_gLd2 ix) := by
  intro ih d h m own pc len ls st o hu hr
  unfold pm_gLd2 at hr
  split at hr
  · rw [pm_fn_eq] at hr
    exact hu _ _ _ _ _ _ _ hr
  · cases hr
theorem pm_tgSta (ix : Nat) : pm_thg (pm_gSta ix) := by
  intro ih d h m own pc len ls st o hu hr
  unfold pm_gSta at hr
  split at hr
  · rw [pm_fn_eq] at hr
    exact hu _ _ _ _ _ _ _ hr
  · cases hr
theorem pm_tgGet (ix : Nat) : pm_thg (pm_gGet ix) := by
  intro ih d h m own pc len ls st o hu hr
  unfold pm_gGet at hr
  split at hr
  · split at hr
    · replace hr := pm_cond_true hr
      obtain ⟨-, hr⟩ := hr
      split at hr
      · rw [pm_fn_eq] at hr
        exact hu _ _ _ _ _ _ _ hr
      · cases hr
    · cases hr
  · cases hr
theorem pm_tgPut (ix : Nat) : pm_thg (pm_gPut ix) := by
  intro ih d h m own pc len ls st o hu hr
  unfold pm_gPut at hr
  split at hr
  · split at hr
    · rename_i hg hc
      replace hr := pm_cond_true hr
      obtain ⟨-, hr⟩ := hr
      replace hr := pm_cond_true hr
      obtain ⟨-, hr⟩ := hr
      replace hr := pm_cond_true hr
      obtain ⟨-, hr⟩ := hr
      obtain ⟨k0, rfl, e2, hk0⟩ := pm_cell_some hc
      rw [pm_fv_eq, pm_fn_eq, e2, pm_set_eq, pm_set_eq] at hr
      exact (pm_le_set hk0 (by simp [pm_sz])).tr (hu _ _ _ _ _ _ _ hr)
    · cases hr
  · cases hr
theorem pm_tgNew (X : List (Nat × List Value)) (ix : Nat) : pm_thg (pm_gNew X ix) := by
  intro ih d h m own pc len ls st o hu hr
  unfold pm_gNew at hr
  split at hr
  · split at hr
    · replace hr := pm_cond_true hr
      obtain ⟨-, hr⟩ := hr
      rw [pm_fn_eq, pm_fn_eq] at hr
      exact (pm_le_push _ _).tr (hu _ _ _ _ _ _ _ hr)
    · cases hr
  · replace hr := pm_cond_true hr
    obtain ⟨-, hr⟩ := hr
    cases hr
    exact pm_le.rf _
  · cases hr
theorem pm_tgNwa (t : ArrayType) : pm_thg (pm_gNwa t) := by
  intro ih d h m own pc len ls st o hu hr
  unfold pm_gNwa at hr
  split at hr
  · replace hr := pm_cond_false hr
    obtain ⟨-, hr⟩ := hr
    replace hr := pm_cond_true hr
    obtain ⟨-, hr⟩ := hr
    replace hr := pm_cond_true hr
    obtain ⟨-, hr⟩ := hr
    rw [pm_fn_eq, pm_fn_eq] at hr
    exact (pm_le_push _ _).tr (hu _ _ _ _ _ _ _ hr)
  · cases hr
theorem pm_tgAnw (ix : Nat) : pm_thg (pm_gAnw ix) := by
  intro ih d h m own pc len ls st o hu hr
  unfold pm_gAnw at hr
  split at hr
  · replace hr := pm_cond_false hr
    obtain ⟨-, hr⟩ := hr
    replace hr := pm_cond_true hr
    obtain ⟨-, hr⟩ := hr
    rw [pm_fn_eq, pm_fn_eq] at hr
    exact (pm_le_push _ _).tr (hu _ _ _ _ _ _ _ hr)
  · cases hr
theorem pm_tgLen (X : List (Nat × List Value)) : pm_thg (pm_gLen X) := by
  intro ih d h m own pc len ls st o hu hr
  unfold pm_gLen at hr
  split at hr
  · split at hr
    · replace hr := pm_cond_true hr
      obtain ⟨-, hr⟩ := hr
      rw [pm_fn_eq, pm_fn_eq] at hr
      exact hu _ _ _ _ _ _ _ hr
    · cases hr
  · cases hr
theorem pm_tgAld (X : List (Nat × List Value)) (t t1 : Nat) : pm_thg (pm_gAld X t t1) := by
  intro ih d h m own pc len ls st o hu hr
  unfold pm_gAld at hr
  split at hr
  · split at hr
    · replace hr := pm_cond_true hr
      obtain ⟨-, hr⟩ := hr
      replace hr := pm_cond_false hr
      obtain ⟨-, hr⟩ := hr
      split at hr
      · rw [pm_fn_eq] at hr
        exact hu _ _ _ _ _ _ _ hr
      · cases hr
    · cases hr
  · cases hr
theorem pm_tgLald (X : List (Nat × List Value)) : pm_thg (pm_gLald X) := by
  intro ih d h m own pc len ls st o hu hr
  unfold pm_gLald at hr
  split at hr
  · split at hr
    · replace hr := pm_cond_true hr
      obtain ⟨-, hr⟩ := hr
      replace hr := pm_cond_false hr
      obtain ⟨-, hr⟩ := hr
      split at hr
      · rw [pm_fn_eq] at hr
        exact hu _ _ _ _ _ _ _ hr
      · cases hr
    · cases hr
  · cases hr
theorem pm_tgAald  : pm_thg (pm_gAald) := by
  intro ih d h m own pc len ls st o hu hr
  unfold pm_gAald at hr
  split at hr
  · split at hr
    · replace hr := pm_cond_true hr
      obtain ⟨-, hr⟩ := hr
      replace hr := pm_cond_false hr
      obtain ⟨-, hr⟩ := hr
      split at hr
      · rw [pm_fn_eq] at hr
        exact hu _ _ _ _ _ _ _ hr
      · cases hr
    · cases hr
  · cases hr
theorem pm_tgIst (t : Nat) (f : Int32 → Int32) : pm_thg (pm_gIst t f) := by
  intro ih d h m own pc len ls st o hu hr
  unfold pm_gIst at hr
  split at hr
  · split at hr
    · rename_i hc
      replace hr := pm_cond_true hr
      obtain ⟨-, hr⟩ := hr
      replace hr := pm_cond_true hr
      obtain ⟨-, hr⟩ := hr
      obtain ⟨k0, rfl, e2, hk0⟩ := pm_cell_some hc
      rw [pm_fi_eq, pm_fn_eq, e2, pm_set_eq, pm_set_eq] at hr
      exact (pm_le_set hk0 (by simp [pm_sz])).tr (hu _ _ _ _ _ _ _ hr)
    · cases hr
  · cases hr
theorem pm_tgLst  : pm_thg (pm_gLst) := by
  intro ih d h m own pc len ls st o hu hr
  unfold pm_gLst at hr
  split at hr
  · split at hr
    · rename_i hc
      replace hr := pm_cond_true hr
      obtain ⟨-, hr⟩ := hr
      replace hr := pm_cond_true hr
      obtain ⟨-, hr⟩ := hr
      obtain ⟨k0, rfl, e2, hk0⟩ := pm_cell_some hc
      rw [pm_fl_eq, pm_fn_eq, e2, pm_set_eq, pm_set_eq] at hr
      exact (pm_le_set hk0 (by simp [pm_sz])).tr (hu _ _ _ _ _ _ _ hr)
    · cases hr
  · cases hr
theorem pm_tgAst  : pm_thg (pm_gAst) := by
  intro ih d h m own pc len ls st o hu hr
  unfold pm_gAst at hr
  split at hr
  · split at hr
    · rename_i hc hcz
      replace hr := pm_cond_true hr
      obtain ⟨-, hr⟩ := hr
      replace hr := pm_cond_true hr
      obtain ⟨-, hr⟩ := hr
      obtain ⟨k0, rfl, e2, hk0⟩ := pm_cell_some hc
      rw [pm_fn_eq, e2, pm_set_eq, pm_set_eq] at hr
      exact (pm_le_set hk0 (by simp [pm_sz])).tr (hu _ _ _ _ _ _ _ hr)
    · cases hr
  · cases hr
theorem pm_tgRet (lo hi : Nat) : pm_thg (pm_gRet lo hi) := by
  intro ih d h m own pc len ls st o hu hr
  unfold pm_gRet at hr
  split at hr
  · split at hr
    · replace hr := pm_cond_true hr
      obtain ⟨-, hr⟩ := hr
      replace hr := pm_cond_true hr
      obtain ⟨-, hr⟩ := hr
      replace hr := pm_cond_true hr
      obtain ⟨-, hr⟩ := hr
      cases hr
      exact pm_le.rf _
    · cases hr
  · cases hr
theorem pm_tgRtv  : pm_thg (pm_gRtv) := by
  intro ih d h m own pc len ls st o hu hr
  unfold pm_gRtv at hr
  split at hr
  · split at hr
    · replace hr := pm_cond_true hr
      obtain ⟨-, hr⟩ := hr
      cases hr
      exact pm_le.rf _
    · cases hr
  · cases hr
theorem pm_tCall {ih : pm_I} {d : Nat} {h : pm_H} {m pc : Nat} {ls : pm_L} {m' : Nat} {As rest : List Value} {hnd : Bool} {o : pm_H × (Option Value ⊕ Unit)} (hu : pm_up0 ih) (hr : pm_call ih d h m pc ls m' As rest hnd = some o) : pm_le h o.1 := by
  unfold pm_call at hr
  split at hr
  · cases hr
  · split at hr
    · cases hr
    · replace hr := pm_cond_true hr
      obtain ⟨-, hr⟩ := hr
      split at hr
      · rename_i h1 v hrun
        rw [pm_fn_eq] at hr
        exact (hu _ _ _ _ _ _ _ hrun).tr (hu _ _ _ _ _ _ _ hr)
      · rename_i h1 v hrun
        replace hr := pm_cond_true hr
        obtain ⟨-, hr⟩ := hr
        cases hr
        exact (hu _ _ _ _ _ _ _ hrun : pm_le h (h1, Sum.inr v).1)
      · cases hr
theorem pm_tPrim {X : List (Nat × List Value)} {f : Nat} {K : pm_H → List Value → pm_R} {h : pm_H} {st : List Value} {o : pm_H × (Option Value ⊕ Unit)} (hK : ∀ h1 st1, K h1 st1 = some o → pm_le h1 o.1) (hr : pm_prim X f K h st = some o) : pm_le h o.1 := by
  unfold pm_prim at hr
  split at hr
  · unfold pm_p0 at hr
    split at hr
    · exact hK _ _ hr
    · cases hr
  · unfold pm_p1 at hr
    split at hr
    · exact hK _ _ hr
    · cases hr
  · unfold pm_p2 at hr
    split at hr
    · exact hK _ _ hr
    · cases hr
  · unfold pm_p3 at hr
    split at hr
    · exact hK _ _ hr
    · cases hr
  · unfold pm_p4 at hr
    split at hr
    · exact hK _ _ hr
    · cases hr
  · unfold pm_p5 at hr
    split at hr
    · split at hr
      · rename_i hrow hc
        replace hr := pm_cond_true hr
        obtain ⟨hb1, hr⟩ := hr
        simp only [Bool.and_eq_true] at hb1
        obtain ⟨t1, t2, t3, t4, t5, t6, t7, t8⟩ := hb1
        rw [pm_len_eq] at t7 t8
        obtain ⟨k0, rfl, e2, hk0⟩ := pm_cell_some hc
        rw [e2, pm_set_eq] at hr
        have hz := pm_cpy_len _ _ _ _ _ (Nat.le_of_ble_eq_true t7) (Nat.le_of_ble_eq_true t8)
        refine pm_le.tr ?_ (hK _ _ hr)
        exact pm_le_set hk0 hz
      · cases hr
    · cases hr
  · unfold pm_p6 at hr
    split at hr
    · split at hr
      · rename_i hc
        replace hr := pm_cond_true hr
        obtain ⟨-, hr⟩ := hr
        obtain ⟨k0, rfl, e2, hk0⟩ := pm_cell_some hc
        rw [e2, pm_set_eq, pm_rep_eq, pm_len_eq] at hr
        exact (pm_le_set hk0 (by simp [pm_sz])).tr (hK _ _ hr)
      · cases hr
    · cases hr
  · cases hr
theorem pm_tStr {X : List (Nat × List Value)} {f : Nat} {K : pm_H → List Value → pm_R} {h : pm_H} {st : List Value} {o : pm_H × (Option Value ⊕ Unit)} (hK : ∀ h1 st1, K h1 st1 = some o → pm_le h1 o.1) (hr : pm_str X f K h st = some o) : pm_le h o.1 := by
  unfold pm_str at hr
  split at hr
  · unfold pm_t7 at hr
    split at hr
    · split at hr
      · rw [pm_fn_eq] at hr
        exact hK _ _ hr
      · cases hr
    · cases hr
  · unfold pm_t8 at hr
    split at hr
    · split at hr
      · replace hr := pm_cond_false hr
        obtain ⟨-, hr⟩ := hr
        split at hr
        · exact hK _ _ hr
        · cases hr
      · cases hr
    · cases hr
  · unfold pm_t9 at hr
    split at hr
    · split at hr
      · exact hK _ _ hr
      · cases hr
    · cases hr
  · cases hr
theorem pm_tgInv (X : List (Nat × List Value)) (how ix : Nat) : pm_thg (pm_gInv X how ix) := by
  intro ih d h m own pc len ls st o hu hr
  unfold pm_gInv at hr
  split at hr
  · rename_i kind m' na ci hg
    cases hk : Nat.beq kind 12 with
    | true =>
      rw [hk, cond_true] at hr
      replace hr := pm_cond_true hr
      obtain ⟨-, hr⟩ := hr
      refine pm_tPrim (fun h1 st1 hz => ?_) hr
      replace hz := pm_cond_true hz
      obtain ⟨-, hz⟩ := hz
      rw [pm_fn_eq] at hz
      exact hu _ _ _ _ _ _ _ hz
    | false =>
      rw [hk, cond_false] at hr
      rcases Bool.eq_false_or_eq_true (Nat.beq kind 15) with hk15 | hk15
      · rw [hk15, cond_true] at hr
        replace hr := pm_cond_true hr
        obtain ⟨-, hr⟩ := hr
        refine pm_tStr (fun h1 st1 hz => ?_) hr
        replace hz := pm_cond_true hz
        obtain ⟨-, hz⟩ := hz
        rw [pm_fn_eq] at hz
        exact hu _ _ _ _ _ _ _ hz
      rw [hk15, cond_false] at hr
      split at hr
      · replace hr := pm_cond_true hr
        obtain ⟨-, hr⟩ := hr
        cases hk2 : Nat.beq kind how with
        | true =>
          rw [hk2, cond_true] at hr
          unfold pm_gC at hr
          split at hr
          · split at hr
            · split at hr
              · replace hr := pm_cond_true hr
                obtain ⟨-, hr⟩ := hr
                exact pm_tCall hu hr
              · cases hr
            · cases hr
          · exact pm_tCall hu hr
          · split at hr
            · exact pm_tCall hu hr
            · cases hr
          · cases hr
        | false =>
          rw [hk2, cond_false] at hr
          replace hr := pm_cond_true hr
          obtain ⟨-, hr⟩ := hr
          replace hr := pm_cond_true hr
          obtain ⟨-, hr⟩ := hr
          exact pm_tCall hu hr
      · cases hr
  · cases hr
theorem pm_tDsp (X : List (Nat × List Value)) (i : Instr) : pm_thg (pm_dsp X i) := by
  cases i with
  | iconst n => exact pm_tLift (pm_tC _)
  | bipush n => exact pm_tLift (pm_tC _)
  | sipush n => exact pm_tLift (pm_tC _)
  | lconst n => exact pm_tLift (pm_tC _)
  | aload k => exact pm_tLift (pm_tAld _)
  | aload_n k => exact pm_tLift (pm_tAld _)
  | iload k => exact pm_tLift (pm_tIld _)
  | iload_n k => exact pm_tLift (pm_tIld _)
  | lload k => exact pm_tLift (pm_tLld _)
  | lload_n k => exact pm_tLift (pm_tLld _)
  | astore k => exact pm_tLift (pm_tAst _)
  | astore_n k => exact pm_tLift (pm_tAst _)
  | istore k => exact pm_tLift (pm_tIst _)
  | istore_n k => exact pm_tLift (pm_tIst _)
  | lstore k => exact pm_tLift (pm_tLst _)
  | lstore_n k => exact pm_tLift (pm_tLst _)
  | iinc k n => exact pm_tLift (pm_tInc _ _)
  | iadd => exact pm_tLift (pm_tII _)
  | isub => exact pm_tLift (pm_tII _)
  | imul => exact pm_tLift (pm_tII _)
  | iand => exact pm_tLift (pm_tII _)
  | ior => exact pm_tLift (pm_tII _)
  | ishl => exact pm_tLift (pm_tII _)
  | ishr => exact pm_tLift (pm_tII _)
  | iushr => exact pm_tLift (pm_tII _)
  | idiv => exact pm_tLift (pm_tIIz _)
  | irem => exact pm_tLift (pm_tIIz _)
  | ineg => exact pm_tLift (pm_tI _)
  | i2b => exact pm_tLift (pm_tI _)
  | i2c => exact pm_tLift (pm_tI _)
  | ladd => exact pm_tLift (pm_tLL _)
  | lsub => exact pm_tLift (pm_tLL _)
  | lmul => exact pm_tLift (pm_tLL _)
  | land => exact pm_tLift (pm_tLL _)
  | lor => exact pm_tLift (pm_tLL _)
  | ldiv => exact pm_tLift (pm_tLLz _)
  | lrem => exact pm_tLift (pm_tLLz _)
  | lneg => exact pm_tLift (pm_tL _)
  | lshl => exact pm_tLift (pm_tLI _)
  | lshr => exact pm_tLift (pm_tLI _)
  | lushr => exact pm_tLift (pm_tLI _)
  | lcmp => exact pm_tLift pm_tCmp
  | i2l => exact pm_tLift (pm_tIL _)
  | l2i => exact pm_tLift (pm_tLi _)
  | dup => exact pm_tLift pm_tDup
  | pop => exact pm_tLift pm_tPop
  | pop2 => exact pm_tLift pm_tPop2
  | ifCond c off => exact pm_tLift (pm_tIf _ _)
  | if_icmp c off => exact pm_tLift (pm_tIf2 _ _)
  | goto off => exact pm_tLift (pm_tGo _)
  | tableswitch a b c2 d => exact pm_tLift (pm_tTsw _ _ _ _)
  | lookupswitch a b => exact pm_tLift (pm_tLsw _ _)
  | ldc ix => exact pm_tgLdc _
  | ldc_w ix => exact pm_tgLdw _
  | ldc2_w ix => exact pm_tgLd2 _
  | getstatic ix => exact pm_tgSta _
  | getfield ix => exact pm_tgGet _
  | putfield ix => exact pm_tgPut _
  | new ix => exact pm_tgNew _ _
  | newarray t => exact pm_tgNwa _
  | anewarray ix => exact pm_tgAnw _
  | arraylength => exact pm_tgLen _
  | iaload => exact pm_tgAld _ _ _
  | baload => exact pm_tgAld _ _ _
  | caload => exact pm_tgAld _ _ _
  | laload => exact pm_tgLald _
  | aaload => exact pm_tgAald
  | iastore => exact pm_tgIst _ _
  | bastore => exact pm_tgIst _ _
  | castore => exact pm_tgIst _ _
  | lastore => exact pm_tgLst
  | aastore => exact pm_tgAst
  | invokestatic ix => exact pm_tgInv _ _ _
  | invokevirtual ix => exact pm_tgInv _ _ _
  | invokespecial ix => exact pm_tgInv _ _ _
  | ireturn => exact pm_tgRet _ _
  | lreturn => exact pm_tgRet _ _
  | areturn => exact pm_tgRet _ _
  | return_ => exact pm_tgRtv
  | _ => exact fun _ _ _ _ _ _ _ _ _ _ _ hr => nomatch (show (none : pm_R) = some _ from hr)
theorem pm_mono (X : List (Nat × List Value)) : ∀ n, pm_up0 (pm_x X n)
  | 0 => fun d h m pc ls st o hr => nomatch (show (none : pm_R) = some o from hr)
  | n + 1 => fun d h m pc ls st o hr => by
    have hr : pm_F X (pm_x X n) d h m pc ls st = some o := hr
    unfold pm_F at hr
    split at hr
    · cases hr
    · split at hr
      · cases hr
      · exact pm_tDsp X _ _ _ _ _ _ _ _ _ _ _ (pm_mono X n) hr
/-- the law's own frame by its own steps: k of them; what it calls has n -/
noncomputable def pm_ik (X : List (Nat × List Value)) (n : Nat) (K : pm_I) : pm_I := fun d h m pc ls st => cond (Nat.beq m 309) (K d h m pc ls st) (pm_x X n d h m pc ls st)
noncomputable def pm_xk (X : List (Nat × List Value)) (n k : Nat) : pm_I := Nat.rec (fun _ _ _ _ _ _ => none) (fun _ K => pm_F X (pm_ik X n K)) k
theorem pm_ik_ne {X : List (Nat × List Value)} {n : Nat} {K : pm_I} {d : Nat} {h : pm_H} {m pc : Nat} {ls : pm_L} {st : List Value} (hm : m ≠ 309) : pm_ik X n K d h m pc ls st = pm_x X n d h m pc ls st := by
  unfold pm_ik
  cases hb : Nat.beq m 309 with
  | true => exact absurd (Nat.eq_of_beq_eq_true hb) hm
  | false => rfl
theorem pm_up_ik {X : List (Nat × List Value)} {n : Nat} {K : pm_I} (hK : pm_up0 K) : pm_up0 (pm_ik X n K) := by
  intro d h m pc ls st o hr
  unfold pm_ik at hr
  cases hb : Nat.beq m 309 with
  | true => rw [hb] at hr; exact hK _ _ _ _ _ _ _ hr
  | false => rw [hb] at hr; exact pm_mono X n _ _ _ _ _ _ _ hr
theorem pm_up_xk (X : List (Nat × List Value)) (n : Nat) : ∀ k, pm_up0 (pm_xk X n k)
  | 0 => fun d h m pc ls st o hr => nomatch (show (none : pm_R) = some o from hr)
  | k + 1 => fun d h m pc ls st o hr => by
    have hr : pm_F X (pm_ik X n (pm_xk X n k)) d h m pc ls st = some o := hr
    unfold pm_F at hr
    split at hr
    · cases hr
    · split at hr
      · cases hr
      · exact pm_tDsp X _ _ _ _ _ _ _ _ _ _ _ (pm_up_ik (pm_up_xk X n k)) hr
end
section
/-! soundness of a frame of the class, of the reference or of the JDK: by the steps of the run -/
theorem pm_lay_cons2 {v : Value} (h : v.category = 2) (vs : List Value) (n : Nat) : pm_lay (v :: vs) n = some v :: none :: pm_lay vs (n - 2) := by
  cases v with
  | long x => rfl
  | double x => rfl
  | int x => exact absurd h (show ¬ (1 : Nat) = 2 by decide)
  | float x => exact absurd h (show ¬ (1 : Nat) = 2 by decide)
  | null => exact absurd h (show ¬ (1 : Nat) = 2 by decide)
  | ref x => exact absurd h (show ¬ (1 : Nat) = 2 by decide)
  | retAddr x => exact absurd h (show ¬ (1 : Nat) = 2 by decide)
theorem pm_lay_cons1 {v : Value} (h : ¬ v.category = 2) (vs : List Value) (n : Nat) : pm_lay (v :: vs) n = some v :: pm_lay vs (n - 1) := by
  cases v with
  | long x => exact absurd rfl h
  | double x => exact absurd rfl h
  | int x => rfl
  | float x => rfl
  | null => rfl
  | ref x => rfl
  | retAddr x => rfl
theorem pm_lay_nil (n : Nat) : pm_lay [] n = List.replicate n none := pm_rep_eq none n
theorem pm_sl_cons (v : Value) (vs : List Value) : lg_sl (v :: vs) = (if v.category = 2 then [.val v, .second] else [.val v]) ++ lg_sl vs := by simp [lg_sl]
theorem pm_lay_slots : ∀ (vs : List Value) (n : Nat), (lg_sl vs).length ≤ (pm_lay vs n).length
  | [], n => Nat.zero_le _
  | v :: vs, n => by
    rw [pm_sl_cons, List.length_append]
    by_cases h : v.category = 2
    · rw [pm_lay_cons2 h, if_pos h]
      have := pm_lay_slots vs (n - 2)
      simp only [List.length_cons, List.length_nil]; omega
    · rw [pm_lay_cons1 h, if_neg h]
      have := pm_lay_slots vs (n - 1)
      simp only [List.length_cons, List.length_nil]; omega
theorem pm_lay_get : ∀ (vs : List Value) (n j i : Nat) (v : Value), (pm_lay vs n)[i]? = some (some v) → (j + i, v) ∈ lv_args j vs
  | [], n, j, i, v, h => by
    rw [pm_lay_nil, List.getElem?_replicate] at h
    split at h <;> cases h
  | w :: vs, n, j, i, v, h => by
    show (j + i, v) ∈ (j, w) :: lv_args (if w.category = 2 then j + 2 else j + 1) vs
    by_cases hc : w.category = 2
    · rw [pm_lay_cons2 hc] at h
      rw [if_pos hc]
      match i, h with
      | 0, h =>
        have h : some (some w) = some (some v) := h
        cases h
        exact List.mem_cons_self
      | 1, h =>
        have h : (some none : Option (Option Value)) = some (some v) := h
        cases h
      | i + 2, h =>
        have h1 := pm_lay_get vs (n - 2) (j + 2) i v h
        rw [show j + (i + 2) = j + 2 + i by omega]
        exact List.mem_cons_of_mem _ h1
    · rw [pm_lay_cons1 hc] at h
      rw [if_neg hc]
      match i, h with
      | 0, h =>
        have h : some (some w) = some (some v) := h
        cases h
        exact List.mem_cons_self
      | i + 1, h =>
        have h1 := pm_lay_get vs (n - 1) (j + 1) i v h
        rw [show j + (i + 1) = j + 1 + i by omega]
        exact List.mem_cons_of_mem _ h1
theorem pm_args_map (ad : Nat → Nat) : ∀ (vs : List Value) (j : Nat), lv_args j (vs.map (pm_rv ad)) = (lv_args j vs).map (fun q => (q.1, pm_rv ad q.2))
  | [], j => rfl
  | v :: vs, j => by
    show (j, pm_rv ad v) :: lv_args (if (pm_rv ad v).category = 2 then j + 2 else j + 1) (vs.map (pm_rv ad)) = _
    rw [pm_rv_cat, pm_args_map ad vs]
    rfl
theorem pm_sl_map (ad : Nat → Nat) : ∀ vs : List Value, (lg_sl (vs.map (pm_rv ad))).length = (lg_sl vs).length
  | [] => rfl
  | v :: vs => by
    rw [List.map_cons, pm_sl_cons, pm_sl_cons, List.length_append, List.length_append, pm_sl_map ad vs, pm_rv_cat]
    by_cases h : v.category = 2
    · rw [if_pos h, if_pos h]; rfl
    · rw [if_neg h, if_neg h]; rfl
/-- the locals at a method's start -/
theorem pm_entry {ad : Nat → Nat} {As : List Value} {n : Nat} (h : (pm_lay As n).length = n) : pm_lr ad n (pm_lay As n) ((lg_sl (As.map (pm_rv ad)) ++ List.replicate (n - (lg_sl (As.map (pm_rv ad))).length) Slot.unset).toArray) := by
  have h1 : (lg_sl (As.map (pm_rv ad))).length ≤ n := by
    rw [pm_sl_map]
    have := pm_lay_slots As n
    omega
  obtain ⟨a1, a2, a3⟩ := lv_entry (As.map (pm_rv ad)) h1
  refine ⟨a1, h, a2, fun i v hv => ?_⟩
  have h2 := pm_lay_get As n 0 i v hv
  rw [Nat.zero_add] at h2
  refine a3 (i, pm_rv ad v) ?_
  rw [pm_args_map]
  exact List.mem_map.mpr ⟨(i, v), h2, rfl⟩
/-- the contract of Arrays.fill -/
def pm_rm0 (mc ms : Nat) : Room := { frames := 0, cells := mc, slots := ms, locals := 0 }
def pm_Fill (l : Launch) (X : List (Nat × List Value)) : Prop := ∀ (D : va_G) (cA : Nat → ClassId) (A : Nat → Prop) (ad : Nat → Nat) (y : pm_Hd) (e : pm_M) (h : pm_H) (k : Nat) (v : List Value) (z : Int32), pm_get pm_hds 324 = some y → pm_ent 324 = some e → h[k]? = some (.inl (0, v)) → v.length ≤ 60000 →
  Met l y.1 (pm_wsm y e) (pm_rm0 ((h.set k (.inl (0, List.replicate v.length (.int z)))).length - h.length) (pm_slt (h.set k (.inl (0, List.replicate v.length (.int z)))) - pm_slt h)) (pm_Pc D cA A ad X h [.ref (16 + k), .int z]) (pm_Qc D cA A ad (h.set k (.inl (0, List.replicate v.length (.int z)))) none) ((h.set k (.inl (0, List.replicate v.length (.int z)))).length - h.length) (pm_slt (h.set k (.inl (0, List.replicate v.length (.int z)))) - pm_slt h) A
theorem pm_own_all : pm_kdt.all (fun c => c.all (fun q => Nat.beq q.2 14 || (Nat.beq q.1 309 || (match pm_ent q.1 with
  | some e => !Nat.beq e.2.2.1 13
  | none => false)))) = true := by decide +kernel
theorem pm_own309 : pm_get pm_kdt 309 = none ∨ ((pm_get pm_kdt 309).any fun q => Nat.beq q 0 || Nat.ble 4 q) = true := by decide +kernel
theorem pm_own {m kd : Nat} {e : pm_M} (h : pm_get pm_kdt m = some kd) (he : pm_ent m = some e) (hk : kd = 1 ∨ kd = 2 ∨ kd = 3) : e.2.2.1 ≠ 13 := by
  obtain ⟨c, hc, hm⟩ := pm_get_mem h
  have h1 := List.all_eq_true.mp (List.all_eq_true.mp pm_own_all c hc) _ hm
  dsimp only at h1
  rw [he, Bool.or_eq_true, Bool.or_eq_true] at h1
  rcases h1 with q | q | q
  · have := Nat.eq_of_beq_eq_true q
    omega
  · have := Nat.eq_of_beq_eq_true q
    subst this
    rcases pm_own309 with g | g
    · rw [g] at h; cases h
    · rw [h] at g
      have g : (Nat.beq kd 0 || Nat.ble 4 kd) = true := g
      rw [Bool.or_eq_true] at g
      rcases g with g | g
      · have := Nat.eq_of_beq_eq_true g
        omega
      · have := Nat.le_of_ble_eq_true g
        omega
  · intro q2
    dsimp only at q
    rw [q2] at q
    cases q
theorem pm_no_inv : pmc_324.all (fun c => c.all (fun q => match q.2.1 with
  | .invokevirtual _ => false
  | .invokestatic _ => false
  | .invokespecial _ => false
  | _ => true)) = true := by decide +kernel
theorem pm_e324 : pm_ent 324 = some (2, 4, 14, 4, pmc_324) := rfl
theorem pm_o309 : (pm_ent 309).map (fun e => e.2.2.1) = some 13 := by decide +kernel
section PmL
variable {p : Program} {l : Launch} {e : Env} {R : Room} {s : State} {mid : MethodId} {args : Array Value} {below : List Frame} {meth : Method} {c : Code} {H : Heap} {locs : List Loc} {cells slots : Nat} {Q : State → Prop}
variable {D : va_G} {cA : Nat → ClassId} {A : Nat → Prop} {ad : Nat → Nat} {X : List (Nat × List Value)} {m : Nat} {E : pm_M} {y : pm_Hd} {hb sb x : Nat} {h : pm_H}
variable {d pc len : Nat} {ls : pm_L} {st : List Value} {ih : pm_I} {o : pm_H × (Option Value ⊕ Unit)}
/-- a call of Arrays.fill -/
theorem pm_jFill {ix a b k : Nat} {z : Int32} {v r : List Value} (hF : pm_Fill l X) (F : pm_Fr p s mid args meth c D cA A ad X m E y) (hA : pm_At s D cA A ad m hb sb x h H locs cells slots) (hg : pm_get (pm_lnk E.2.2.1) ix = some (12, 6, a, b)) (hd : decode (pm_byt y.2.1) pc = .ok (.invokestatic ix, 3))
    (hR : d + 10 ≤ R.frames ∧ 100 * d + 200 ≤ R.locals) (hroom : ∀ (h1 : pm_H) (q : Nat) (ls : pm_L) (st : List Value), ih d h1 m q ls st = some o → h1.length + x ≤ R.cells + hb ∧ pm_slt h1 + 6 * x ≤ R.slots + sb)
    (hst : st = .int z :: .ref (16 + k) :: r) (hk : h[k]? = some (.inl (0, v))) (hv : v.length ≤ 60000) (hc : pm_cat8 r = true)
    (hK : ∀ h1 H1 locs1 cells1 slots1 q ls st, pm_At s D cA A ad m hb sb x h1 H1 locs1 cells1 slots1 → ih d h1 m q ls st = some o → pm_J p l e R s mid args below meth c H1 locs1 cells1 slots1 Q ad E.2.1 q ls st)
    (hr : ih d (h.set k (.inl (0, List.replicate v.length (.int z)))) m (pc + 3) ls r = some o) : pm_J p l e R s mid args below meth c H locs cells slots Q ad E.2.1 pc ls st := by
  intro LS hl
  obtain ⟨i, hi⟩ := pm_link hg
  have hi : (Nat.ble 6 6 && decide (tables_1[i]? = some (.methodLink (pm_nm E.2.2.1) ix (pm_prn 6)))) = true := hi
  rw [Bool.and_eq_true, decide_eq_true_eq] at hi
  have q3 : pm_get pm_kdt 324 = some 2 := by decide +kernel
  obtain ⟨y3, e3, ps, r1, r2, r3⟩ := pm_head q3
  have ee : e3 = (2, 4, 14, 4, pmc_324) := Option.some.inj (r2.symm.trans pm_e324)
  have ey : y3.1 = pm_prn 6 := by
    have : (pm_get pm_hds 324).map (fun q => q.1) = some (pm_prn 6) := by decide +kernel
    rw [r1] at this
    exact Option.some.inj this
  obtain ⟨w1, w2, w3, w4, w5, w6, w7, w8, w9, w10⟩ := pm_hd_ok r3 (Or.inr (Or.inl rfl))
  have hpre := pm_pre (As := [.ref (16 + k), .int z]) F hA
  obtain ⟨hx, hbc, hml, hown, hw, hCx, hnm, he, hyy, hAs⟩ := F
  have hS : CallFix p mid c (pm_byt y.2.1) E.2.1 s args pm_W0 (pm_nm E.2.2.1) := ⟨hx, hbc, hml, hown, hw⟩
  have hG : GoodIn pm_W0 (pm_wsm y3 e3) := pm_good fun w hw9 => by
    rcases List.mem_cons.mp hw9 with rfl | hw9
    · exact w1
    · exact hw9
  have hsz : pm_sz (.inl (0, List.replicate v.length (.int z))) = pm_sz (.inl (0, v)) := by simp [pm_sz]
  have hle := pm_le_set hk hsz
  have hs1 := pm_slt_set hk hsz
  have hl1 : (h.set k (.inl (0, List.replicate v.length (.int z)))).length = h.length := List.length_set
  have hRR : (pm_rm0 ((h.set k (.inl (0, List.replicate v.length (.int z)))).length - h.length) (pm_slt (h.set k (.inl (0, List.replicate v.length (.int z)))) - pm_slt h)).frames + 1 ≤ R.frames ∧ 8 + (e3.2.1 + 11) + (pm_rm0 ((h.set k (.inl (0, List.replicate v.length (.int z)))).length - h.length) (pm_slt (h.set k (.inl (0, List.replicate v.length (.int z)))) - pm_slt h)).locals ≤ R.locals := ⟨by show 0 + 1 ≤ _; omega, by show 8 + (e3.2.1 + 11) + 0 ≤ R.locals; omega⟩
  have hst' : st.map (pm_rv ad) = ([Value.ref (16 + k), .int z].map (pm_rv ad)).reverse ++ r.map (pm_rv ad) := by rw [hst]; rfl
  have hW8 : 2 * (F0 mid pc LS (st.map (pm_rv ad))).monitorRoom + ((r.map (pm_rv ad)).map fun v => v.category).sum ≤ 8 := lv_room (pm_cat8_rv hc)
  obtain ⟨v1, v2⟩ := w9 rfl
  obtain ⟨rm1, rm2⟩ := hroom _ _ _ _ hr
  have a4 := hA.2.2.2.1
  have a5 := hA.2.2.2.2
  have hn : ([Value.ref (16 + k), .int z].map (pm_rv ad)).length = e3.1 := by rw [ee]; rfl
  have hM := hF D cA A ad y3 e3 h k v z r1 r2 hk hv
  have hlk : (Cond.methodLink (pm_nm E.2.2.1) ix y3.1).before args s = true := by rw [ey]; exact hw _ (pm_W0_at i hi.2 rfl)
  have hrun : va_Run p l e R s mid args below meth c H locs cells slots ((h.set k (.inl (0, List.replicate v.length (.int z)))).length - h.length) (pm_slt (h.set k (.inl (0, List.replicate v.length (.int z)))) - pm_slt h) (F0 mid pc LS (st.map (pm_rv ad))) (r.map (pm_rv ad)) (pm_Qc D cA A ad (h.set k (.inl (0, List.replicate v.length (.int z)))) none ([Value.ref (16 + k), .int z].map (pm_rv ad)).toArray) A :=
    va_runS hS hM ⟨callB_of e3.1 hw hG rfl rfl rfl (hw _ w2) hlk ⟨w7.1, w7.2, v2⟩ hRR, hw _ v1⟩ ⟨pm_Pc_blind, hpre⟩ rfl hn hl.1 hst' hW8 hd ⟨by omega, by omega⟩
  exact pm_after hrun hA hle.1 hle.2 fun H1 locs1 hA1 => hK _ _ _ _ _ _ _ _ hA1 hr LS hl
end PmL
/-- what the end of a frame gives back -/
theorem pm_ret {p : Program} {l : Launch} {e : Env} {R : Room} {s : State} {mid : MethodId} {args : Array Value} {below : List Frame} {meth : Method} {c : Code} {H : Heap} {locs : List Loc} {cells slots : Nat} {D : va_G} {cA : Nat → ClassId} {A : Nat → Prop} {ad : Nat → Nat} {m : Nat} {E : pm_M} {y : pm_Hd} {hb sb pc mc ms : Nat} {ls : pm_L} {st : List Value} {h1 : pm_H} {v : Option Value}
    (hx : p.tables.exec = Jvm.exec) (hbc : c.code = pm_byt y.2.1) (hrt : meth.sig.returnType = y.2.2) (hlocks : meth.locks = false) (hty : pm_tyok E.2.2.2.1 y.2.2 = true) (hA : pm_At s D cA A ad m hb sb 0 h1 H locs cells slots) (hc : cells = mc) (hs : slots = ms) (hE : pm_End y E (.inl v) pc st) :
    pm_J p l e R s mid args below meth c H locs cells slots (MQ below (pm_Qc D cA A ad h1 v) args s mc ms A) ad E.2.1 pc ls st := by
  subst hc; subst hs
  intro LS hl
  obtain ⟨hrel, hS, -⟩ := hA
  have hq : ∀ t : State, t.heap = H → s.WarmedH t.vm → pm_Qc D cA A ad h1 v args s (.returned (v.map (pm_rv ad))) t := fun t ht hW => ⟨rfl, by rw [ht]; exact hrel, hS.F ht⟩
  cases v with
  | none =>
    obtain ⟨e1, e2, e3⟩ := hE
    subst e2
    rw [e3] at hty
    have hr : meth.sig.returnType = none := by
      rw [hrt]
      cases hz : y.2.2 with
      | none => rfl
      | some ty => rw [hz] at hty; cases hty
    exact W.vret hx hbc hr hq hS.2.2 e1
  | some v =>
    obtain ⟨e1, e2, e3⟩ := hE
    subst e1
    rcases e3 with ⟨q1, q2⟩ | ⟨q1, q2⟩ | ⟨q1, q2⟩
    · cases v with
      | int x =>
        rcases (by omega : E.2.2.2.1 = 0 ∨ E.2.2.2.1 = 1) with q | q
        · rw [q] at hty
          have hr : meth.sig.returnType = some .int := by
            rw [hrt]
            cases hz : y.2.2 with
            | none => rw [hz] at hty; cases hty
            | some ty => rw [hz] at hty; cases ty <;> first | rfl | cases hty
          exact W.iret hx hbc hr hq hS.2.2 q2
        · rw [q] at hty e2
          have hr : meth.sig.returnType = some .boolean := by
            rw [hrt]
            cases hz : y.2.2 with
            | none => rw [hz] at hty; cases hty
            | some ty => rw [hz] at hty; cases ty <;> first | rfl | cases hty
          have e2 : (decide (x = 0) || decide (x = 1)) = true := e2
          rw [Bool.or_eq_true, decide_eq_true_eq, decide_eq_true_eq] at e2
          have hn : narrow .boolean (.int x) = .int x := by
            rcases e2 with rfl | rfl <;> rfl
          exact W.zret hx hbc hr hn hq hS.2.2 q2
      | long x => rcases (by omega : E.2.2.2.1 = 0 ∨ E.2.2.2.1 = 1) with q | q <;> (rw [q] at e2; cases e2)
      | float x => cases e2
      | double x => cases e2
      | null => rcases (by omega : E.2.2.2.1 = 0 ∨ E.2.2.2.1 = 1) with q | q <;> (rw [q] at e2; cases e2)
      | ref x => rcases (by omega : E.2.2.2.1 = 0 ∨ E.2.2.2.1 = 1) with q | q <;> (rw [q] at e2; cases e2)
      | retAddr x => cases e2
    · rw [q1] at hty e2
      have hr : meth.sig.returnType = some .long := by
        rw [hrt]
        cases hz : y.2.2 with
        | none => rw [hz] at hty; cases hty
        | some ty => rw [hz] at hty; cases ty <;> first | rfl | cases hty
      cases v with
      | long x => exact W.lret hx hbc hr hq hS.2.2 q2
      | int x => cases e2
      | float x => cases e2
      | double x => cases e2
      | null => cases e2
      | ref x => cases e2
      | retAddr x => cases e2
    · rw [q1] at hty e2
      have hr : ∃ rt, meth.sig.returnType = some rt ∧ ((∃ n, rt = .object n) ∨ ∃ t, rt = .array t) := by
        rw [hrt]
        cases hz : y.2.2 with
        | none => rw [hz] at hty; cases hty
        | some ty =>
          rw [hz] at hty
          cases ty with
          | object n => exact ⟨_, rfl, Or.inl ⟨n, rfl⟩⟩
          | array t => exact ⟨_, rfl, Or.inr ⟨t, rfl⟩⟩
          | _ => cases hty
      obtain ⟨rt, hr1, hr2⟩ := hr
      have hv : pm_rv ad v = .null ∨ ∃ a, pm_rv ad v = .ref a := by
        cases v with
        | null => exact Or.inl rfl
        | ref x => exact Or.inr ⟨_, rfl⟩
        | int x => cases e2
        | long x => cases e2
        | float x => cases e2
        | double x => cases e2
        | retAddr x => cases e2
      exact W.aret hx hbc hr1 hr2 hv hq hS.2.2 q2
/-- from the frame to the method's contract -/
theorem pm_MtOf {l : Launch} {D : va_G} {cA : Nat → ClassId} {A : Nat → Prop} {ad : Nat → Nat} {X : List (Nat × List Value)} {m : Nat} {E : pm_M} {y : pm_Hd} {h h1 : pm_H} {As : List Value} {v : Option Value} {rm : Room} {mc ms : Nat} (hrc : rm.cells = mc) (hrs : rm.slots = ms) (hmc : mc = h1.length - h.length) (hms : ms = pm_slt h1 - pm_slt h) (he : pm_ent m = some E) (hy : pm_get pm_hds m = some y) (hpl : Jvm.plainName y.1.cls = true) (hcl : y.1.cls = pm_nm E.2.2.1) (hty : pm_tyok E.2.2.2.1 y.2.2 = true) (hlay : (pm_lay As E.2.1).length = E.2.1)
    (hfl : ∀ {p : Program} {e : Env} {s : State} {mid : MethodId} {args : Array Value} {below : List Frame} {meth : Method} {c : Code} {Q : State → Prop}, pm_Fr p s mid args meth c D cA A ad X m E y → pm_At s D cA A ad m h.length (pm_slt h) 0 h s.heap [] 0 0 →
      (∀ H1 locs1 cells1 slots1 pc1 ls1 st1, pm_At s D cA A ad m h.length (pm_slt h) 0 h1 H1 locs1 cells1 slots1 → pm_End y E (.inl v) pc1 st1 → pm_J p l e rm s mid args below meth c H1 locs1 cells1 slots1 Q ad E.2.1 pc1 ls1 st1) → pm_J p l e rm s mid args below meth c s.heap [] 0 0 Q ad E.2.1 0 (pm_lay As E.2.1) []) :
    Met l y.1 (pm_wsm y E) rm (pm_Pc D cA A ad X h As) (pm_Qc D cA A ad h1 v) mc ms A := by
  refine Met.ofW (cc := pm_byt y.2.1) (maxL := E.2.1) (ret := y.2.2) hpl rfl ?_
  intro p e s mid args below meth c s₁ B hml hv
  obtain ⟨rfl, hCx, hrel, hAs⟩ := hv
  have hts := atoms_spec (ws := pm_wsm y E) B.pre
  have hown : s.vm.findClass y.1.cls = some mid.cls := findClass_of_methodNamed B.named
  have hlocks := B.notSynchronized
  have hin : meth.name = y.1.name := (name_of_methodNamed B.named B.method).1
  rw [lg_entry_eq]
  rw [hcl] at hown
  have F : pm_Fr p s mid (As.map (pm_rv ad)).toArray meth c D cA A ad X m E y := ⟨B.exec, B.bytes, hml, hown, fun w hw => hts w (List.mem_cons_of_mem _ hw), hCx, hin, he, hy, hAs⟩
  have hA0 : pm_At s D cA A ad m h.length (pm_slt h) 0 h s.heap [] 0 0 := ⟨hrel, va_S.rf, Or.inr ⟨rfl, rfl⟩, by omega, by omega⟩
  refine hfl (Q := MQ below (pm_Qc D cA A ad h1 v) (As.map (pm_rv ad)).toArray s mc ms A) F hA0 (fun H1 locs1 cells1 slots1 pc1 ls1 st1 hA1 hE => ?_) _ (pm_entry hlay)
  have a4 := hA1.2.2.2.1
  have a5 := hA1.2.2.2.2
  exact pm_ret B.exec B.bytes B.returns hlocks hty hA1 (by omega) (by omega) hE
end
