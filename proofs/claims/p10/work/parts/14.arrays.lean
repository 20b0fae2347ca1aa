/-! soundness: arrays, new cells, constants -/
theorem pm_ty_at (cA : Nat → ClassId) {t : Nat} (h : pm_okt t = true) : ∃ ty, (pm_tys cA)[t]? = some (cA t, ty) := by
  unfold pm_okt at h
  simp only [Bool.or_eq_true] at h
  rcases h with (h | h) | h
  · have ht := pm_blt h
    match t, ht with
    | 0, _ => exact ⟨_, rfl⟩
    | 1, _ => exact ⟨_, rfl⟩
    | 2, _ => exact ⟨_, rfl⟩
    | 3, _ => exact ⟨_, rfl⟩
    | 4, _ => exact ⟨_, rfl⟩
    | n + 5, q => exact absurd q (by omega)
  · have := Nat.eq_of_beq_eq_true h
    subst this
    exact ⟨_, rfl⟩
  · have := Nat.eq_of_beq_eq_true h
    subst this
    exact ⟨_, rfl⟩
section PmA
variable {p : Program} {l : Launch} {e : Env} {R : Room} {s : State} {mid : MethodId} {args : Array Value} {below : List Frame} {meth : Method} {c : Code} {H : Heap} {locs : List Loc} {cells slots : Nat} {Q : State → Prop}
variable {D : va_G} {cA : Nat → ClassId} {A : Nat → Prop} {ad : Nat → Nat} {X : List (Nat × List Value)} {m : Nat} {E : pm_M} {y : pm_Hd} {hb sb x : Nat} {h : pm_H}
variable {d pc len : Nat} {ls : pm_L} {st : List Value} {ih : pm_I} {o : pm_H × (Option Value ⊕ Unit)}
/-- what is there at the start, seen from here -/
theorem pm_ex_here (F : pm_Fr p s mid args meth c D cA A ad X m E y) (hA : pm_At s D cA A ad m hb sb x h H locs cells slots) {a : Nat} {v : List Value} (ha : a < 16) (hX : X[a]? = some (0, v)) : ∃ cell : Cell, H[ad a]? = some cell ∧ s.isArrayOf cell .int ∧ cell.vm ≠ .unknown ∧ cell.slots.size = v.length ∧ ∀ (j : Nat) (w : Value), v[j]? = some w → cell.slots[j]? = some w := by
  obtain ⟨-, -, -, -, -, hCx, -⟩ := F
  obtain ⟨cell, e1, e2, e3, e4, e5, e6⟩ := hCx.2.2.2.1 a v ha hX
  exact ⟨cell, by rw [hA.2.1.2.1 _ (Array.getElem?_eq_some_iff.mp e1).1 e6]; exact e1, e2, e3, e4, e5⟩
theorem pm_jLen (F : pm_Fr p s mid args meth c D cA A ad X m E y) (hA : pm_At s D cA A ad m hb sb x h H locs cells slots) (hd : decode (pm_byt y.2.1) pc = .ok (.arraylength, 1))
    (hK : ∀ q ls st, ih d h m q ls st = some o → pm_J p l e R s mid args below meth c H locs cells slots Q ad E.2.1 q ls st) (hr : pm_gLen X ih d h m E.2.2.1 pc 1 ls st = some o) : pm_J p l e R s mid args below meth c H locs cells slots Q ad E.2.1 pc ls st := by
  intro LS hl
  unfold pm_gLen at hr
  split at hr
  · rename_i a r
    split at hr
    · rename_i t v hrow
      replace hr := pm_cond_true hr
      obtain ⟨hb1, hr⟩ := hr
      rw [pm_fn_eq, pm_fn_eq, pm_len_eq] at hr
      have hj := hK _ _ _ hr LS hl
      rcases pm_row_own hrow with ⟨ha, hX, rfl⟩ | ⟨k, rfl, hk⟩
      · obtain ⟨cell, e1, e2, e3, e4, -⟩ := pm_ex_here F hA ha hX
        obtain ⟨hx, hbc, -⟩ := F
        exact W.alen (n := Int32.ofNat v.length) hx hbc e1 e2 (by rw [e4] <;> rfl) rfl rfl hd hj
      · obtain ⟨ty, hty⟩ := pm_ty_at cA hb1
        obtain ⟨hx, hbc, hml, hown, hw, hCx, -⟩ := F
        exact va_alen (v := Int32.ofNat v.length) hx hbc hCx.1 hA.1.1 k t (pm_ws_at hk) hty rfl hd hj
    · cases hr
  · cases hr
theorem pm_not_neg {j : Int32} (h : decide (j < 0) = false) : ¬ j < 0 := of_decide_eq_false h
theorem pm_vin {j : Int32} {v : List Value} {w : Value} (h0 : ¬ j < 0) (h : v[j.toNatClampNeg]? = some w) : vp_in j v.length := by
  have := pm_len_lt h
  rintro (q | q)
  · exact h0 q
  · omega
/-- an int out of an own row of numbers, by the row of its type -/
theorem pm_jIald {t t' : Nat} (F : pm_Fr p s mid args meth c D cA A ad X m E y) (hA : pm_At s D cA A ad m hb sb x h H locs cells slots)
    (row : ∀ (u k : Nat) (v : List Value) (j : Int32) (LS : Array Slot) (rest : List Value), (u = t ∨ u = t') → h[k]? = some (.inl (u, v)) → vp_in j v.length → W p l e R s mid args below meth c H locs cells slots Q (F0 mid (pc + 1) LS (.int (pm_iv (v.getD j.toNatClampNeg .null)) :: rest)) → W p l e R s mid args below meth c H locs cells slots Q (F0 mid pc LS (.int j :: .ref (ad (16 + k)) :: rest)))
    (hd : (t = 0 ∨ t' = 0) → decode (pm_byt y.2.1) pc = .ok (.iaload, 1))
    (hK : ∀ q ls st, ih d h m q ls st = some o → pm_J p l e R s mid args below meth c H locs cells slots Q ad E.2.1 q ls st) (hr : pm_gAld X t t' ih d h m E.2.2.1 pc 1 ls st = some o) : pm_J p l e R s mid args below meth c H locs cells slots Q ad E.2.1 pc ls st := by
  intro LS hl
  unfold pm_gAld at hr
  split at hr
  · rename_i j a r
    split at hr
    · rename_i u v hrow
      replace hr := pm_cond_true hr
      obtain ⟨hb1, hr⟩ := hr
      replace hr := pm_cond_false hr
      obtain ⟨hb2, hr⟩ := hr
      have h0 := pm_not_neg hb2
      have hu : u = t ∨ u = t' := by
        simp only [Bool.or_eq_true] at hb1
        rcases hb1 with q | q
        · exact Or.inl (Nat.eq_of_beq_eq_true q)
        · exact Or.inr (Nat.eq_of_beq_eq_true q)
      split at hr
      · rename_i z hz
        rw [pm_fn_eq] at hr
        rw [pm_nth_eq] at hz
        have hj := hK _ _ _ hr LS hl
        rcases pm_row_own hrow with ⟨ha, hX, rfl⟩ | ⟨k, rfl, hk⟩
        · obtain ⟨cell, e1, e2, e3, e4, e5⟩ := pm_ex_here F hA ha hX
          obtain ⟨hx, hbc, -⟩ := F
          exact W.iald (v := .int z) hx hbc e1 e2 e3 (by rw [e4]; exact pm_vin h0 hz) (e5 _ _ hz) rfl rfl (hd (hu.elim (fun q => Or.inl q.symm) (fun q => Or.inr q.symm))) hj
        · refine row u k v j LS _ hu hk (pm_vin h0 hz) ?_
          rw [pm_getI hz]
          exact hj
      · cases hr
    · cases hr
  · cases hr
theorem pm_rowI (F : pm_Fr p s mid args meth c D cA A ad X m E y) (hA : pm_At s D cA A ad m hb sb x h H locs cells slots) (hd : decode (pm_byt y.2.1) pc = .ok (.iaload, 1)) (u k : Nat) (v : List Value) (j : Int32) (LS : Array Slot) (rest : List Value) (hu : u = 0 ∨ u = 0) (hk : h[k]? = some (.inl (u, v))) (hin : vp_in j v.length) (kk : W p l e R s mid args below meth c H locs cells slots Q (F0 mid (pc + 1) LS (.int (pm_iv (v.getD j.toNatClampNeg .null)) :: rest))) : W p l e R s mid args below meth c H locs cells slots Q (F0 mid pc LS (.int j :: .ref (ad (16 + k)) :: rest)) := by
  have e0 : u = 0 := hu.elim id id
  subst e0
  obtain ⟨hx, hbc, hml, hown, hw, hCx, -⟩ := F
  have ha := pm_ws_at (ad := ad) (cA := cA) hk
  rw [show pm_re ad cA (.inl (0, v)) = .inl (cA 0, v.length, .inl (fun j => pm_iv (v.getD j .null))) from rfl] at ha
  exact va_iald hx hbc hCx.1 hA.1.1 k 0 ha rfl hin hd kk
theorem pm_rowB (F : pm_Fr p s mid args meth c D cA A ad X m E y) (hA : pm_At s D cA A ad m hb sb x h H locs cells slots) (hd : decode (pm_byt y.2.1) pc = .ok (.baload, 1)) (u k : Nat) (v : List Value) (j : Int32) (LS : Array Slot) (rest : List Value) (hu : u = 1 ∨ u = 4) (hk : h[k]? = some (.inl (u, v))) (hin : vp_in j v.length) (kk : W p l e R s mid args below meth c H locs cells slots Q (F0 mid (pc + 1) LS (.int (pm_iv (v.getD j.toNatClampNeg .null)) :: rest))) : W p l e R s mid args below meth c H locs cells slots Q (F0 mid pc LS (.int j :: .ref (ad (16 + k)) :: rest)) := by
  obtain ⟨hx, hbc, hml, hown, hw, hCx, -⟩ := F
  have ha := pm_ws_at (ad := ad) (cA := cA) hk
  rcases hu with rfl | rfl
  · rw [show pm_re ad cA (.inl (1, v)) = .inl (cA 1, v.length, .inl (fun j => pm_iv (v.getD j .null))) from rfl] at ha
    exact va_zald hx hbc hCx.1 hA.1.1 k 1 ha rfl hin hd kk
  · rw [show pm_re ad cA (.inl (4, v)) = .inl (cA 4, v.length, .inl (fun j => pm_iv (v.getD j .null))) from rfl] at ha
    exact va_bald hx hbc hCx.1 hA.1.1 k 4 ha rfl hin hd kk
theorem pm_rowC (F : pm_Fr p s mid args meth c D cA A ad X m E y) (hA : pm_At s D cA A ad m hb sb x h H locs cells slots) (hd : decode (pm_byt y.2.1) pc = .ok (.caload, 1)) (u k : Nat) (v : List Value) (j : Int32) (LS : Array Slot) (rest : List Value) (hu : u = 2 ∨ u = 2) (hk : h[k]? = some (.inl (u, v))) (hin : vp_in j v.length) (kk : W p l e R s mid args below meth c H locs cells slots Q (F0 mid (pc + 1) LS (.int (pm_iv (v.getD j.toNatClampNeg .null)) :: rest))) : W p l e R s mid args below meth c H locs cells slots Q (F0 mid pc LS (.int j :: .ref (ad (16 + k)) :: rest)) := by
  have e0 : u = 2 := hu.elim id id
  subst e0
  obtain ⟨hx, hbc, hml, hown, hw, hCx, -⟩ := F
  have ha := pm_ws_at (ad := ad) (cA := cA) hk
  rw [show pm_re ad cA (.inl (2, v)) = .inl (cA 2, v.length, .inl (fun j => pm_iv (v.getD j .null))) from rfl] at ha
  exact va_cald hx hbc hCx.1 hA.1.1 k 2 ha rfl hin hd kk
theorem pm_jLald (F : pm_Fr p s mid args meth c D cA A ad X m E y) (hA : pm_At s D cA A ad m hb sb x h H locs cells slots) (hd : decode (pm_byt y.2.1) pc = .ok (.laload, 1))
    (hK : ∀ q ls st, ih d h m q ls st = some o → pm_J p l e R s mid args below meth c H locs cells slots Q ad E.2.1 q ls st) (hr : pm_gLald X ih d h m E.2.2.1 pc 1 ls st = some o) : pm_J p l e R s mid args below meth c H locs cells slots Q ad E.2.1 pc ls st := by
  intro LS hl
  unfold pm_gLald at hr
  split at hr
  · rename_i j a r
    split at hr
    · rename_i u v hrow
      replace hr := pm_cond_true hr
      obtain ⟨hb1, hr⟩ := hr
      replace hr := pm_cond_false hr
      obtain ⟨hb2, hr⟩ := hr
      have h0 := pm_not_neg hb2
      have hu : u = 3 := Nat.eq_of_beq_eq_true hb1
      subst hu
      split at hr
      · rename_i z hz
        rw [pm_fn_eq] at hr
        rw [pm_nth_eq] at hz
        have hj := hK _ _ _ hr LS hl
        rcases pm_row_own hrow with ⟨ha, hX, q⟩ | ⟨k, rfl, hk⟩
        · cases q
        · obtain ⟨hx, hbc, hml, hown, hw, hCx, -⟩ := F
          have ha := pm_ws_at (ad := ad) (cA := cA) hk
          rw [show pm_re ad cA (.inl (3, v)) = .inl (cA 3, v.length, .inr (.inl (fun j => pm_gv (v.getD j .null)))) from rfl] at ha
          refine va_lald hx hbc hCx.1 hA.1.1 k 3 ha rfl (pm_vin h0 hz) hd ?_
          show W p l e R s mid args below meth c H locs cells slots Q (F0 mid (pc + 1) LS (.long (pm_gv (v.getD j.toNatClampNeg .null)) :: _))
          rw [pm_getL hz]
          exact hj
      · cases hr
    · cases hr
  · cases hr
theorem pm_jAald (F : pm_Fr p s mid args meth c D cA A ad X m E y) (hA : pm_At s D cA A ad m hb sb x h H locs cells slots) (hd : decode (pm_byt y.2.1) pc = .ok (.aaload, 1))
    (hK : ∀ q ls st, ih d h m q ls st = some o → pm_J p l e R s mid args below meth c H locs cells slots Q ad E.2.1 q ls st) (hr : pm_gAald ih d h m E.2.2.1 pc 1 ls st = some o) : pm_J p l e R s mid args below meth c H locs cells slots Q ad E.2.1 pc ls st := by
  intro LS hl
  unfold pm_gAald at hr
  split at hr
  · rename_i j a r
    split at hr
    · rename_i t v hc
      replace hr := pm_cond_true hr
      obtain ⟨hb1, hr⟩ := hr
      replace hr := pm_cond_false hr
      obtain ⟨hb2, hr⟩ := hr
      have h0 := pm_not_neg hb2
      split at hr
      · rename_i z hz
        rw [pm_fn_eq] at hr
        rw [pm_nth_eq] at hz
        have hj := hK _ _ _ hr LS hl
        obtain ⟨k, rfl, -, hk⟩ := pm_cell_some hc
        obtain ⟨hx, hbc, hml, hown, hw, hCx, -⟩ := F
        have ha := pm_ws_at (ad := ad) (cA := cA) hk
        simp only [Bool.or_eq_true] at hb1
        have hgo : va_rf (pm_qv ad (v.getD j.toNatClampNeg .null)) = .ref (ad z) := by rw [pm_getQ hz]; rfl
        rcases hb1 with q | q
        · have e8 := Nat.eq_of_beq_eq_true q
          subst e8
          rw [show pm_re ad cA (.inl (8, v)) = .inl (cA 8, v.length, .inr (.inr (.inr (.inr (fun j => pm_qv ad (v.getD j .null)))))) from rfl] at ha
          refine va_aldq (C := RX3) hx hbc hCx.1 hA.1.1 k 8 ha rfl (pm_vin h0 hz) hd ?_
          show W p l e R s mid args below meth c H locs cells slots Q (F0 mid (pc + 1) LS (va_rf (pm_qv ad (v.getD j.toNatClampNeg .null)) :: _))
          rw [hgo]
          exact hj
        · have e12 := Nat.eq_of_beq_eq_true q
          subst e12
          rw [show pm_re ad cA (.inl (12, v)) = .inl (cA 12, v.length, .inr (.inr (.inr (.inr (fun j => pm_qv ad (v.getD j .null)))))) from rfl] at ha
          refine va_aldq (C := RX7) hx hbc hCx.1 hA.1.1 k 12 ha rfl (pm_vin h0 hz) hd ?_
          show W p l e R s mid args below meth c H locs cells slots Q (F0 mid (pc + 1) LS (va_rf (pm_qv ad (v.getD j.toNatClampNeg .null)) :: _))
          rw [hgo]
          exact hj
      · cases hr
    · cases hr
  · cases hr
/-- a store of an int, by the row of its type -/
theorem pm_jIast {t : Nat} {f : Int32 → Int32} (hA : pm_At s D cA A ad m hb sb x h H locs cells slots) (hm : m ≠ 309) (ht3 : t ≠ 3) (ht5 : t < 5)
    (row : ∀ (k : Nat) (v : List Value) (j z : Int32) (LS : Array Slot) (rest : List Value), h[k]? = some (.inl (t, v)) → vp_in j v.length → (∀ (H1 : Heap) (locs1 : List Loc), va_P D vwCl ((pm_ws ad cA h).set k (ad (16 + k), .inl (cA t, v.length, .inl (upd (fun j => pm_iv (v.getD j .null)) j.toNatClampNeg (f z))))) H1 → va_D A ((pm_ws ad cA h).set k (ad (16 + k), .inl (cA t, v.length, .inl (upd (fun j => pm_iv (v.getD j .null)) j.toNatClampNeg (f z))))) → va_S A H H1 locs1 → W p l e R s mid args below meth c H1 locs1 cells slots Q (F0 mid (pc + 1) LS rest)) → W p l e R s mid args below meth c H locs cells slots Q (F0 mid pc LS (.int z :: .int j :: .ref (ad (16 + k)) :: rest)))
    (hK : ∀ h1 H1 locs1 q ls st, pm_At s D cA A ad m hb sb x h1 H1 locs1 cells slots → ih d h1 m q ls st = some o → pm_J p l e R s mid args below meth c H1 locs1 cells slots Q ad E.2.1 q ls st) (hr : pm_gIst t f ih d h m E.2.2.1 pc 1 ls st = some o) : pm_J p l e R s mid args below meth c H locs cells slots Q ad E.2.1 pc ls st := by
  intro LS hl
  unfold pm_gIst at hr
  split at hr
  · rename_i z j a r
    split at hr
    · rename_i u v hc
      replace hr := pm_cond_true hr
      obtain ⟨hb1, hr⟩ := hr
      replace hr := pm_cond_true hr
      obtain ⟨hb2, hr⟩ := hr
      have hu := Nat.eq_of_beq_eq_true hb1
      subst hu
      rw [pm_len_eq] at hb2
      obtain ⟨k, rfl, e2, hk⟩ := pm_cell_some hc
      rw [pm_fi_eq, pm_fn_eq, e2, pm_set_eq, pm_set_eq] at hr
      refine row k v j z LS _ hk (pm_in_of hb2) fun H1 locs1 hP1 hD1 hS1 => ?_
      have e3 : (.inl (cA u, v.length, .inl (upd (fun j => pm_iv (v.getD j .null)) j.toNatClampNeg (f z))) : va_E) = pm_re ad cA (.inl (u, v.set j.toNatClampNeg (.int (f z)))) := by
        show _ = Sum.inl (cA u, (v.set j.toNatClampNeg (.int (f z))).length, pm_ct ad u (v.set j.toNatClampNeg (.int (f z))))
        rw [pm_ctI ad _ ht3 ht5, List.length_set, pm_upI v _ _ (pm_in_lt hb2)]
      rw [e3] at hP1 hD1
      refine pm_up fun hup => ?_
      exact hK _ H1 locs1 _ _ _ (hA.stored hm hk (by show (v.set j.toNatClampNeg (.int (f z))).length = v.length; simp) hP1 hD1 hS1 hup) hr LS hl
    · cases hr
  · cases hr
theorem pm_jLast (F : pm_Fr p s mid args meth c D cA A ad X m E y) (hA : pm_At s D cA A ad m hb sb x h H locs cells slots) (hm : m ≠ 309) (hd : decode (pm_byt y.2.1) pc = .ok (.lastore, 1))
    (hK : ∀ h1 H1 locs1 q ls st, pm_At s D cA A ad m hb sb x h1 H1 locs1 cells slots → ih d h1 m q ls st = some o → pm_J p l e R s mid args below meth c H1 locs1 cells slots Q ad E.2.1 q ls st) (hr : pm_gLst ih d h m E.2.2.1 pc 1 ls st = some o) : pm_J p l e R s mid args below meth c H locs cells slots Q ad E.2.1 pc ls st := by
  intro LS hl
  unfold pm_gLst at hr
  split at hr
  · rename_i z j a r
    split at hr
    · rename_i u v hc
      replace hr := pm_cond_true hr
      obtain ⟨hb1, hr⟩ := hr
      replace hr := pm_cond_true hr
      obtain ⟨hb2, hr⟩ := hr
      have hu := Nat.eq_of_beq_eq_true hb1
      subst hu
      rw [pm_len_eq] at hb2
      obtain ⟨k, rfl, e2, hk⟩ := pm_cell_some hc
      rw [pm_fl_eq, pm_fn_eq, e2, pm_set_eq, pm_set_eq] at hr
      obtain ⟨hx, hbc, hml, hown, hw, hCx, -⟩ := F
      have ha := pm_ws_at (ad := ad) (cA := cA) hk
      rw [show pm_re ad cA (.inl (3, v)) = .inl (cA 3, v.length, .inr (.inl (fun j => pm_gv (v.getD j .null)))) from rfl] at ha
      refine va_last hx hbc hCx.1 hA.1.1 hA.1.2.1 (pm_S_self hA.2.1) k 3 ha rfl (pm_in_of hb2) hd fun H1 locs1 hP1 hD1 hS1 => ?_
      have e3 : (.inl (cA 3, v.length, .inr (.inl (vp_updL (fun j => pm_gv (v.getD j .null)) j.toNatClampNeg z))) : va_E) = pm_re ad cA (.inl (3, v.set j.toNatClampNeg (.long z))) := by
        show _ = Sum.inl (cA 3, (v.set j.toNatClampNeg (.long z)).length, pm_ct ad 3 (v.set j.toNatClampNeg (.long z)))
        rw [pm_ct3, List.length_set, pm_upL v _ _ (pm_in_lt hb2)]
      rw [e3] at hP1 hD1
      refine pm_up fun hup => ?_
      exact hK _ H1 locs1 _ _ _ (hA.stored hm hk (by show (v.set j.toNatClampNeg (.long z)).length = v.length; simp) hP1 hD1 hS1 hup) hr LS hl
    · cases hr
  · cases hr
theorem pm_jAast (F : pm_Fr p s mid args meth c D cA A ad X m E y) (hA : pm_At s D cA A ad m hb sb x h H locs cells slots) (hm : m ≠ 309) (hd : decode (pm_byt y.2.1) pc = .ok (.aastore, 1))
    (hK : ∀ h1 H1 locs1 q ls st, pm_At s D cA A ad m hb sb x h1 H1 locs1 cells slots → ih d h1 m q ls st = some o → pm_J p l e R s mid args below meth c H1 locs1 cells slots Q ad E.2.1 q ls st) (hr : pm_gAst ih d h m E.2.2.1 pc 1 ls st = some o) : pm_J p l e R s mid args below meth c H locs cells slots Q ad E.2.1 pc ls st := by
  intro LS hl
  unfold pm_gAst at hr
  split at hr
  · rename_i z j a r
    split at hr
    · rename_i t v ci fs hc hcz
      replace hr := pm_cond_true hr
      obtain ⟨hb1, hr⟩ := hr
      replace hr := pm_cond_true hr
      obtain ⟨hb2, hr⟩ := hr
      rw [pm_len_eq] at hb1
      obtain ⟨k, rfl, e2, hk⟩ := pm_cell_some hc
      obtain ⟨k2, rfl, -, hk2⟩ := pm_cell_some hcz
      rw [pm_fn_eq, e2, pm_set_eq, pm_set_eq] at hr
      obtain ⟨hx, hbc, hml, hown, hw, hCx, -⟩ := F
      have ha := pm_ws_at (ad := ad) (cA := cA) hk
      have hv := pm_ws_at (ad := ad) (cA := cA) hk2
      rw [Bool.and_eq_true, Bool.or_eq_true] at hb2
      have h5 : 5 ≤ t := by have := Nat.eq_of_beq_eq_true hb2.1; omega
      have e0 : pm_re ad cA (.inl (t, v)) = .inl (cA t, v.length, .inr (.inr (.inr (.inr (fun j => pm_qv ad (v.getD j .null)))))) := by
        show Sum.inl (cA t, v.length, pm_ct ad t v) = _
        rw [pm_ctQ ad v h5]
      rw [e0] at ha
      have hgo : ∀ (H1 : Heap) (locs1 : List Loc), va_P D vwCl ((pm_ws ad cA h).set k (ad (16 + k), .inl (cA t, v.length, .inr (.inr (.inr (.inr (va_up (fun j => pm_qv ad (v.getD j .null)) j.toNatClampNeg (some (ad (16 + k2)))))))))) H1 → va_D A ((pm_ws ad cA h).set k (ad (16 + k), .inl (cA t, v.length, .inr (.inr (.inr (.inr (va_up (fun j => pm_qv ad (v.getD j .null)) j.toNatClampNeg (some (ad (16 + k2)))))))))) → va_S A H H1 locs1 → W p l e R s mid args below meth c H1 locs1 cells slots Q (F0 mid (pc + 1) LS (r.map (pm_rv ad))) := by
        intro H1 locs1 hP1 hD1 hS1
        have e3 : (.inl (cA t, v.length, .inr (.inr (.inr (.inr (va_up (fun j => pm_qv ad (v.getD j .null)) j.toNatClampNeg (some (ad (16 + k2)))))))) : va_E) = pm_re ad cA (.inl (t, v.set j.toNatClampNeg (.ref (16 + k2)))) := by
          show _ = Sum.inl (cA t, (v.set j.toNatClampNeg (.ref (16 + k2))).length, pm_ct ad t (v.set j.toNatClampNeg (.ref (16 + k2))))
          rw [pm_ctQ ad _ h5, List.length_set, pm_upQ ad v _ _ (pm_in_lt hb1)]
        rw [e3] at hP1 hD1
        refine pm_up fun hup => ?_
        exact hK _ H1 locs1 _ _ _ (hA.stored hm hk (by show (v.set j.toNatClampNeg (.ref (16 + k2))).length = v.length; simp) hP1 hD1 hS1 hup) hr LS hl
      obtain ⟨q1, q2⟩ := hb2
      have e5 := Nat.eq_of_beq_eq_true q1
      rcases q2 with q2 | q2
      · have e8 := Nat.eq_of_beq_eq_true q2
        have e9 : ci = 3 := by omega
        subst e8; subst e9
        exact va_astq (r := (RX3, TX3, 4)) hx hbc hCx.1 hA.1.1 hA.1.2.1 (pm_S_self hA.2.1) k 8 k2 3 ha rfl hv rfl (pm_in_of hb1) hd hgo
      · have e8 := Nat.eq_of_beq_eq_true q2
        have e9 : ci = 7 := by omega
        subst e8; subst e9
        exact va_astq (r := (RX7, TX7, 7)) hx hbc hCx.1 hA.1.1 hA.1.2.1 (pm_S_self hA.2.1) k 12 k2 7 ha rfl hv rfl (pm_in_of hb1) hd hgo
    · cases hr
  · cases hr
end PmA
