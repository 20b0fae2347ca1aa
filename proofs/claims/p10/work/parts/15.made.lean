/-! soundness: new cells, constants, what is called by its meaning -/
section PmN
variable {p : Program} {l : Launch} {e : Env} {R : Room} {s : State} {mid : MethodId} {args : Array Value} {below : List Frame} {meth : Method} {c : Code} {H : Heap} {locs : List Loc} {cells slots : Nat} {Q : State → Prop}
variable {D : va_G} {cA : Nat → ClassId} {A : Nat → Prop} {ad : Nat → Nat} {X : List (Nat × List Value)} {m : Nat} {E : pm_M} {y : pm_Hd} {hb sb x : Nat} {h : pm_H}
variable {d pc len : Nat} {ls : pm_L} {st : List Value} {ih : pm_I} {o : pm_H × (Option Value ⊕ Unit)}
/-- fields of a new object -/
def pm_X0 (X : List (Nat × List Value)) : Prop := ∀ (ci : Nat) (C : String) (T : u_T) (N z : Nat) (fs : List Value), vwCl[ci]? = some (C, T, N) → X[16 + ci]? = some (z, fs) → fs.length = N ∧ (∀ (k : Nat) (ty : FieldType), k < N → parseFieldDescriptor (T k).2.2.1 = some ty → fs[k]? = some (defaultValue ty))
theorem pm_default_rv (ty : FieldType) : pm_rv ad (defaultValue ty) = defaultValue ty := by cases ty <;> rfl
theorem pm_jNew {ix : Nat} (F : pm_Fr p s mid args meth c D cA A ad X m E y) (hX : pm_X0 X) (hA : pm_At s D cA A ad m hb sb x h H locs cells slots) (hd : decode (pm_byt y.2.1) pc = .ok (.new ix, 3))
    (hroom : ∀ (h1 : pm_H) (q : Nat) (ls : pm_L) (st : List Value), ih d h1 m q ls st = some o → h1.length + x ≤ R.cells + hb ∧ pm_slt h1 + 6 * x ≤ R.slots + sb)
    (hthr : ∀ b z w, pm_get (pm_lnk E.2.2.1) ix = some (13, b, z, w) → pm_scH h = true → st = [] → o = (h, .inr ()) → pm_J p l e R s mid args below meth c H locs cells slots Q ad E.2.1 pc ls st)
    (hK : ∀ h1 H1 cells1 slots1 q ls st, pm_At s D cA A ad m hb sb x h1 H1 locs cells1 slots1 → ih d h1 m q ls st = some o → pm_J p l e R s mid args below meth c H1 locs cells1 slots1 Q ad E.2.1 q ls st) (hr : pm_gNew X ix ih d h m E.2.2.1 pc 3 ls st = some o) : pm_J p l e R s mid args below meth c H locs cells slots Q ad E.2.1 pc ls st := by
  unfold pm_gNew at hr
  split at hr
  · rename_i ci n w hg
    split at hr
    · rename_i z fs hz
      replace hr := pm_cond_true hr
      obtain ⟨hb1, hr⟩ := hr
      rw [pm_nth_eq] at hz
      rw [pm_fn_eq, pm_fn_eq, pm_len_eq] at hr
      rw [pm_len_eq] at hb1
      obtain ⟨i, hi⟩ := pm_link hg
      have hi : (match vwCl[ci]? with
        | some r => decide (tables_1[i]? = some (.classLink (pm_nm E.2.2.1) ix r.1)) && Nat.beq n r.2.2
        | none => false) = true := hi
      split at hi
      · rename_i r hr1
        obtain ⟨C, T, N⟩ := r
        simp only [Bool.and_eq_true, decide_eq_true_eq] at hi
        obtain ⟨hi1, hi2⟩ := hi
        obtain ⟨x1, x2⟩ := hX ci C T N z fs hr1 hz
        obtain ⟨g1, ⟨ty0, g2⟩, g3, g4, g5⟩ := pm_cls hr1
        obtain ⟨hx, hbc, hml, hown, hw, hCx, hnm, he, hy, hAs⟩ := F
        have hKn := hCx.1.1 ci _ hr1
        obtain ⟨rm1, rm2⟩ := hroom _ _ _ _ hr
        rw [List.length_append] at rm1
        rw [pm_slt_push] at rm2
        have hsz : pm_sz (.inr (ci, fs)) = N := x1
        rw [hsz] at rm2
        have c1 : cells + 1 ≤ R.cells := by have := hA.2.2.2.1; simp at rm1; omega
        have c2 : slots + N ≤ R.slots := by have := hA.2.2.2.2; omega
        intro LS hl
        refine W.newcK (C := C) (n := N) hx hbc hown (hw _ (pm_W0_at i hi1 rfl)) (hw _ g4) (hw _ g5) rfl hd c1 c2 hKn.2.1 rfl fun H1 kC hkC e1 z1 o1 => ?_
        have hat : va_at D vwCl (H.size, pm_re ad cA (.inr (ci, fs))) H1 := by
          refine ⟨(C, T, N), hr1, (u_born ty0 hw g1 hKn hkC e1 g2).to fun j hj => ?_⟩
          have h5 := x2 j (ty0 j) hj (g2 j hj)
          show defaultValue (ty0 j) = vp_V (fs.map (pm_rv ad)) j
          unfold vp_V
          rw [List.getD_eq_getElem?_getD, List.getElem?_map, h5]
          exact (pm_default_rv _).symm
        have hA1 := hA.made (c := .inr (ci, fs)) hAs z1 o1 hat
        rw [hsz] at hA1
        have hj := hK _ H1 _ _ _ _ _ hA1 hr LS hl
        have ha : ad (16 + h.length) = H.size := hA.1.2.2 0
        have e9 : ((Value.ref (16 + h.length) :: st).map (pm_rv ad)) = .ref H.size :: st.map (pm_rv ad) := by
          rw [List.map_cons]
          show Value.ref (ad (16 + h.length)) :: _ = _
          rw [ha]
        rw [e9] at hj
        exact hj
      · cases hi
    · cases hr
  · rename_i b z w hg
    replace hr := pm_cond_true hr
    obtain ⟨hb1, hr⟩ := hr
    rw [Bool.and_eq_true, pm_len_eq] at hb1
    exact hthr b z w hg hb1.1 (List.length_eq_zero_iff.mp (Nat.eq_of_beq_eq_true hb1.2)) (Option.some.inj hr).symm
  · cases hr
theorem pm_jNwa {t : ArrayType} (F : pm_Fr p s mid args meth c D cA A ad X m E y) (hA : pm_At s D cA A ad m hb sb x h H locs cells slots) (hd : decode (pm_byt y.2.1) pc = .ok (.newarray t, 2))
    (hroom : ∀ (h1 : pm_H) (q : Nat) (ls : pm_L) (st : List Value), ih d h1 m q ls st = some o → h1.length + x ≤ R.cells + hb ∧ pm_slt h1 + 6 * x ≤ R.slots + sb)
    (hK : ∀ h1 H1 cells1 slots1 q ls st, pm_At s D cA A ad m hb sb x h1 H1 locs cells1 slots1 → ih d h1 m q ls st = some o → pm_J p l e R s mid args below meth c H1 locs cells1 slots1 Q ad E.2.1 q ls st) (hr : pm_gNwa t ih d h m E.2.2.1 pc 2 ls st = some o) : pm_J p l e R s mid args below meth c H locs cells slots Q ad E.2.1 pc ls st := by
  intro LS hl
  unfold pm_gNwa at hr
  split at hr
  · rename_i n r
    replace hr := pm_cond_false hr
    obtain ⟨hb1, hr⟩ := hr
    replace hr := pm_cond_true hr
    obtain ⟨hb2, hr⟩ := hr
    replace hr := pm_cond_true hr
    obtain ⟨hb3, hr⟩ := hr
    rw [pm_fn_eq, pm_fn_eq, pm_len_eq, pm_rep_eq] at hr
    have h0 := pm_not_neg hb1
    have h6 : n.toNatClampNeg ≤ 60000 := Nat.le_of_ble_eq_true hb2
    obtain ⟨rm1, rm2⟩ := hroom _ _ _ _ hr
    rw [List.length_append] at rm1
    rw [pm_slt_push] at rm2
    have hsz : pm_sz (.inl ((pm_tc t).1, List.replicate n.toNatClampNeg (pm_tc t).2)) = n.toNatClampNeg := List.length_replicate
    rw [hsz] at rm2
    have c1 : cells + 1 ≤ R.cells := by have := hA.2.2.2.1; simp at rm1; omega
    have c2 : slots + n.toNatClampNeg ≤ R.slots := by have := hA.2.2.2.2; omega
    obtain ⟨hx, hbc, hml, hown, hw, hCx, hnm, he, hy, hAs⟩ := F
    have key : ∀ (ty : FieldType), newarray.typeOf t = ty → (Cond.arrayClass ty).before args s = true → (pm_tys cA)[(pm_tc t).1]? = some (cA (pm_tc t).1, ty) → componentBytes ty ≤ 8 → (∀ cI : ClassId, cI = cA (pm_tc t).1 → va_at D vwCl (H.size, pm_re ad cA (.inl ((pm_tc t).1, List.replicate n.toNatClampNeg (pm_tc t).2))) (H.push (arrV cI n.toNatClampNeg (fun _ => defaultValue ty)))) → (∀ cI, va_RA s cI ty = (s.vm.findClass ("[" ++ ty.toString) = some cI)) → W p l e R s mid args below meth c H locs cells slots Q (F0 mid pc LS ((Value.int n :: r).map (pm_rv ad))) := by
      intro ty hty har htt hcb hat hra
      refine va_newaK (atype := t) hx hbc (by rw [hty]; exact har) rfl hd rfl h0 rfl (by rw [hty]; calc n.toNatClampNeg * componentBytes ty ≤ 60000 * 8 := Nat.mul_le_mul h6 hcb
        _ ≤ 536870912 := by decide) c1 c2 rfl fun H1 cI e1 z1 o1 hAr hNm => ?_
      rw [hty] at e1 hNm
      have hra2 := (hCx.1.2 _ _ htt).2
      rw [hra] at hra2
      have hcI : cI = cA (pm_tc t).1 := Option.some.inj (hNm.symm.trans hra2)
      have hat1 : va_at D vwCl (H.size, pm_re ad cA (.inl ((pm_tc t).1, List.replicate n.toNatClampNeg (pm_tc t).2))) H1 := by
        have h5 := hat cI hcI
        refine h5.kept ?_
        show H1[H.size]? = (H.push _)[H.size]?
        rw [e1, Array.getElem?_push_size]
      have hA1 := hA.made (c := .inl ((pm_tc t).1, List.replicate n.toNatClampNeg (pm_tc t).2)) hAs z1 o1 hat1
      rw [hsz] at hA1
      have hj := hK _ H1 _ _ _ _ _ hA1 hr LS hl
      have ha : ad (16 + h.length) = H.size := hA.1.2.2 0
      have e9 : ((Value.ref (16 + h.length) :: r).map (pm_rv ad)) = .ref H.size :: r.map (pm_rv ad) := by
        rw [List.map_cons]
        show Value.ref (ad (16 + h.length)) :: _ = _
        rw [ha]
      rw [e9] at hj
      exact hj
    have gI : ∀ (z : Nat) (j : Nat), pm_iv ((List.replicate z (Value.int 0)).getD j .null) = 0 := by
      intro z j
      rw [List.getD_eq_getElem?_getD, List.getElem?_replicate]
      split <;> rfl
    have gL : ∀ (z : Nat) (j : Nat), pm_gv ((List.replicate z (Value.long 0)).getD j .null) = 0 := by
      intro z j
      rw [List.getD_eq_getElem?_getD, List.getElem?_replicate]
      split <;> rfl
    have atI : ∀ (u : Nat) (cI : ClassId) (v : FieldType), u ≠ 3 → u < 5 → defaultValue v = .int 0 → cI = cA u → va_at D vwCl (H.size, pm_re ad cA (.inl (u, List.replicate n.toNatClampNeg (.int 0)))) (H.push (arrV cI n.toNatClampNeg (fun _ => defaultValue v))) := by
      intro u cI v hu3 hu5 hv hc
      show (H.push _)[H.size]? = some (vp_cell (cA u) ((List.replicate n.toNatClampNeg (Value.int 0)).length, pm_ct ad u (List.replicate n.toNatClampNeg (Value.int 0))))
      rw [pm_ctI ad _ hu3 hu5, List.length_replicate, Array.getElem?_push_size, hc, hv, vp_cell_i]
      congr 3
      funext j
      rw [gI]
    cases t with
    | int => exact key .int rfl (hw _ (pm_W0_of (by decide +kernel) rfl)) rfl (by decide) (fun cI hc => atI 0 cI .int (by decide) (by decide) rfl hc) (fun _ => rfl)
    | boolean => exact key .boolean rfl (hw _ (pm_W0_of (by decide +kernel) rfl)) rfl (by decide) (fun cI hc => atI 1 cI .boolean (by decide) (by decide) rfl hc) (fun _ => rfl)
    | char => exact key .char rfl (hw _ (pm_W0_of (by decide +kernel) rfl)) rfl (by decide) (fun cI hc => atI 2 cI .char (by decide) (by decide) rfl hc) (fun _ => rfl)
    | byte => exact key .byte rfl (hw _ (pm_W0_of (by decide +kernel) rfl)) rfl (by decide) (fun cI hc => atI 4 cI .byte (by decide) (by decide) rfl hc) (fun _ => rfl)
    | long =>
      refine key .long rfl (hw _ (pm_W0_of (by decide +kernel) rfl)) rfl (by decide) (fun cI hc => ?_) (fun _ => rfl)
      show (H.push _)[H.size]? = some (vp_cell (cA 3) ((List.replicate n.toNatClampNeg (Value.long 0)).length, pm_ct ad 3 (List.replicate n.toNatClampNeg (Value.long 0))))
      rw [pm_ct3, List.length_replicate, Array.getElem?_push_size, hc, vp_cell_l]
      congr 3
      funext j
      rw [gL]
      rfl
    | float => cases hb3
    | double => cases hb3
    | short => cases hb3
  · cases hr
theorem pm_jAnw {ix : Nat} (F : pm_Fr p s mid args meth c D cA A ad X m E y) (hA : pm_At s D cA A ad m hb sb x h H locs cells slots) (hd : decode (pm_byt y.2.1) pc = .ok (.anewarray ix, 3))
    (hroom : ∀ (h1 : pm_H) (q : Nat) (ls : pm_L) (st : List Value), ih d h1 m q ls st = some o → h1.length + x ≤ R.cells + hb ∧ pm_slt h1 + 6 * x ≤ R.slots + sb)
    (hK : ∀ h1 H1 cells1 slots1 q ls st, pm_At s D cA A ad m hb sb x h1 H1 locs cells1 slots1 → ih d h1 m q ls st = some o → pm_J p l e R s mid args below meth c H1 locs cells1 slots1 Q ad E.2.1 q ls st) (hr : pm_gAnw ix ih d h m E.2.2.1 pc 3 ls st = some o) : pm_J p l e R s mid args below meth c H locs cells slots Q ad E.2.1 pc ls st := by
  intro LS hl
  unfold pm_gAnw at hr
  split at hr
  · rename_i n r ci b w hg
    replace hr := pm_cond_false hr
    obtain ⟨hb1, hr⟩ := hr
    replace hr := pm_cond_true hr
    obtain ⟨hb2, hr⟩ := hr
    rw [Bool.and_eq_true] at hb2
    rw [pm_fn_eq, pm_fn_eq, pm_len_eq, pm_rep_eq] at hr
    have h0 := pm_not_neg hb1
    have h6 : n.toNatClampNeg ≤ 60000 := Nat.le_of_ble_eq_true hb2.1
    obtain ⟨i, hi⟩ := pm_link hg
    have hi : (match vwCl[ci]? with
      | some r => decide (tables_1[i]? = some (.classLink (pm_nm E.2.2.1) ix r.1)) && Nat.beq b r.2.2
      | none => false) = true := hi
    obtain ⟨rm1, rm2⟩ := hroom _ _ _ _ hr
    rw [List.length_append] at rm1
    rw [pm_slt_push] at rm2
    have hsz : pm_sz (.inl (5 + ci, List.replicate n.toNatClampNeg Value.null)) = n.toNatClampNeg := List.length_replicate
    rw [hsz] at rm2
    have c1 : cells + 1 ≤ R.cells := by have := hA.2.2.2.1; simp at rm1; omega
    have c2 : slots + n.toNatClampNeg ≤ R.slots := by have := hA.2.2.2.2; omega
    obtain ⟨hx, hbc, hml, hown, hw, hCx, hnm, he, hy, hAs⟩ := F
    have key : ∀ (C : String), C ∈ [RX3, RX7] → (Cond.classLink (pm_nm E.2.2.1) ix C).before args s = true → (pm_tys cA)[5 + ci]? = some (cA (5 + ci), .object C) → W p l e R s mid args below meth c H locs cells slots Q (F0 mid pc LS ((Value.int n :: r).map (pm_rv ad))) := by
      intro C hC hcl htt
      refine W.anew hx hbc hown hcl (va_AO.use (hCx.2.2.1 C hC)) rfl hd rfl h0 (by omega) c1 c2 fun cI kA comp f1 f2 f3 f4 => ?_
      obtain ⟨kA2, comp2, -, -, -, k4⟩ := (hCx.1.2 _ _ htt).2
      have hcI : cI = cA (5 + ci) := Option.some.inj (f1.symm.trans k4)
      have hat1 : va_at D vwCl (H.size, pm_re ad cA (.inl (5 + ci, List.replicate n.toNatClampNeg .null))) (H.push { cls := cI, slots := Array.replicate n.toNatClampNeg .null, vm := .none }) := by
        show (H.push _)[H.size]? = some (vp_cell (cA (5 + ci)) ((List.replicate n.toNatClampNeg Value.null).length, pm_ct ad (5 + ci) (List.replicate n.toNatClampNeg .null)))
        rw [pm_ctQ ad _ (by omega), List.length_replicate, Array.getElem?_push_size, arrV_new, hcI, vp_cell_q]
        congr 3
        funext j
        rw [List.getD_eq_getElem?_getD, List.getElem?_replicate]
        split <;> rfl
      have hA1 := hA.made (c := .inl (5 + ci, List.replicate n.toNatClampNeg .null)) hAs (Array.size_push _) (fun q hq => by rw [Array.getElem?_push, if_neg (Nat.ne_of_lt hq)]) hat1
      rw [hsz] at hA1
      have hj := hK _ _ _ _ _ _ _ hA1 hr LS hl
      have ha : ad (16 + h.length) = H.size := hA.1.2.2 0
      have e9 : ((Value.ref (16 + h.length) :: r).map (pm_rv ad)) = .ref H.size :: r.map (pm_rv ad) := by
        rw [List.map_cons]
        show Value.ref (ad (16 + h.length)) :: _ = _
        rw [ha]
      rw [e9] at hj
      exact hj
    have hok := hb2.2
    unfold pm_okt at hok
    simp only [Bool.or_eq_true] at hok
    rcases hok with (q | q) | q
    · have := pm_blt q; omega
    · have e3 : ci = 3 := by have := Nat.eq_of_beq_eq_true q; omega
      subst e3
      have hi : (decide (tables_1[i]? = some (.classLink (pm_nm E.2.2.1) ix RX3)) && Nat.beq b 4) = true := hi
      rw [Bool.and_eq_true, decide_eq_true_eq] at hi
      exact key RX3 (by simp) (hw _ (pm_W0_at i hi.1 rfl)) rfl
    · have e3 : ci = 7 := by have := Nat.eq_of_beq_eq_true q; omega
      subst e3
      have hi : (decide (tables_1[i]? = some (.classLink (pm_nm E.2.2.1) ix RX7)) && Nat.beq b 7) = true := hi
      rw [Bool.and_eq_true, decide_eq_true_eq] at hi
      exact key RX7 (by simp) (hw _ (pm_W0_at i hi.1 rfl)) rfl
  · cases hr
end PmN
