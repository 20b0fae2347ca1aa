/-! a helper's contract: it returns, whether its call threw or not -/
def pm_wsh (y : pm_Hd) (e : pm_M) (hp : Nat) : List Cond := Cond.codeWith y.1 (pm_byt y.2.1) e.2.1 y.2.2 [(0, hp - 3, hp, 13)] :: pm_W0
/-- its end: the places to come may have other addresses -/
def pm_Qh (D : va_G) (cA : Nat → ClassId) (A : Nat → Prop) (ad : Nat → Nat) (h1 : pm_H) (v : Option Value) : Array Value → State → Outcome → State → Prop := fun _ st oc t => (∃ r : Int32, v = some (.int r) ∧ oc = .returned (some (.int r))) ∧ (∃ ad' : Nat → Nat, (∀ a, a < 16 + h1.length → ad' a = ad a) ∧ pm_rel D cA A ad' h1 t.heap) ∧ va_F A st t
theorem pm_hpW {y : pm_Hd} {E : pm_M} {hp : Nat} {b : ByteArray} (h : tables_1[y.2.1]? = some (.codeWith y.1 b E.2.1 y.2.2 [(0, hp - 3, hp, 13)])) : Cond.codeWith y.1 b E.2.1 y.2.2 [(0, hp - 3, hp, 13)] ∈ pm_W0 := pm_W0_at _ h rfl
theorem pm_MtH {l : Launch} (hlt : l.stackTraces = false) {X : List (Nat × List Value)} (hX : pm_X0 X) {D : va_G} {cA : Nat → ClassId} {A : Nat → Prop} {ad : Nat → Nat} {m n d : Nat} {E : pm_M} {y : pm_Hd} {h h1 : pm_H} {As : List Value} {v : Option Value} (hk : pm_get pm_kdt m = some 14) (hm309 : m ≠ 309) (he : pm_ent m = some E) (hy : pm_get pm_hds m = some y) (hlay : (pm_lay As E.2.1).length = E.2.1)
    (hrun : pm_x X n d h m 0 (pm_lay As E.2.1) [] = some (h1, .inl v)) :
    ∃ hp : Nat, Cond.codeWith y.1 (pm_byt y.2.1) E.2.1 y.2.2 [(0, hp - 3, hp, 13)] ∈ pm_W0 ∧ Cond.static y.1 ∈ tables_1 ∧ y.1.cls = "RiverWageLaw" ∧ E.2.1 ≤ 80 ∧ (parseMethodDescriptor y.1.desc).map (fun d => d.parameters.length) = some E.1 ∧
    vx_Met l y.1 (pm_wsh y E hp) (pm_rm d (h1.length - h.length + 1) (pm_slt h1 - pm_slt h + 6)) (pm_Pc D cA A ad X h As) (pm_Qh D cA A ad h1 v) (fun _ _ _ => False) (h1.length - h.length + 1) (pm_slt h1 - pm_slt h + 6) A := by
  obtain ⟨hp, k, ln, b, t1, t2, t3, t4, t5, t6, t7, t8, t9, t10, t11, t12, t13, t14, t15⟩ := pm_hpd hk he hy
  subst t2
  refine ⟨hp, pm_hpW t1, t15, t11, t10, t12, ?_⟩
  refine vx_ofWH (cc := pm_byt y.2.1) (maxL := E.2.1) (ret := y.2.2) (by rw [t11]; decide) rfl ?_
  intro p e s mid args below meth c s₁ B hml hv
  obtain ⟨rfl, hCx, hrel, hAs⟩ := hv
  have hts := atoms_spec (ws := pm_wsh y E hp) B.pre
  have hownc : s.vm.findClass y.1.cls = some mid.cls := findClass_of_methodNamed B.named
  have hlocks := B.notSynchronized
  have hin : meth.name = y.1.name := (name_of_methodNamed B.named B.method).1
  have htab := vx_table (x := y.1) B (hts _ List.mem_cons_self)
  rw [lg_entry_eq]
  rw [t11] at hownc
  have hw0 : ∀ w ∈ pm_W0, w.before (As.map (pm_rv ad)).toArray s = true := fun w hw => hts w (List.mem_cons_of_mem _ hw)
  have F : pm_Fr p s mid (As.map (pm_rv ad)).toArray meth c D cA A ad X m E y := ⟨B.exec, B.bytes, hml, by rw [t8]; exact hownc, hw0, hCx, hin, he, hy, hAs⟩
  have hA0 : pm_At s D cA A ad m h.length (pm_slt h) 0 h s.heap [] 0 0 := ⟨hrel, va_S.rf, Or.inr ⟨rfl, rfl⟩, by omega, by omega⟩
  have hle := pm_mono X n _ _ _ _ _ _ _ hrun
  have l1 : h.length ≤ h1.length := hle.1
  have l2 : pm_slt h ≤ pm_slt h1 := hle.2
  refine pm_FH hlt hX n (R := pm_rm d (h1.length - h.length + 1) (pm_slt h1 - pm_slt h + 6)) (o := (h1, .inl v)) ⟨Nat.le_refl _, Nat.le_refl _⟩ t8 hm309 t14 F hA0 ⟨by show h1.length + 1 ≤ (h1.length - h.length + 1) + h.length; omega, by show pm_slt h1 + 6 ≤ (pm_slt h1 - pm_slt h + 6) + pm_slt h; omega⟩ (fun H1 locs1 cells1 slots1 pc1 ls1 st1 hA1 hE _ => ?_) (fun hv1 pc1 ix ls1 rest1 H1 Hm locs1 cells1 slots1 q ce LS z1 z2 z3 z4 z5 z6 z7 z8 z9 z10 z11 z12 z13 => ?_) hrun _ (pm_entry hlay)
  · intro LS hl
    obtain ⟨hrel1, hS1, -, a4, a5⟩ := hA1
    have a4 : cells1 + h.length = h1.length + 0 := a4
    have a5 : slots1 + pm_slt h = pm_slt h1 + 6 * 0 := a5
    have hret : meth.sig.returnType = some .int := by rw [← t3]; exact B.returns
    cases v with
    | none =>
      obtain ⟨-, -, e3⟩ := hE
      rw [t9] at e3
      cases e3
    | some v =>
      obtain ⟨e1, e2, e3⟩ := hE
      subst e1
      rw [t9] at e2
      cases v with
      | int r =>
        rcases e3 with ⟨-, q2⟩ | ⟨q1, -⟩ | ⟨q1, -⟩
        · refine vx_ret (W.widen (k := h1.length - h.length + 1) (n := pm_slt h1 - pm_slt h + 6) (by omega) (by omega) ?_)
          exact W.iret B.exec B.bytes hret (fun t ht hW => ⟨⟨r, rfl, rfl⟩, ⟨ad, fun _ _ => rfl, by rw [ht]; exact hrel1⟩, hS1.F ht⟩) hS1.2.2 q2
        · rw [t9] at q1; cases q1
        · rw [t9] at q1; cases q1
      | long x => cases e2
      | float x => cases e2
      | double x => cases e2
      | null => cases e2
      | ref x => cases e2
      | retAddr x => cases e2
  · have hv1 : v = some (.int 1) := Sum.inl.inj hv1
    have z12 : cells1 + h.length = h1.length + 1 := z12
    have z13 : slots1 + pm_slt h = pm_slt h1 + 6 := z13
    have hret : meth.sig.returnType = some .int := by rw [← t3]; exact B.returns
    have hpc : pc1 < hp - 3 := t13 _ _ _ z2
    refine vx_catch (own := "RiverWageLaw") (name := pm_nse) (E := pm_nse) hownc [] ⟨0, hp - 3, hp, 13⟩ [] (by rw [htab]; rfl) (fun z hz => nomatch hz) ?_ (show (13 : Nat) ≠ 0 by decide) (hw0 _ (pm_W0_of pm_hpl.1 rfl)) (va_Nw.use rfl (hCx.2.1 _ (List.mem_filter.mpr ⟨pm_hpl.2.1, rfl⟩))) z9 z10 z11 ?_
    · show (decide (0 ≤ pc1) && decide (pc1 < hp - 3)) = true
      rw [decide_eq_true (Nat.zero_le _), decide_eq_true hpc]; rfl
    · show W _ _ _ _ _ _ _ _ _ _ _ _ _ _ _ (F0 mid hp LS [.ref q])
      have hlh : lv_has LS E.2.1 (pm_prz ad ls1) := z3.has
      have c4 := pm_code he hy t5
      have c5 := pm_code he hy t6
      have hgo : ∀ LS' : Array Slot, W p l e (headSpec (pm_wsh y E hp) (pm_rm d (h1.length - h.length + 1) (pm_slt h1 - pm_slt h + 6))).room s mid (As.map (pm_rv ad)).toArray below meth c H1 locs1 cells1 slots1 (vx_MQ below (pm_Qh D cA A ad h1 v) (fun _ _ _ => False) (As.map (pm_rv ad)).toArray s (h1.length - h.length + 1) (pm_slt h1 - pm_slt h + 6) A) (F0 mid (hp + ln) LS' []) := by
        intro LS'
        refine lv_iconst B.exec B.bytes c4.1 rfl ?_
        have ec : cells1 = h1.length - h.length + 1 := by omega
        have es : slots1 = pm_slt h1 - pm_slt h + 6 := by omega
        subst ec; subst es
        refine vx_ret ?_
        exact W.iret B.exec B.bytes hret (fun t ht hW => ⟨⟨1, hv1, rfl⟩, ⟨pm_sw ad (16 + h1.length) H1.size, fun a ha => pm_sw_lt ha, by rw [ht]; exact z5.grown z4 z7⟩, z8.F ht⟩) z8.2.2 c5.1
      rcases t4 with ⟨rfl, t4⟩ | ⟨rfl, k', rfl, t4⟩
      · exact lv_astore B.exec B.bytes (pm_code he hy t4).1 hlh t7 rfl fun LS' _ => hgo LS'
      · exact lv_astore_n B.exec B.bytes (pm_code he hy t4).1 rfl hlh t7 rfl fun LS' _ => hgo LS'
