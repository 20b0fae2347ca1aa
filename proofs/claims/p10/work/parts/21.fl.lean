/-! soundness of a frame of the class, of the reference or of the JDK: by the steps of the run -/
theorem pm_lay_cons2 {v : Value} (h : v.category = 2) (vs : List Value) (n : Nat) : pm_lay (v :: vs) n = some v :: none :: pm_lay vs (n - 2) := by
  cases v with
  | long x => rfl
  | double x => rfl
  | int x => exact absurd h (show ¬ (1 : Nat) = 2 by decide)
  | float x => exact absurd h (show ¬ (1 : Nat) = 2 by decide)
  | null => exact absurd h (show ¬ (1 : Nat) = 2 by decide)
  | ref x => exact absurd h (show ¬ (1 : Nat) = 2 by decide)
  | retAddr x => exact absurd h (show ¬ (1 : Nat) = 2 by decide)
theorem pm_lay_cons1 {v : Value} (h : ¬ v.category = 2) (vs : List Value) (n : Nat) : pm_lay (v :: vs) n = some v :: pm_lay vs (n - 1) := by
  cases v with
  | long x => exact absurd rfl h
  | double x => exact absurd rfl h
  | int x => rfl
  | float x => rfl
  | null => rfl
  | ref x => rfl
  | retAddr x => rfl
theorem pm_lay_nil (n : Nat) : pm_lay [] n = List.replicate n none := pm_rep_eq none n
theorem pm_sl_cons (v : Value) (vs : List Value) : lg_sl (v :: vs) = (if v.category = 2 then [.val v, .second] else [.val v]) ++ lg_sl vs := by simp [lg_sl]
theorem pm_lay_slots : ∀ (vs : List Value) (n : Nat), (lg_sl vs).length ≤ (pm_lay vs n).length
  | [], n => Nat.zero_le _
  | v :: vs, n => by
    rw [pm_sl_cons, List.length_append]
    by_cases h : v.category = 2
    · rw [pm_lay_cons2 h, if_pos h]
      have := pm_lay_slots vs (n - 2)
      simp only [List.length_cons, List.length_nil]; omega
    · rw [pm_lay_cons1 h, if_neg h]
      have := pm_lay_slots vs (n - 1)
      simp only [List.length_cons, List.length_nil]; omega
theorem pm_lay_get : ∀ (vs : List Value) (n j i : Nat) (v : Value), (pm_lay vs n)[i]? = some (some v) → (j + i, v) ∈ lv_args j vs
  | [], n, j, i, v, h => by
    rw [pm_lay_nil, List.getElem?_replicate] at h
    split at h <;> cases h
  | w :: vs, n, j, i, v, h => by
    show (j + i, v) ∈ (j, w) :: lv_args (if w.category = 2 then j + 2 else j + 1) vs
    by_cases hc : w.category = 2
    · rw [pm_lay_cons2 hc] at h
      rw [if_pos hc]
      match i, h with
      | 0, h =>
        have h : some (some w) = some (some v) := h
        cases h
        exact List.mem_cons_self
      | 1, h =>
        have h : (some none : Option (Option Value)) = some (some v) := h
        cases h
      | i + 2, h =>
        have h1 := pm_lay_get vs (n - 2) (j + 2) i v h
        rw [show j + (i + 2) = j + 2 + i by omega]
        exact List.mem_cons_of_mem _ h1
    · rw [pm_lay_cons1 hc] at h
      rw [if_neg hc]
      match i, h with
      | 0, h =>
        have h : some (some w) = some (some v) := h
        cases h
        exact List.mem_cons_self
      | i + 1, h =>
        have h1 := pm_lay_get vs (n - 1) (j + 1) i v h
        rw [show j + (i + 1) = j + 1 + i by omega]
        exact List.mem_cons_of_mem _ h1
theorem pm_args_map (ad : Nat → Nat) : ∀ (vs : List Value) (j : Nat), lv_args j (vs.map (pm_rv ad)) = (lv_args j vs).map (fun q => (q.1, pm_rv ad q.2))
  | [], j => rfl
  | v :: vs, j => by
    show (j, pm_rv ad v) :: lv_args (if (pm_rv ad v).category = 2 then j + 2 else j + 1) (vs.map (pm_rv ad)) = _
    rw [pm_rv_cat, pm_args_map ad vs]
    rfl
theorem pm_sl_map (ad : Nat → Nat) : ∀ vs : List Value, (lg_sl (vs.map (pm_rv ad))).length = (lg_sl vs).length
  | [] => rfl
  | v :: vs => by
    rw [List.map_cons, pm_sl_cons, pm_sl_cons, List.length_append, List.length_append, pm_sl_map ad vs, pm_rv_cat]
    by_cases h : v.category = 2
    · rw [if_pos h, if_pos h]; rfl
    · rw [if_neg h, if_neg h]; rfl
/-- the locals at a method's start -/
theorem pm_entry {ad : Nat → Nat} {As : List Value} {n : Nat} (h : (pm_lay As n).length = n) : pm_lr ad n (pm_lay As n) ((lg_sl (As.map (pm_rv ad)) ++ List.replicate (n - (lg_sl (As.map (pm_rv ad))).length) Slot.unset).toArray) := by
  have h1 : (lg_sl (As.map (pm_rv ad))).length ≤ n := by
    rw [pm_sl_map]
    have := pm_lay_slots As n
    omega
  obtain ⟨a1, a2, a3⟩ := lv_entry (As.map (pm_rv ad)) h1
  refine ⟨a1, h, a2, fun i v hv => ?_⟩
  have h2 := pm_lay_get As n 0 i v hv
  rw [Nat.zero_add] at h2
  refine a3 (i, pm_rv ad v) ?_
  rw [pm_args_map]
  exact List.mem_map.mpr ⟨(i, v), h2, rfl⟩
/-- the contract of Arrays.fill -/
def pm_rm0 (mc ms : Nat) : Room := { frames := 0, cells := mc, slots := ms, locals := 0 }
def pm_Fill (l : Launch) (X : List (Nat × List Value)) : Prop := ∀ (D : va_G) (cA : Nat → ClassId) (A : Nat → Prop) (ad : Nat → Nat) (y : pm_Hd) (e : pm_M) (h : pm_H) (k : Nat) (v : List Value) (z : Int32), pm_get pm_hds 324 = some y → pm_ent 324 = some e → h[k]? = some (.inl (0, v)) → v.length ≤ 60000 →
  Met l y.1 (pm_wsm y e) (pm_rm0 ((h.set k (.inl (0, List.replicate v.length (.int z)))).length - h.length) (pm_slt (h.set k (.inl (0, List.replicate v.length (.int z)))) - pm_slt h)) (pm_Pc D cA A ad X h [.ref (16 + k), .int z]) (pm_Qc D cA A ad (h.set k (.inl (0, List.replicate v.length (.int z)))) none) ((h.set k (.inl (0, List.replicate v.length (.int z)))).length - h.length) (pm_slt (h.set k (.inl (0, List.replicate v.length (.int z)))) - pm_slt h) A
theorem pm_own_all : pm_kdt.all (fun c => c.all (fun q => Nat.beq q.2 14 || (Nat.beq q.1 309 || (match pm_ent q.1 with
  | some e => !Nat.beq e.2.2.1 13
  | none => false)))) = true := by decide +kernel
theorem pm_own309 : pm_get pm_kdt 309 = none ∨ ((pm_get pm_kdt 309).any fun q => Nat.beq q 0 || Nat.ble 4 q) = true := by decide +kernel
theorem pm_own {m kd : Nat} {e : pm_M} (h : pm_get pm_kdt m = some kd) (he : pm_ent m = some e) (hk : kd = 1 ∨ kd = 2 ∨ kd = 3) : e.2.2.1 ≠ 13 := by
  obtain ⟨c, hc, hm⟩ := pm_get_mem h
  have h1 := List.all_eq_true.mp (List.all_eq_true.mp pm_own_all c hc) _ hm
  dsimp only at h1
  rw [he, Bool.or_eq_true, Bool.or_eq_true] at h1
  rcases h1 with q | q | q
  · have := Nat.eq_of_beq_eq_true q
    omega
  · have := Nat.eq_of_beq_eq_true q
    subst this
    rcases pm_own309 with g | g
    · rw [g] at h; cases h
    · rw [h] at g
      have g : (Nat.beq kd 0 || Nat.ble 4 kd) = true := g
      rw [Bool.or_eq_true] at g
      rcases g with g | g
      · have := Nat.eq_of_beq_eq_true g
        omega
      · have := Nat.le_of_ble_eq_true g
        omega
  · intro q2
    dsimp only at q
    rw [q2] at q
    cases q
theorem pm_no_inv : pmc_324.all (fun c => c.all (fun q => match q.2.1 with
  | .invokevirtual _ => false
  | .invokestatic _ => false
  | .invokespecial _ => false
  | _ => true)) = true := by decide +kernel
theorem pm_e324 : pm_ent 324 = some (2, 4, 14, 4, pmc_324) := rfl
theorem pm_o309 : (pm_ent 309).map (fun e => e.2.2.1) = some 13 := by decide +kernel
section PmL
variable {p : Program} {l : Launch} {e : Env} {R : Room} {s : State} {mid : MethodId} {args : Array Value} {below : List Frame} {meth : Method} {c : Code} {H : Heap} {locs : List Loc} {cells slots : Nat} {Q : State → Prop}
variable {D : va_G} {cA : Nat → ClassId} {A : Nat → Prop} {ad : Nat → Nat} {X : List (Nat × List Value)} {m : Nat} {E : pm_M} {y : pm_Hd} {hb sb x : Nat} {h : pm_H}
variable {d pc len : Nat} {ls : pm_L} {st : List Value} {ih : pm_I} {o : pm_H × (Option Value ⊕ Unit)}
/-- a call of Arrays.fill -/
theorem pm_jFill {ix a b k : Nat} {z : Int32} {v r : List Value} (hF : pm_Fill l X) (F : pm_Fr p s mid args meth c D cA A ad X m E y) (hA : pm_At s D cA A ad m hb sb x h H locs cells slots) (hg : pm_get (pm_lnk E.2.2.1) ix = some (12, 6, a, b)) (hd : decode (pm_byt y.2.1) pc = .ok (.invokestatic ix, 3))
    (hR : d + 10 ≤ R.frames ∧ 100 * d + 200 ≤ R.locals) (hroom : ∀ (h1 : pm_H) (q : Nat) (ls : pm_L) (st : List Value), ih d h1 m q ls st = some o → h1.length + x ≤ R.cells + hb ∧ pm_slt h1 + 6 * x ≤ R.slots + sb)
    (hst : st = .int z :: .ref (16 + k) :: r) (hk : h[k]? = some (.inl (0, v))) (hv : v.length ≤ 60000) (hc : pm_cat8 r = true)
    (hK : ∀ h1 H1 locs1 cells1 slots1 q ls st, pm_At s D cA A ad m hb sb x h1 H1 locs1 cells1 slots1 → ih d h1 m q ls st = some o → pm_J p l e R s mid args below meth c H1 locs1 cells1 slots1 Q ad E.2.1 q ls st)
    (hr : ih d (h.set k (.inl (0, List.replicate v.length (.int z)))) m (pc + 3) ls r = some o) : pm_J p l e R s mid args below meth c H locs cells slots Q ad E.2.1 pc ls st := by
  intro LS hl
  obtain ⟨i, hi⟩ := pm_link hg
  have hi : (Nat.ble 6 6 && decide (tables_1[i]? = some (.methodLink (pm_nm E.2.2.1) ix (pm_prn 6)))) = true := hi
  rw [Bool.and_eq_true, decide_eq_true_eq] at hi
  have q3 : pm_get pm_kdt 324 = some 2 := by decide +kernel
  obtain ⟨y3, e3, ps, r1, r2, r3⟩ := pm_head q3
  have ee : e3 = (2, 4, 14, 4, pmc_324) := Option.some.inj (r2.symm.trans pm_e324)
  have ey : y3.1 = pm_prn 6 := by
    have : (pm_get pm_hds 324).map (fun q => q.1) = some (pm_prn 6) := by decide +kernel
    rw [r1] at this
    exact Option.some.inj this
  obtain ⟨w1, w2, w3, w4, w5, w6, w7, w8, w9, w10⟩ := pm_hd_ok r3 (Or.inr (Or.inl rfl))
  have hpre := pm_pre (As := [.ref (16 + k), .int z]) F hA
  obtain ⟨hx, hbc, hml, hown, hw, hCx, hnm, he, hyy, hAs⟩ := F
  have hS : CallFix p mid c (pm_byt y.2.1) E.2.1 s args pm_W0 (pm_nm E.2.2.1) := ⟨hx, hbc, hml, hown, hw⟩
  have hG : GoodIn pm_W0 (pm_wsm y3 e3) := pm_good fun w hw9 => by
    rcases List.mem_cons.mp hw9 with rfl | hw9
    · exact w1
    · exact hw9
  have hsz : pm_sz (.inl (0, List.replicate v.length (.int z))) = pm_sz (.inl (0, v)) := by simp [pm_sz]
  have hle := pm_le_set hk hsz
  have hs1 := pm_slt_set hk hsz
  have hl1 : (h.set k (.inl (0, List.replicate v.length (.int z)))).length = h.length := List.length_set
  have hRR : (pm_rm0 ((h.set k (.inl (0, List.replicate v.length (.int z)))).length - h.length) (pm_slt (h.set k (.inl (0, List.replicate v.length (.int z)))) - pm_slt h)).frames + 1 ≤ R.frames ∧ 8 + (e3.2.1 + 11) + (pm_rm0 ((h.set k (.inl (0, List.replicate v.length (.int z)))).length - h.length) (pm_slt (h.set k (.inl (0, List.replicate v.length (.int z)))) - pm_slt h)).locals ≤ R.locals := ⟨by show 0 + 1 ≤ _; omega, by show 8 + (e3.2.1 + 11) + 0 ≤ R.locals; omega⟩
  have hst' : st.map (pm_rv ad) = ([Value.ref (16 + k), .int z].map (pm_rv ad)).reverse ++ r.map (pm_rv ad) := by rw [hst]; rfl
  have hW8 : 2 * (F0 mid pc LS (st.map (pm_rv ad))).monitorRoom + ((r.map (pm_rv ad)).map fun v => v.category).sum ≤ 8 := lv_room (pm_cat8_rv hc)
  obtain ⟨v1, v2⟩ := w9 rfl
  obtain ⟨rm1, rm2⟩ := hroom _ _ _ _ hr
  have a4 := hA.2.2.2.1
  have a5 := hA.2.2.2.2
  have hn : ([Value.ref (16 + k), .int z].map (pm_rv ad)).length = e3.1 := by rw [ee]; rfl
  have hM := hF D cA A ad y3 e3 h k v z r1 r2 hk hv
  have hlk : (Cond.methodLink (pm_nm E.2.2.1) ix y3.1).before args s = true := by rw [ey]; exact hw _ (pm_W0_at i hi.2 rfl)
  have hrun : va_Run p l e R s mid args below meth c H locs cells slots ((h.set k (.inl (0, List.replicate v.length (.int z)))).length - h.length) (pm_slt (h.set k (.inl (0, List.replicate v.length (.int z)))) - pm_slt h) (F0 mid pc LS (st.map (pm_rv ad))) (r.map (pm_rv ad)) (pm_Qc D cA A ad (h.set k (.inl (0, List.replicate v.length (.int z)))) none ([Value.ref (16 + k), .int z].map (pm_rv ad)).toArray) A :=
    va_runS hS hM ⟨callB_of e3.1 hw hG rfl rfl rfl (hw _ w2) hlk ⟨w7.1, w7.2, v2⟩ hRR, hw _ v1⟩ ⟨pm_Pc_blind, hpre⟩ rfl hn hl.1 hst' hW8 hd ⟨by omega, by omega⟩
  exact pm_after hrun hA hle.1 hle.2 fun H1 locs1 hA1 => hK _ _ _ _ _ _ _ _ hA1 hr LS hl
end PmL
/-- what the end of a frame gives back -/
theorem pm_ret {p : Program} {l : Launch} {e : Env} {R : Room} {s : State} {mid : MethodId} {args : Array Value} {below : List Frame} {meth : Method} {c : Code} {H : Heap} {locs : List Loc} {cells slots : Nat} {D : va_G} {cA : Nat → ClassId} {A : Nat → Prop} {ad : Nat → Nat} {m : Nat} {E : pm_M} {y : pm_Hd} {hb sb pc mc ms : Nat} {ls : pm_L} {st : List Value} {h1 : pm_H} {v : Option Value}
    (hx : p.tables.exec = Jvm.exec) (hbc : c.code = pm_byt y.2.1) (hrt : meth.sig.returnType = y.2.2) (hlocks : meth.locks = false) (hty : pm_tyok E.2.2.2.1 y.2.2 = true) (hA : pm_At s D cA A ad m hb sb 0 h1 H locs cells slots) (hc : cells = mc) (hs : slots = ms) (hE : pm_End y E (.inl v) pc st) :
    pm_J p l e R s mid args below meth c H locs cells slots (MQ below (pm_Qc D cA A ad h1 v) args s mc ms A) ad E.2.1 pc ls st := by
  subst hc; subst hs
  intro LS hl
  obtain ⟨hrel, hS, -⟩ := hA
  have hq : ∀ t : State, t.heap = H → s.WarmedH t.vm → pm_Qc D cA A ad h1 v args s (.returned (v.map (pm_rv ad))) t := fun t ht hW => ⟨rfl, by rw [ht]; exact hrel, hS.F ht⟩
  cases v with
  | none =>
    obtain ⟨e1, e2, e3⟩ := hE
    subst e2
    rw [e3] at hty
    have hr : meth.sig.returnType = none := by
      rw [hrt]
      cases hz : y.2.2 with
      | none => rfl
      | some ty => rw [hz] at hty; cases hty
    exact W.vret hx hbc hr hq hS.2.2 e1
  | some v =>
    obtain ⟨e1, e2, e3⟩ := hE
    subst e1
    rcases e3 with ⟨q1, q2⟩ | ⟨q1, q2⟩ | ⟨q1, q2⟩
    · cases v with
      | int x =>
        rcases (by omega : E.2.2.2.1 = 0 ∨ E.2.2.2.1 = 1) with q | q
        · rw [q] at hty
          have hr : meth.sig.returnType = some .int := by
            rw [hrt]
            cases hz : y.2.2 with
            | none => rw [hz] at hty; cases hty
            | some ty => rw [hz] at hty; cases ty <;> first | rfl | cases hty
          exact W.iret hx hbc hr hq hS.2.2 q2
        · rw [q] at hty e2
          have hr : meth.sig.returnType = some .boolean := by
            rw [hrt]
            cases hz : y.2.2 with
            | none => rw [hz] at hty; cases hty
            | some ty => rw [hz] at hty; cases ty <;> first | rfl | cases hty
          have e2 : (decide (x = 0) || decide (x = 1)) = true := e2
          rw [Bool.or_eq_true, decide_eq_true_eq, decide_eq_true_eq] at e2
          have hn : narrow .boolean (.int x) = .int x := by
            rcases e2 with rfl | rfl <;> rfl
          exact W.zret hx hbc hr hn hq hS.2.2 q2
      | long x => rcases (by omega : E.2.2.2.1 = 0 ∨ E.2.2.2.1 = 1) with q | q <;> (rw [q] at e2; cases e2)
      | float x => cases e2
      | double x => cases e2
      | null => rcases (by omega : E.2.2.2.1 = 0 ∨ E.2.2.2.1 = 1) with q | q <;> (rw [q] at e2; cases e2)
      | ref x => rcases (by omega : E.2.2.2.1 = 0 ∨ E.2.2.2.1 = 1) with q | q <;> (rw [q] at e2; cases e2)
      | retAddr x => cases e2
    · rw [q1] at hty e2
      have hr : meth.sig.returnType = some .long := by
        rw [hrt]
        cases hz : y.2.2 with
        | none => rw [hz] at hty; cases hty
        | some ty => rw [hz] at hty; cases ty <;> first | rfl | cases hty
      cases v with
      | long x => exact W.lret hx hbc hr hq hS.2.2 q2
      | int x => cases e2
      | float x => cases e2
      | double x => cases e2
      | null => cases e2
      | ref x => cases e2
      | retAddr x => cases e2
    · rw [q1] at hty e2
      have hr : ∃ rt, meth.sig.returnType = some rt ∧ ((∃ n, rt = .object n) ∨ ∃ t, rt = .array t) := by
        rw [hrt]
        cases hz : y.2.2 with
        | none => rw [hz] at hty; cases hty
        | some ty =>
          rw [hz] at hty
          cases ty with
          | object n => exact ⟨_, rfl, Or.inl ⟨n, rfl⟩⟩
          | array t => exact ⟨_, rfl, Or.inr ⟨t, rfl⟩⟩
          | _ => cases hty
      obtain ⟨rt, hr1, hr2⟩ := hr
      have hv : pm_rv ad v = .null ∨ ∃ a, pm_rv ad v = .ref a := by
        cases v with
        | null => exact Or.inl rfl
        | ref x => exact Or.inr ⟨_, rfl⟩
        | int x => cases e2
        | long x => cases e2
        | float x => cases e2
        | double x => cases e2
        | retAddr x => cases e2
      exact W.aret hx hbc hr1 hr2 hv hq hS.2.2 q2
/-- from the frame to the method's contract -/
theorem pm_MtOf {l : Launch} {D : va_G} {cA : Nat → ClassId} {A : Nat → Prop} {ad : Nat → Nat} {X : List (Nat × List Value)} {m : Nat} {E : pm_M} {y : pm_Hd} {h h1 : pm_H} {As : List Value} {v : Option Value} {rm : Room} {mc ms : Nat} (hrc : rm.cells = mc) (hrs : rm.slots = ms) (hmc : mc = h1.length - h.length) (hms : ms = pm_slt h1 - pm_slt h) (he : pm_ent m = some E) (hy : pm_get pm_hds m = some y) (hpl : Jvm.plainName y.1.cls = true) (hcl : y.1.cls = pm_nm E.2.2.1) (hty : pm_tyok E.2.2.2.1 y.2.2 = true) (hlay : (pm_lay As E.2.1).length = E.2.1)
    (hfl : ∀ {p : Program} {e : Env} {s : State} {mid : MethodId} {args : Array Value} {below : List Frame} {meth : Method} {c : Code} {Q : State → Prop}, pm_Fr p s mid args meth c D cA A ad X m E y → pm_At s D cA A ad m h.length (pm_slt h) 0 h s.heap [] 0 0 →
      (∀ H1 locs1 cells1 slots1 pc1 ls1 st1, pm_At s D cA A ad m h.length (pm_slt h) 0 h1 H1 locs1 cells1 slots1 → pm_End y E (.inl v) pc1 st1 → pm_J p l e rm s mid args below meth c H1 locs1 cells1 slots1 Q ad E.2.1 pc1 ls1 st1) → pm_J p l e rm s mid args below meth c s.heap [] 0 0 Q ad E.2.1 0 (pm_lay As E.2.1) []) :
    Met l y.1 (pm_wsm y E) rm (pm_Pc D cA A ad X h As) (pm_Qc D cA A ad h1 v) mc ms A := by
  refine Met.ofW (cc := pm_byt y.2.1) (maxL := E.2.1) (ret := y.2.2) hpl rfl ?_
  intro p e s mid args below meth c s₁ B hml hv
  obtain ⟨rfl, hCx, hrel, hAs⟩ := hv
  have hts := atoms_spec (ws := pm_wsm y E) B.pre
  have hown : s.vm.findClass y.1.cls = some mid.cls := findClass_of_methodNamed B.named
  have hlocks := B.notSynchronized
  have hin : meth.name = y.1.name := (name_of_methodNamed B.named B.method).1
  rw [lg_entry_eq]
  rw [hcl] at hown
  have F : pm_Fr p s mid (As.map (pm_rv ad)).toArray meth c D cA A ad X m E y := ⟨B.exec, B.bytes, hml, hown, fun w hw => hts w (List.mem_cons_of_mem _ hw), hCx, hin, he, hy, hAs⟩
  have hA0 : pm_At s D cA A ad m h.length (pm_slt h) 0 h s.heap [] 0 0 := ⟨hrel, va_S.rf, Or.inr ⟨rfl, rfl⟩, by omega, by omega⟩
  refine hfl (Q := MQ below (pm_Qc D cA A ad h1 v) (As.map (pm_rv ad)).toArray s mc ms A) F hA0 (fun H1 locs1 cells1 slots1 pc1 ls1 st1 hA1 hE => ?_) _ (pm_entry hlay)
  have a4 := hA1.2.2.2.1
  have a5 := hA1.2.2.2.2
  exact pm_ret B.exec B.bytes B.returns hlocks hty hA1 (by omega) (by omega) hE
