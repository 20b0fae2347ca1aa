def R_law : String := "RiverWageLaw"
def lw_P (b : Addr) (xs : List Int32) (args : Array Value) (s : State) : Prop := args = #[.ref b] ∧ s.IntsAt b xs ∧ xs.length ≤ 3584 ∧ (Jvm.Cond.and given_1 narrow_1).before args s = true
def lw_Q (_ : Array Value) (s : State) (o : Outcome) (t : State) : Prop := o = .returned (some (.int 1)) ∧ Framed s o t [] 601024 7293034
def lw_Z (below : List Frame) (a : Array Value) (s : State) : State → Prop := fun t => ∃ o, t.status = .running ∧ Ended t below o ∧ lw_Q a s o t
/-- the law's own end, with 1 on the stack, nothing written that was there before, its room as the claim has it -/
theorem lw_ret {p : Program} {l : Launch} {e : Env} {s : State} {m : MethodId} {below : List Frame} {meth : Method} {c : Code} {b : Nat} (hx : p.tables.exec = Jvm.exec) (hb : c.code = code) (hr : meth.sig.returnType = ret) (hlocks : meth.locks = false) {pc : Nat} {H : Heap} {ls : Array Slot} (hdg : decode code pc = .ok (.ireturn, 1)) : W p l e room_1 s m #[Value.ref b] below meth c H [] 601024 7293034 (lw_Z below #[Value.ref b] s) (F0 m pc ls [.int 1]) := by
  intro T hT X
  obtain ⟨fs, hret, hrun, hended, hW, hframe⟩ := X.leave (v := some (.int 1)) (hlocks := hlocks) (fun h => by rw [hr] at h; cases h)
  have hmeth' : T.vm.method? m = some meth := X.method'
  refine ⟨T.setFrames fs, ?_, .returned (some (.int 1)), hrun, hended, rfl, ⟨_, rfl⟩, hW, hframe⟩
  jvm_step X.here [X.here.top, hx, hb, hdg, hmeth', hr, ret, narrow_b1]
  (try refine ⟨rfl, ?_⟩); (try refine ⟨rfl, ?_⟩)
  first | (intro acts; rw [hret _ acts rfl rfl rfl]) | rw [hret _ _ rfl rfl rfl]
  exact Steps.refl _
/-- what holds at the law's entry: the machine, the code, the tables' words (any of lw_tbl by 'hts w (by decide +kernel)'), the script of L ints xs at the cell b, what the Statement gives of the start (any of its parts by flat_of_before) -/
def lw_At (p : Program) (s : State) (m : MethodId) (meth : Method) (c : Code) (b L : Nat) (xs : Nat → Int32) : Prop :=
  p.tables.exec = Jvm.exec ∧ c.code = code ∧ meth.sig.returnType = ret ∧ c.maxLocals = 8 ∧ s.vm.findClass R_law = some m.cls ∧ (∀ w ∈ lw_tbl, w.before #[Value.ref b] s = true) ∧ va_X b L xs s s.heap ∧ b < s.heap.size ∧ meth.locks = false ∧ (Jvm.Cond.and given_1 narrow_1).before #[Value.ref b] s = true
theorem pn_clamp {n : Nat} (h : n < 2147483648) : (Int32.ofNat n).toNatClampNeg = n := Int32.toNatClampNeg_ofNat_of_lt (by omega)
/-! the law's entry, as a picture (the rows ahead of this are the skeleton's) -/
theorem pm_eqi {args : Array Value} {s : State} {t : Term} {z : Int32} (h : (Cond.eq t (.int z)).before args s = true) : t.eval args s none [] s = some (.int z) := by
  cases hv : t.eval args s none [] s with
  | none => simp [Cond.before, Cond.holds, Cond.value, hv] at h
  | some w =>
    have hz : (Term.int z).eval args s none [] s = some (.int z) := rfl
    simp only [Cond.before, Cond.holds, Cond.value, hv, hz] at h
    cases w <;> simp_all
theorem pm_arrP {args : Array Value} {s : State} {ty : FieldType} (h : (Cond.arrayClass ty).before args s = true) : ∃ c : ClassId, ArrOfT s c ty ∧ s.vm.findClass ("[" ++ ty.toString) = some c := by
  obtain ⟨c, k, comp, h1, h2, h3⟩ := Cond.arrayClass_spec h
  exact ⟨c, fun n z => ⟨fun k h => (by cases h), k, h2, comp, h3⟩, h1⟩
theorem pm_arrO {args : Array Value} {s : State} {C : String} (h : (Cond.arrayOver (.object C)).before args s = true) : ∃ c : ClassId, ArrOfT s c (.object C) ∧ va_RA s c (.object C) := by
  obtain ⟨comp, c, k, h1, h2, h3, h4, h5⟩ := Cond.arrayOver_spec h
  exact ⟨c, fun n z => ⟨fun k h => (by cases h), k, h3, comp, h4⟩, k, comp, h3, h4, h1, h5⟩
theorem pm_lenS {args : Array Value} {s : State} {t : Term} {v : Value} (h : (Term.length t).eval args s none [] s = some v) : ∃ a cell, t.eval args s none [] s = some (.ref a) ∧ s.arrayAt? a = some cell ∧ v = .int cell.slots.size.toInt32 ∧ cell.slots.size < 2147483648 := by
  simp only [Term.eval, Option.bind_eq_bind] at h
  cases ht : t.eval args s none [] s with
  | none => simp [ht] at h
  | some x =>
    cases x <;> simp [ht] at h
    case ref a =>
      obtain ⟨cell, hcell, h⟩ := Option.bind_eq_some_iff.mp h
      by_cases hn : cell.slots.size < 2147483648
      · rw [if_pos hn] at h; cases h; exact ⟨a, cell, rfl, hcell, rfl, hn⟩
      · rw [if_neg hn] at h; cases h
/-- an int array that a static names, its elements given -/
theorem pm_sta {args : Array Value} {s : State} {C n : String} {l : List Int32} (hn : l.length < 2147483648) (h1 : (Cond.arrayOf (.static C n "[I") .int).before args s = true) (h2 : (Cond.eq (.length (.static C n "[I")) (.int (Int32.ofNat l.length))).before args s = true) (h3 : ∀ j x, l[j]? = some x → (Cond.eq (.elem (.static C n "[I") (.int (Int32.ofNat j))) (.int x)).before args s = true) :
    ∃ (a : Nat) (cell : Cell), (Term.static C n "[I").eval args s none [] s = some (.ref a) ∧ s.heap[a]? = some cell ∧ s.isArrayOf cell .int ∧ cell.vm ≠ .unknown ∧ cell.slots.size = l.length ∧ ∀ (j : Nat) (v : Value), (l.map Value.int)[j]? = some v → cell.slots[j]? = some v := by
  obtain ⟨a, cell, ha, hat, hsz, hlt⟩ := pm_lenS (pm_eqi h2)
  obtain ⟨hc, hu, -, -⟩ := State.arrayAt?_spec hat
  obtain ⟨q1, q2⟩ := Cond.arrayOf_spec h1 ha hc
  refine ⟨a, cell, ha, hc, q1, q2, ?_, fun j v hv => ?_⟩
  · have e : Int32.ofNat l.length = Int32.ofNat cell.slots.size := Value.int.inj hsz
    have e2 := congrArg Int32.toNatClampNeg e
    rw [pn_clamp hn, pn_clamp hlt] at e2
    exact e2.symm
  · rw [List.getElem?_map] at hv
    cases hx : l[j]? with
    | none => rw [hx] at hv; cases hv
    | some x =>
      rw [hx] at hv
      cases hv
      have hj : j < l.length := (List.getElem?_eq_some_iff.mp hx).1
      obtain ⟨cell2, g1, g2, g3⟩ := Lib.elem_at (pm_eqi (h3 j x hx)) ha (show (Term.int (Int32.ofNat j)).eval args s none [] s = some (.int (Int32.ofNat j)) from rfl)
      cases hc.symm.trans g1
      rw [pn_clamp (by omega)] at g3
      exact g3
/-- the static tables and the texts, as the Statement gives them -/
theorem pm_stas {args : Array Value} {s : State} (hf : ∀ c ∈ flatC (Jvm.Cond.and given_1 narrow_1), c.before args s = true) (xs : List Int32) : ∀ a : Nat, 1 ≤ a → a ≤ 3 → ∃ (q : Nat) (l : List Value) (cell : Cell), (pm_ext xs)[a]? = some (0, l) ∧ (Term.static (pm_stn a).1 (pm_stn a).2 "[I").eval args s none [] s = some (.ref q) ∧ s.heap[q]? = some cell ∧ s.isArrayOf cell .int ∧ cell.vm ≠ .unknown ∧ cell.slots.size = l.length ∧ ∀ (j : Nat) (v : Value), l[j]? = some v → cell.slots[j]? = some v := by
  intro a h1 h3
  rcases (by omega : a = 1 ∨ a = 2 ∨ a = 3) with rfl | rfl | rfl
  · obtain ⟨q, cell, g1, g2, g3, g4, g5, g6⟩ := pm_sta (C := "RiverWage") (n := "LAW_FORMS") (l := [-1, -1, -2, -2]) (by decide) (hf _ (by decide +kernel)) (hf _ (by decide +kernel)) (fun j x hx => by
      match j, hx with
      | 0, hx => cases hx; exact hf _ (by decide +kernel)
      | 1, hx => cases hx; exact hf _ (by decide +kernel)
      | 2, hx => cases hx; exact hf _ (by decide +kernel)
      | 3, hx => cases hx; exact hf _ (by decide +kernel)
      | j + 4, hx => cases hx)
    exact ⟨q, _, cell, rfl, g1, g2, g3, g4, g5, g6⟩
  · obtain ⟨q, cell, g1, g2, g3, g4, g5, g6⟩ := pm_sta (C := "RiverWage") (n := "WRITER_FORMS") (l := [-2, 11, 11, 10]) (by decide) (hf _ (by decide +kernel)) (hf _ (by decide +kernel)) (fun j x hx => by
      match j, hx with
      | 0, hx => cases hx; exact hf _ (by decide +kernel)
      | 1, hx => cases hx; exact hf _ (by decide +kernel)
      | 2, hx => cases hx; exact hf _ (by decide +kernel)
      | 3, hx => cases hx; exact hf _ (by decide +kernel)
      | j + 4, hx => cases hx)
    exact ⟨q, _, cell, rfl, g1, g2, g3, g4, g5, g6⟩
  · obtain ⟨q, cell, g1, g2, g3, g4, g5, g6⟩ := pm_sta (C := "RiverWage$Reader") (n := "RANKS") (l := [0, 1, 1, 2, 2, 3, 3, 4, 0, 0]) (by decide) (hf _ (by decide +kernel)) (hf _ (by decide +kernel)) (fun j x hx => by
      match j, hx with
      | 0, hx => cases hx; exact hf _ (by decide +kernel)
      | 1, hx => cases hx; exact hf _ (by decide +kernel)
      | 2, hx => cases hx; exact hf _ (by decide +kernel)
      | 3, hx => cases hx; exact hf _ (by decide +kernel)
      | 4, hx => cases hx; exact hf _ (by decide +kernel)
      | 5, hx => cases hx; exact hf _ (by decide +kernel)
      | 6, hx => cases hx; exact hf _ (by decide +kernel)
      | 7, hx => cases hx; exact hf _ (by decide +kernel)
      | 8, hx => cases hx; exact hf _ (by decide +kernel)
      | 9, hx => cases hx; exact hf _ (by decide +kernel)
      | j + 10, hx => cases hx)
    exact ⟨q, _, cell, rfl, g1, g2, g3, g4, g5, g6⟩
theorem pm_strk : pm_strs.all (fun q => decide (Cond.stringRef (pm_nm q.1) q.2.1 q.2.2.1 ∈ tables_1) && decide (Cond.exactly (.string (pm_nm q.1) q.2.1) "java/lang/String" ∈ flatC (Jvm.Cond.and given_1 narrow_1))) = true := by decide +kernel
theorem pm_strp : ((pm_strs.map fun q => q.2.2.2) = [4, 5, 6, 7, 8, 9, 10, 11]) := by decide +kernel
def pm_sck (own : String) (k : Nat) (bs : List Int32) : List Cond := Cond.exactly (.string own k) "java/lang/String" :: Cond.eq (.field (.string own k) "java/lang/String" "coder" "B") (.int 0) :: Cond.arrayOf (.field (.string own k) "java/lang/String" "value" "[B") .byte :: Cond.eq (.length (.field (.string own k) "java/lang/String" "value" "[B")) (.int (Int32.ofNat bs.length)) :: (List.range bs.length).map (fun j => Cond.eq (.elem (.field (.string own k) "java/lang/String" "value" "[B") (.int (Int32.ofNat j))) (.int (bs.getD j 0)))
theorem pm_stg2 {args : Array Value} {s : State} {A : Nat → Prop} {bs : List Int32} (hts : ∀ w ∈ tables_1, w.before args s = true) (hf : ∀ c ∈ flatC (Jvm.Cond.and given_1 narrow_1), c.before args s = true) (q : Nat × Nat × String × Nat) (hq : q ∈ pm_strs) (hb : bs.length < 2 ^ 31) (hck : (pm_sck (pm_nm q.1) q.2.1 bs).all (fun c => decide (c ∈ flatC (Jvm.Cond.and given_1 narrow_1))) = true) (hA : ∀ a : Nat, a < s.heap.size → ¬ A a) : ∃ a v : Nat, vk_R (pm_nm q.1) q.2.1 q.2.2.1 a s ∧ ps_O A a v bs s := by
  have h1 := List.all_eq_true.mp pm_strk q hq
  rw [Bool.and_eq_true, decide_eq_true_eq, decide_eq_true_eq] at h1
  have hc : ∀ c ∈ pm_sck (pm_nm q.1) q.2.1 bs, c.before args s = true := fun c hc => hf c (of_decide_eq_true (List.all_eq_true.mp hck c hc))
  obtain ⟨adK, adV, hS, he⟩ := vk_Sof (args := args) (s := s) (N := 1) (tm := fun _ => Term.string (pm_nm q.1) q.2.1) (len := [bs.length]) (byt := [bs]) (A := A)
    (fun i hi => by rw [show i = 0 by omega]; exact hb)
    (fun i hi => hc _ List.mem_cons_self)
    (fun i hi => hc _ (List.mem_cons_of_mem _ List.mem_cons_self))
    (fun i hi => hc _ (List.mem_cons_of_mem _ (List.mem_cons_of_mem _ List.mem_cons_self)))
    (fun i hi => by rw [show i = 0 by omega]; exact hc _ (List.mem_cons_of_mem _ (List.mem_cons_of_mem _ (List.mem_cons_of_mem _ List.mem_cons_self))))
    (fun i hi j hj => by
      rw [show i = 0 by omega] at hj ⊢
      exact hc _ (List.mem_cons_of_mem _ (List.mem_cons_of_mem _ (List.mem_cons_of_mem _ (List.mem_cons_of_mem _ (List.mem_map.mpr ⟨j, List.mem_range.mpr hj, rfl⟩))))))
    (fun i j hi hj hn => absurd (show i = j by omega) hn) hA
  have hv := he 0 (by decide)
  exact ⟨adK 0, adV 0, vk_R.of (hts _ h1.1) hv, hS.1 0 (by decide)⟩
/-! from a run of the picture machine to the law's own -/
theorem pm_ext16 (ys : List Int32) (ci : Nat) : (pm_ext ys)[16 + ci]? = pm_new[ci]? := by
  rw [show 16 + ci = (12 + ci) + 1 + 1 + 1 + 1 by omega]
  show ((pm_ext []).tail.tail.tail.tail)[12 + ci]? = _
  unfold pm_ext
  dsimp only [List.tail]
  rw [List.getElem?_append_right (by show 12 ≤ 12 + ci; omega)]
  congr 1
  show 12 + ci - 12 = ci
  omega
def pm_nwk (ci : Nat) : Bool := match vwCl[ci]?, pm_new[ci]? with
  | some q, some r => Nat.beq r.2.length q.2.2 && (List.range q.2.2).all fun k => match parseFieldDescriptor (q.2.1 k).2.2.1 with
    | some ty => decide (r.2[k]? = some (defaultValue ty))
    | none => true
  | some _, none => false
  | none, _ => true
theorem pm_nwks : (List.range 13).all pm_nwk = true := by decide +kernel
theorem pm_X0e (ys : List Int32) : pm_X0 (pm_ext ys) := by
  intro ci C T N z fs h1 h2
  rw [pm_ext16] at h2
  have hl : ci < 13 := (List.getElem?_eq_some_iff.mp h1).1
  have h3 := List.all_eq_true.mp pm_nwks ci (List.mem_range.mpr hl)
  unfold pm_nwk at h3
  rw [h1, h2] at h3
  have h3 : (Nat.beq fs.length N && (List.range N).all fun k => match parseFieldDescriptor (T k).2.2.1 with
    | some ty => decide (fs[k]? = some (defaultValue ty))
    | none => true) = true := h3
  rw [Bool.and_eq_true, List.all_eq_true] at h3
  refine ⟨Nat.eq_of_beq_eq_true h3.1, fun k ty hk hty => ?_⟩
  have h4 := h3.2 k (List.mem_range.mpr hk)
  rw [hty] at h4
  exact of_decide_eq_true h4
theorem pm_Ky : ∃ y, pm_get pm_hds 309 = some y ∧ pm_byt y.2.1 = code ∧ y.1.name = "law" := ⟨_, rfl, rfl, rfl⟩
theorem pm_Ke : ∃ e, pm_ent 309 = some e ∧ e.2.1 = 8 ∧ e.2.2.1 = 13 ∧ e.2.2.2.1 = 1 := ⟨_, rfl, rfl, rfl, rfl⟩
theorem pm_NWs : pm_NW.all (fun w => w.onTables) = true := by decide +kernel
theorem pm_begin {p : Program} {l : Launch} {e : Env} {s : State} {m : MethodId} {below : List Frame} {meth : Method} {c : Code} (hlt : l.stackTraces = false) (hnm : meth.name = "law") {b L : Nat} {xs : Nat → Int32} (C0 : lw_At p s m meth c b L xs) {n N0 : Nat} {H : pm_H} (hn : n ≤ 300000)
    (hrun : pm_xk (pm_ext ((List.range L).map xs)) N0 n 50 [] 309 0 (pm_lay [.ref 0] 8) [] = some (H, .inl (some (.int 1)))) (hH : H.length ≤ 20000) (hS : pm_slt H ≤ 700000) :
    W p l e room_1 s m #[Value.ref b] below meth c s.heap [] 0 0 (lw_Z below #[Value.ref b] s) (entryFrame m ([Value.ref b] : List Value).toArray 8) := by
  obtain ⟨hx, hb, hr, hml, hown, hts, hXs, hbl, hlocks, hgv⟩ := id C0
  have hw0 : ∀ w ∈ pm_W0, w.before #[Value.ref b] s = true := fun w hw => hts w (List.mem_filter.mp hw).1
  have htb : ∀ w ∈ tables_1, w.before #[Value.ref b] s = true := fun w hw => hts w (List.mem_append_right _ hw)
  have hf := flat_of_before _ hgv
  -- the classes
  have hcl : ∀ ci : Nat, ∃ (cC : ClassId) (iS : Nat → Nat), ∀ q, vwCl[ci]? = some q → u_Kn s q.1 q.2.1 q.2.2 cC iS := by
    intro ci
    cases hq : vwCl[ci]? with
    | none => exact ⟨0, fun _ => 0, fun q h => by cases h⟩
    | some q =>
      obtain ⟨C, T, N⟩ := q
      obtain ⟨g1, -, -, g4, -⟩ := pm_cls hq
      obtain ⟨cC, iS, hk⟩ := u_known hw0 g1 (hw0 _ g4)
      exact ⟨cC, iS, fun q h => by cases h; exact hk⟩
  obtain ⟨D, hD⟩ : ∃ D : va_G, ∀ (ci : Nat) (q : vw_C), vwCl[ci]? = some q → u_Kn s q.1 q.2.1 q.2.2 (D.1 ci) (D.2 ci) :=
    ⟨(fun ci => (hcl ci).choose, fun ci => (hcl ci).choose_spec.choose), fun ci q hq => (hcl ci).choose_spec.choose_spec q hq⟩
  obtain ⟨c0, a0, b0⟩ := pm_arrP (htb (.arrayClass .int) (by decide +kernel))
  obtain ⟨c1, a1, b1⟩ := pm_arrP (htb (.arrayClass .boolean) (by decide +kernel))
  obtain ⟨c2, a2, b2⟩ := pm_arrP (htb (.arrayClass .char) (by decide +kernel))
  obtain ⟨c3, a3, b3⟩ := pm_arrP (htb (.arrayClass .long) (by decide +kernel))
  obtain ⟨c4, a4, b4⟩ := pm_arrP (htb (.arrayClass .byte) (by decide +kernel))
  obtain ⟨c8, a8, b8⟩ := pm_arrO (htb (.arrayOver (.object RX3)) (by decide +kernel))
  obtain ⟨c12, a12, b12⟩ := pm_arrO (htb (.arrayOver (.object RX7)) (by decide +kernel))
  obtain ⟨cA, hcA⟩ : ∃ cA : Nat → ClassId, cA 0 = c0 ∧ cA 1 = c1 ∧ cA 2 = c2 ∧ cA 3 = c3 ∧ cA 4 = c4 ∧ cA 8 = c8 ∧ cA 12 = c12 :=
    ⟨fun t => [c0, c1, c2, c3, c4, c0, c0, c0, c8, c0, c0, c0, c12].getD t 0, rfl, rfl, rfl, rfl, rfl, rfl, rfl⟩
  obtain ⟨e0, e1, e2, e3, e4, e8, e12⟩ := hcA
  have hK : va_K D vwCl (pm_tys cA) s := by
    refine ⟨hD, fun k q hk => ?_⟩
    unfold pm_tys at hk
    rw [e0, e1, e2, e3, e4, e8, e12] at hk
    match k, hk with
    | 0, hk => cases hk; exact ⟨a0, b0⟩
    | 1, hk => cases hk; exact ⟨a1, b1⟩
    | 2, hk => cases hk; exact ⟨a2, b2⟩
    | 3, hk => cases hk; exact ⟨a3, b3⟩
    | 4, hk => cases hk; exact ⟨a4, b4⟩
    | 5, hk => cases hk; exact ⟨a0, b0⟩
    | 6, hk => cases hk; exact ⟨a0, b0⟩
    | 7, hk => cases hk; exact ⟨a0, b0⟩
    | 8, hk => cases hk; exact ⟨a8, b8⟩
    | 9, hk => cases hk; exact ⟨a0, b0⟩
    | 10, hk => cases hk; exact ⟨a0, b0⟩
    | 11, hk => cases hk; exact ⟨a0, b0⟩
    | 12, hk => cases hk; exact ⟨a12, b12⟩
    | k + 13, hk => cases hk
  -- what is there at the start
  obtain ⟨t1, l1, k1, x1, v1, h11, h12, h13, h14, h15⟩ := pm_stas hf ((List.range L).map xs) 1 (by decide) (by decide)
  obtain ⟨t2, l2, k2, x2, v2, h21, h22, h23, h24, h25⟩ := pm_stas hf ((List.range L).map xs) 2 (by decide) (by decide)
  obtain ⟨t3, l3, k3, x3, v3, h31, h32, h33, h34, h35⟩ := pm_stas hf ((List.range L).map xs) 3 (by decide) (by decide)
  have hnA : ∀ a : Nat, a < s.heap.size → ¬ (fun q : Nat => s.heap.size ≤ q) a := fun a ha => Nat.not_le.mpr ha
  obtain ⟨s0, t10, r0, q0⟩ := pm_stg2 (A := fun q : Nat => s.heap.size ≤ q) (bs := [104, 105, 114, 101, 32, 112, 97, 114, 116, 32, 115, 104, 117, 116, 32, 111, 112, 101, 110, 115, 32]) htb hf (11, 70, "hire part shut opens ", 4) (by decide) (by decide +kernel) (by decide +kernel) hnA
  obtain ⟨s1, t11, r1, q1⟩ := pm_stg2 (A := fun q : Nat => s.heap.size ≤ q) (bs := [119, 104, 111, 108, 101, 32, 104, 97, 108, 102, 32, 119, 97, 103, 101, 32, 102, 108, 111, 111, 114, 32, 103, 97, 112, 32, 98, 97, 110, 107, 32, 109, 111, 110, 116, 104, 32, 116, 114, 97, 100, 101, 32, 100, 114, 97, 119, 32, 119, 97, 115, 32]) htb hf (11, 72, "whole half wage floor gap bank month trade draw was ", 5) (by decide) (by decide +kernel) (by decide +kernel) hnA
  obtain ⟨s2, t12, r2, q2⟩ := pm_stg2 (A := fun q : Nat => s.heap.size ≤ q) (bs := [116, 97, 107, 101, 32, 102, 114, 111, 109, 32, 116, 111, 32, 116, 101, 110, 116, 104, 115, 32]) htb hf (11, 84, "take from to tenths ", 6) (by decide) (by decide +kernel) (by decide +kernel) hnA
  obtain ⟨s3, t13, r3, q3⟩ := pm_stg2 (A := fun q : Nat => s.heap.size ≤ q) (bs := [98, 97, 110, 107, 32, 119, 97, 103, 101, 32, 109, 111, 115, 116, 32, 99, 104, 111, 115, 101, 110, 32, 115, 105, 108, 101, 110, 116, 32, 115, 104, 117, 116, 32, 98, 111, 117, 110, 100, 32, 104, 97, 110, 100, 115, 32, 110, 117, 109, 98, 101, 114, 32]) htb hf (11, 86, "bank wage most chosen silent shut bound hands number ", 7) (by decide) (by decide +kernel) (by decide +kernel) hnA
  obtain ⟨s4, t14, r4, q4⟩ := pm_stg2 (A := fun q : Nat => s.heap.size ≤ q) (bs := [40, 41, 60, 61, 43, 45, 42, 59]) htb hf (9, 53, "()<=+-*;", 8) (by decide) (by decide +kernel) (by decide +kernel) hnA
  obtain ⟨s5, t15, r5, q5⟩ := pm_stg2 (A := fun q : Nat => s.heap.size ≤ q) (bs := [119, 104, 101, 110, 32]) htb hf (5, 68, "when ", 9) (by decide) (by decide +kernel) (by decide +kernel) hnA
  obtain ⟨s6, t16, r6, q6⟩ := pm_stg2 (A := fun q : Nat => s.heap.size ≤ q) (bs := [110, 111, 116, 32]) htb hf (5, 102, "not ", 10) (by decide) (by decide +kernel) (by decide +kernel) hnA
  obtain ⟨s7, t17, r7, q7⟩ := pm_stg2 (A := fun q : Nat => s.heap.size ≤ q) (bs := [97, 110, 100, 32, 111, 114, 32]) htb hf (5, 135, "and or ", 11) (by decide) (by decide +kernel) (by decide +kernel) hnA
  obtain ⟨g, hg, hgs⟩ : ∃ g : Nat → Nat, (∀ q ∈ pm_strs, vk_R (pm_nm q.1) q.2.1 q.2.2.1 (g q.2.2.2) s) ∧ ∀ (a : Nat) (ll : List Value), 4 ≤ a → a < 12 → (pm_ext ((List.range L).map xs))[a]? = some (4, ll) → ∃ (v : Nat) (bs : List Int32), ll = bs.map Value.int ∧ 0 < bs.length ∧ bs.length < 2 ^ 31 ∧ ps_O (fun q : Nat => s.heap.size ≤ q) (g a) v bs s := by
    refine ⟨fun a => [s0, s1, s2, s3, s4, s5, s6, s7].getD (a - 4) 0, fun q hq => ?_, fun a ll h1 h2 hl => ?_⟩
    · simp only [pm_strs, List.mem_cons, List.not_mem_nil, or_false] at hq
      rcases hq with rfl | rfl | rfl | rfl | rfl | rfl | rfl | rfl
      · exact r0
      · exact r1
      · exact r2
      · exact r3
      · exact r4
      · exact r5
      · exact r6
      · exact r7
    · match a, h1, h2, hl with
      | 4, _, _, hl => cases hl; exact ⟨_, _, rfl, by decide, by decide, q0⟩
      | 5, _, _, hl => cases hl; exact ⟨_, _, rfl, by decide, by decide, q1⟩
      | 6, _, _, hl => cases hl; exact ⟨_, _, rfl, by decide, by decide, q2⟩
      | 7, _, _, hl => cases hl; exact ⟨_, _, rfl, by decide, by decide, q3⟩
      | 8, _, _, hl => cases hl; exact ⟨_, _, rfl, by decide, by decide, q4⟩
      | 9, _, _, hl => cases hl; exact ⟨_, _, rfl, by decide, by decide, q5⟩
      | 10, _, _, hl => cases hl; exact ⟨_, _, rfl, by decide, by decide, q6⟩
      | 11, _, _, hl => cases hl; exact ⟨_, _, rfl, by decide, by decide, q7⟩
      | a + 12, _, h2, _ => omega
  obtain ⟨ad, d0, d1, d2, d3, dg, dn⟩ : ∃ ad : Nat → Nat, ad 0 = b ∧ ad 1 = t1 ∧ ad 2 = t2 ∧ ad 3 = t3 ∧ (∀ a, 4 ≤ a → a < 16 → ad a = g a) ∧ ∀ j, ad (16 + j) = s.heap.size + j := by
    refine ⟨fun a => if a = 0 then b else if a = 1 then t1 else if a = 2 then t2 else if a = 3 then t3 else if a < 16 then g a else s.heap.size + (a - 16), rfl, rfl, rfl, rfl, fun a h1 h2 => ?_, fun j => ?_⟩
    · show (if a = 0 then b else if a = 1 then t1 else if a = 2 then t2 else if a = 3 then t3 else if a < 16 then g a else s.heap.size + (a - 16)) = g a
      rw [if_neg (by omega), if_neg (by omega), if_neg (by omega), if_neg (by omega), if_pos h2]
    · show (if 16 + j = 0 then b else if 16 + j = 1 then t1 else if 16 + j = 2 then t2 else if 16 + j = 3 then t3 else if 16 + j < 16 then g (16 + j) else s.heap.size + (16 + j - 16)) = _
      rw [if_neg (by omega), if_neg (by omega), if_neg (by omega), if_neg (by omega), if_neg (by omega)]
      omega
  have hCx : pm_Cx D cA (fun q : Nat => s.heap.size ≤ q) ad (pm_ext ((List.range L).map xs)) s := by
    refine ⟨hK, fun w hw => ?_, fun C hC => ?_, fun a ll ha hl => ?_, fun a h1 h3 => ?_, fun q hq => ?_, ?_, ?_, ⟨?_, ?_⟩, fun a ll h1 h2 hl => ?_⟩
    · exact va_Nw.of (List.all_eq_true.mp pm_NWs w hw) (htb w (List.mem_filter.mp hw).1)
    · rcases List.mem_cons.mp hC with rfl | hC
      · exact va_AO.of (htb (.arrayOver (.object RX3)) (by decide +kernel))
      · rcases List.mem_cons.mp hC with rfl | hC
        · exact va_AO.of (htb (.arrayOver (.object RX7)) (by decide +kernel))
        · cases hC
    · match a, ha, hl with
      | 0, _, hl =>
        cases hl
        obtain ⟨scr, g1, g2, g3, g4, g5⟩ := hXs
        refine ⟨scr, by rw [d0]; exact g1, g2, g3, by rw [g4, List.length_map, List.length_map, List.length_range], fun j v hv => ?_, by rw [d0]; exact hnA b hbl⟩
        rw [List.getElem?_map, List.getElem?_map] at hv
        by_cases hj : j < L
        · rw [List.getElem?_range hj] at hv
          cases hv
          exact g5 j hj
        · rw [List.getElem?_eq_none (by rw [List.length_range]; omega)] at hv
          cases hv
      | 1, _, hl =>
        cases hl.symm.trans x1
        exact ⟨k1, by rw [d1]; exact h11, h12, h13, h14, h15, by rw [d1]; exact hnA t1 (Array.getElem?_eq_some_iff.mp h11).1⟩
      | 2, _, hl =>
        cases hl.symm.trans x2
        exact ⟨k2, by rw [d2]; exact h21, h22, h23, h24, h25, by rw [d2]; exact hnA t2 (Array.getElem?_eq_some_iff.mp h21).1⟩
      | 3, _, hl =>
        cases hl.symm.trans x3
        exact ⟨k3, by rw [d3]; exact h31, h32, h33, h34, h35, by rw [d3]; exact hnA t3 (Array.getElem?_eq_some_iff.mp h31).1⟩
      | 4, _, hl => cases hl
      | 5, _, hl => cases hl
      | 6, _, hl => cases hl
      | 7, _, hl => cases hl
      | 8, _, hl => cases hl
      | 9, _, hl => cases hl
      | 10, _, hl => cases hl
      | 11, _, hl => cases hl
      | 12, _, hl => cases hl
      | 13, _, hl => cases hl
      | 14, _, hl => cases hl
      | 15, _, hl => cases hl
      | a + 16, ha, hl => omega
    · rcases (by omega : a = 1 ∨ a = 2 ∨ a = 3) with rfl | rfl | rfl
      · rw [d1]
        exact va_Zref (htb (.laysStatic "RiverWage" "LAW_FORMS" "[I") (by decide +kernel)) (htb (.initialized "RiverWage") (by decide +kernel)) v1 hnA
      · rw [d2]
        exact va_Zref (htb (.laysStatic "RiverWage" "WRITER_FORMS" "[I") (by decide +kernel)) (htb (.initialized "RiverWage") (by decide +kernel)) v2 hnA
      · rw [d3]
        exact va_Zref (htb (.laysStatic "RiverWage$Reader" "RANKS" "[I") (by decide +kernel)) (htb (.initialized "RiverWage$Reader") (by decide +kernel)) v3 hnA
    · have hm : q.2.2.2 ∈ pm_strs.map fun q => q.2.2.2 := List.mem_map.mpr ⟨q, hq, rfl⟩
      rw [pm_strp] at hm
      have hb4 : 4 ≤ q.2.2.2 ∧ q.2.2.2 < 16 := by
        simp only [List.mem_cons, List.not_mem_nil, or_false] at hm
        omega
      rw [dg _ hb4.1 hb4.2]
      exact hg q hq
    · exact vx_Zqof (htb (.laysStatic Bundle.tN "UNASSIGNED_STACK" Bundle.steD) (by decide +kernel)) (htb (.initialized Bundle.tN) (by decide +kernel)) (hf _ (by decide +kernel)) hnA
    · exact vx_Zqof (htb (.laysStatic Bundle.tN "SUPPRESSED_SENTINEL" Bundle.listD) (by decide +kernel)) (htb (.initialized Bundle.tN) (by decide +kernel)) (hf _ (by decide +kernel)) hnA
    · exact va_Zof (htb (.laysStatic "java/lang/String" "COMPACT_STRINGS" "Z") (by decide +kernel)) (htb (.initialized "java/lang/String") (by decide +kernel)) (pm_eqi (hf _ (by decide +kernel))) hnA
    · exact va_Zqof (htb (.laysStatic "jdk/internal/util/Preconditions" "SIOOBE_FORMATTER" "Ljava/util/function/BiFunction;") (by decide +kernel)) (htb (.initialized "jdk/internal/util/Preconditions") (by decide +kernel)) (hf _ (by decide +kernel)) hnA
    · rw [dg a h1 (by omega)]
      exact hgs a ll h1 h2 hl
  obtain ⟨y, y1, y2, y3⟩ := pm_Ky
  obtain ⟨E, E1, E2, E3, E4⟩ := pm_Ke
  have F : pm_Fr p s m #[Value.ref b] meth c D cA (fun q : Nat => s.heap.size ≤ q) ad (pm_ext ((List.range L).map xs)) 309 E y :=
    ⟨hx, by rw [y2]; exact hb, by rw [E2]; exact hml, by rw [E3]; exact hown, hw0, hCx, by rw [y3]; exact hnm, E1, y1, fun q hq => hq⟩
  have hA0 : pm_At s D cA (fun q : Nat => s.heap.size ≤ q) ad 309 0 0 0 [] s.heap [] 0 0 :=
    ⟨⟨fun k q h => by simp [pm_ws] at h, ⟨fun i j p q h => by simp [pm_ws] at h, fun k q h => by simp [pm_ws] at h⟩, fun j => dn j⟩, va_S.rf, Or.inl rfl, rfl, rfl⟩
  have hent := pm_entry (ad := ad) (As := [.ref 0]) (n := 8) (by decide)
  have eAs : ([Value.ref 0].map (pm_rv ad)) = [Value.ref b] := by
    show [Value.ref (ad 0)] = _
    rw [d0]
  rw [eAs] at hent
  rw [lg_entry_eq]
  have hrun' : pm_xk (pm_ext ((List.range L).map xs)) N0 n 50 [] 309 0 (pm_lay [.ref 0] 8) [] = some (H, .inl (some (.int 1))) := hrun
  refine pm_FW (R := room_1) (E := E) (y := y) (hb := 0) (sb := 0) (d := 50) hlt (pm_X0e _) ⟨by decide, by decide⟩ E3 (fun ad x1 H1 locs1 cells1 slots1 pc1 ls1 st1 hA1 hc1 hs1 hE => ?_) n F hA0 ⟨?_, ?_⟩ hrun' _ (by rw [E2]; exact hent)
  · intro LS hl
    obtain ⟨z1, z2, z3⟩ := hE
    subst z1
    obtain ⟨w1, w2, -, w4, w5⟩ := hA1
    have w4 : cells1 + 0 = H.length + x1 := w4
    have w5 : slots1 + 0 = pm_slt H + 6 * x1 := w5
    have hc1 : H.length + x1 ≤ 601024 + 0 := hc1
    have hs1 : pm_slt H + 6 * x1 ≤ 7293034 + 0 := hs1
    have hd : decode code pc1 = .ok (.ireturn, 1) := by
      rcases z3 with ⟨-, q⟩ | ⟨q, -⟩ | ⟨q, -⟩
      · rw [y2] at q; exact q
      · rw [E4] at q; cases q
      · rw [E4] at q; cases q
    exact va_forget (fun q hq => w2.2.2 q hq) (W.widen (k := 601024) (n := 7293034) (by omega) (by omega) (lw_ret hx hb hr hlocks hd))
  · show H.length + (0 + n) ≤ 601024 + 0
    omega
  · show pm_slt H + 6 * (0 + n) ≤ 7293034 + 0
    omega

