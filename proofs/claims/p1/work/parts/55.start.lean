def R_law : String := "RiverWageLaw"
def lw_P (b : Addr) (xs : List Int32) (args : Array Value) (s : State) : Prop := args = #[.ref b] ∧ s.IntsAt b xs ∧ xs.length ≤ 7 ∧ (Jvm.Cond.and given_1 narrow_1).before args s = true
def lw_Q (_ : Array Value) (s : State) (o : Outcome) (t : State) : Prop := o = .returned (some (.int 1)) ∧ Framed s o t [] 600002 7302232
def lw_Z (below : List Frame) (a : Array Value) (s : State) : State → Prop := fun t => ∃ o, t.status = .running ∧ Ended t below o ∧ lw_Q a s o t
/-- the law's own end, with 1 on the stack, nothing written that was there before, its room as the claim has it -/
theorem lw_ret {p : Program} {l : Launch} {e : Env} {s : State} {m : MethodId} {below : List Frame} {meth : Method} {c : Code} {b : Nat} (hx : p.tables.exec = Jvm.exec) (hb : c.code = code) (hr : meth.sig.returnType = ret) (hlocks : meth.locks = false) {pc : Nat} {H : Heap} {ls : Array Slot} (hdg : decode code pc = .ok (.ireturn, 1)) : W p l e room_1 s m #[Value.ref b] below meth c H [] 600002 7302232 (lw_Z below #[Value.ref b] s) (F0 m pc ls [.int 1]) := by
  intro T hT X
  obtain ⟨fs, hret, hrun, hended, hW, hframe⟩ := X.leave (v := some (.int 1)) (hlocks := hlocks) (fun h => by rw [hr] at h; cases h)
  have hmeth' : T.vm.method? m = some meth := X.method'
  refine ⟨T.setFrames fs, ?_, .returned (some (.int 1)), hrun, hended, rfl, ⟨_, rfl⟩, hW, hframe⟩
  jvm_step X.here [X.here.top, hx, hb, hdg, hmeth', hr, ret, narrow_b1]
  (try refine ⟨rfl, ?_⟩); (try refine ⟨rfl, ?_⟩)
  first | (intro acts; rw [hret _ acts rfl rfl rfl]) | rw [hret _ _ rfl rfl rfl]
  exact Steps.refl _
/-- what holds at the law's entry: the machine, the code, the tables' words (any of lw_tbl by 'hts w (by decide +kernel)'), the script of L ints xs at the cell b, what the Statement gives of the start (any of its parts by flat_of_before) -/
def lw_At (p : Program) (s : State) (m : MethodId) (meth : Method) (c : Code) (b L : Nat) (xs : Nat → Int32) : Prop :=
  p.tables.exec = Jvm.exec ∧ c.code = code ∧ meth.sig.returnType = ret ∧ c.maxLocals = 8 ∧ s.vm.findClass R_law = some m.cls ∧ (∀ w ∈ lw_tbl, w.before #[Value.ref b] s = true) ∧ va_X b L xs s s.heap ∧ b < s.heap.size ∧ meth.locks = false ∧ (Jvm.Cond.and given_1 narrow_1).before #[Value.ref b] s = true
/-! the law's entry, as a picture (the rows ahead of this are the skeleton's) -/
theorem pm_eqi {args : Array Value} {s : State} {t : Term} {z : Int32} (h : (Cond.eq t (.int z)).before args s = true) : t.eval args s none [] s = some (.int z) := by
  cases hv : t.eval args s none [] s with
  | none => simp [Cond.before, Cond.holds, Cond.value, hv] at h
  | some w =>
    have hz : (Term.int z).eval args s none [] s = some (.int z) := rfl
    simp only [Cond.before, Cond.holds, Cond.value, hv, hz] at h
    cases w <;> simp_all
theorem pm_exa {args : Array Value} {s : State} {t : Term} {C : String} (h : (Cond.exactly t C).before args s = true) : ∃ v, t.eval args s none [] s = some v := by
  cases hv : t.eval args s none [] s with
  | none => simp [Cond.before, Cond.holds, Cond.value, hv] at h
  | some w => exact ⟨w, rfl⟩
theorem pm_arrP {args : Array Value} {s : State} {ty : FieldType} (h : (Cond.arrayClass ty).before args s = true) : ∃ c : ClassId, ArrOfT s c ty ∧ s.vm.findClass ("[" ++ ty.toString) = some c := by
  obtain ⟨c, k, comp, h1, h2, h3⟩ := Cond.arrayClass_spec h
  exact ⟨c, fun n z => ⟨fun k h => (by cases h), k, h2, comp, h3⟩, h1⟩
theorem pm_arrO {args : Array Value} {s : State} {C : String} (h : (Cond.arrayOver (.object C)).before args s = true) : ∃ c : ClassId, ArrOfT s c (.object C) ∧ va_RA s c (.object C) := by
  obtain ⟨comp, c, k, h1, h2, h3, h4, h5⟩ := Cond.arrayOver_spec h
  exact ⟨c, fun n z => ⟨fun k h => (by cases h), k, h3, comp, h4⟩, k, comp, h3, h4, h1, h5⟩
theorem pm_lenS {args : Array Value} {s : State} {t : Term} {v : Value} (h : (Term.length t).eval args s none [] s = some v) : ∃ a cell, t.eval args s none [] s = some (.ref a) ∧ s.arrayAt? a = some cell ∧ v = .int cell.slots.size.toInt32 ∧ cell.slots.size < 2147483648 := by
  simp only [Term.eval, Option.bind_eq_bind] at h
  cases ht : t.eval args s none [] s with
  | none => simp [ht] at h
  | some x =>
    cases x <;> simp [ht] at h
    case ref a =>
      obtain ⟨cell, hcell, h⟩ := Option.bind_eq_some_iff.mp h
      by_cases hn : cell.slots.size < 2147483648
      · rw [if_pos hn] at h; cases h; exact ⟨a, cell, rfl, hcell, rfl, hn⟩
      · rw [if_neg hn] at h; cases h
/-- an int array that a static names, its elements given -/
theorem pm_sta {args : Array Value} {s : State} {C n : String} {l : List Int32} (hn : l.length < 2147483648) (h1 : (Cond.arrayOf (.static C n "[I") .int).before args s = true) (h2 : (Cond.eq (.length (.static C n "[I")) (.int (Int32.ofNat l.length))).before args s = true) (h3 : ∀ j x, l[j]? = some x → (Cond.eq (.elem (.static C n "[I") (.int (Int32.ofNat j))) (.int x)).before args s = true) :
    ∃ (a : Nat) (cell : Cell), (Term.static C n "[I").eval args s none [] s = some (.ref a) ∧ s.heap[a]? = some cell ∧ s.isArrayOf cell .int ∧ cell.vm ≠ .unknown ∧ cell.slots.size = l.length ∧ ∀ (j : Nat) (v : Value), (l.map Value.int)[j]? = some v → cell.slots[j]? = some v := by
  obtain ⟨a, cell, ha, hat, hsz, hlt⟩ := pm_lenS (pm_eqi h2)
  obtain ⟨hc, hu, -, -⟩ := State.arrayAt?_spec hat
  obtain ⟨q1, q2⟩ := Cond.arrayOf_spec h1 ha hc
  refine ⟨a, cell, ha, hc, q1, q2, ?_, fun j v hv => ?_⟩
  · have e : Int32.ofNat l.length = Int32.ofNat cell.slots.size := Value.int.inj hsz
    have e2 := congrArg Int32.toNatClampNeg e
    rw [pz_clamp hn, pz_clamp hlt] at e2
    exact e2.symm
  · rw [List.getElem?_map] at hv
    cases hx : l[j]? with
    | none => rw [hx] at hv; cases hv
    | some x =>
      rw [hx] at hv
      cases hv
      have hj : j < l.length := (List.getElem?_eq_some_iff.mp hx).1
      obtain ⟨cell2, g1, g2, g3⟩ := Lib.elem_at (pm_eqi (h3 j x hx)) ha (show (Term.int (Int32.ofNat j)).eval args s none [] s = some (.int (Int32.ofNat j)) from rfl)
      cases hc.symm.trans g1
      rw [pz_clamp (by omega)] at g3
      exact g3
/-- the static tables and the texts, as the Statement gives them -/
theorem pm_stas {args : Array Value} {s : State} (hf : ∀ c ∈ flatC (Jvm.Cond.and given_1 narrow_1), c.before args s = true) (xs : List Int32) : ∀ a : Nat, 1 ≤ a → a ≤ 3 → ∃ (q : Nat) (l : List Value) (cell : Cell), (pm_ext xs)[a]? = some (0, l) ∧ (Term.static (pm_stn a).1 (pm_stn a).2 "[I").eval args s none [] s = some (.ref q) ∧ s.heap[q]? = some cell ∧ s.isArrayOf cell .int ∧ cell.vm ≠ .unknown ∧ cell.slots.size = l.length ∧ ∀ (j : Nat) (v : Value), l[j]? = some v → cell.slots[j]? = some v := by
  intro a h1 h3
  rcases (by omega : a = 1 ∨ a = 2 ∨ a = 3) with rfl | rfl | rfl
  · obtain ⟨q, cell, g1, g2, g3, g4, g5, g6⟩ := pm_sta (C := "RiverWage") (n := "LAW_FORMS") (l := [-1, -1, -2, -2]) (by decide) (hf _ (by decide +kernel)) (hf _ (by decide +kernel)) (fun j x hx => by
      match j, hx with
      | 0, hx => cases hx; exact hf _ (by decide +kernel)
      | 1, hx => cases hx; exact hf _ (by decide +kernel)
      | 2, hx => cases hx; exact hf _ (by decide +kernel)
      | 3, hx => cases hx; exact hf _ (by decide +kernel)
      | j + 4, hx => cases hx)
    exact ⟨q, _, cell, rfl, g1, g2, g3, g4, g5, g6⟩
  · obtain ⟨q, cell, g1, g2, g3, g4, g5, g6⟩ := pm_sta (C := "RiverWage") (n := "WRITER_FORMS") (l := [-2, 11, 11, 10]) (by decide) (hf _ (by decide +kernel)) (hf _ (by decide +kernel)) (fun j x hx => by
      match j, hx with
      | 0, hx => cases hx; exact hf _ (by decide +kernel)
      | 1, hx => cases hx; exact hf _ (by decide +kernel)
      | 2, hx => cases hx; exact hf _ (by decide +kernel)
      | 3, hx => cases hx; exact hf _ (by decide +kernel)
      | j + 4, hx => cases hx)
    exact ⟨q, _, cell, rfl, g1, g2, g3, g4, g5, g6⟩
  · obtain ⟨q, cell, g1, g2, g3, g4, g5, g6⟩ := pm_sta (C := "RiverWage$Reader") (n := "RANKS") (l := [0, 1, 1, 2, 2, 3, 3, 4, 0, 0]) (by decide) (hf _ (by decide +kernel)) (hf _ (by decide +kernel)) (fun j x hx => by
      match j, hx with
      | 0, hx => cases hx; exact hf _ (by decide +kernel)
      | 1, hx => cases hx; exact hf _ (by decide +kernel)
      | 2, hx => cases hx; exact hf _ (by decide +kernel)
      | 3, hx => cases hx; exact hf _ (by decide +kernel)
      | 4, hx => cases hx; exact hf _ (by decide +kernel)
      | 5, hx => cases hx; exact hf _ (by decide +kernel)
      | 6, hx => cases hx; exact hf _ (by decide +kernel)
      | 7, hx => cases hx; exact hf _ (by decide +kernel)
      | 8, hx => cases hx; exact hf _ (by decide +kernel)
      | 9, hx => cases hx; exact hf _ (by decide +kernel)
      | j + 10, hx => cases hx)
    exact ⟨q, _, cell, rfl, g1, g2, g3, g4, g5, g6⟩
theorem pm_strk : pm_strs.all (fun q => decide (Cond.stringRef (pm_nm q.1) q.2.1 q.2.2.1 ∈ tables_1) && decide (Cond.exactly (.string (pm_nm q.1) q.2.1) "java/lang/String" ∈ flatC (Jvm.Cond.and given_1 narrow_1))) = true := by decide +kernel
theorem pm_strp : ((pm_strs.map fun q => q.2.2.2) = [4, 5, 6, 7, 8, 9, 10, 11]) := by decide +kernel
theorem pm_stg {args : Array Value} {s : State} (hts : ∀ w ∈ tables_1, w.before args s = true) (hf : ∀ c ∈ flatC (Jvm.Cond.and given_1 narrow_1), c.before args s = true) (q : Nat × Nat × String × Nat) (hq : q ∈ pm_strs) : ∃ a : Nat, vk_R (pm_nm q.1) q.2.1 q.2.2.1 a s := by
  have h1 := List.all_eq_true.mp pm_strk q hq
  rw [Bool.and_eq_true, decide_eq_true_eq, decide_eq_true_eq] at h1
  obtain ⟨v, hv⟩ := pm_exa (hf _ h1.2)
  obtain ⟨a, rfl⟩ := Term.string_eval_ref hv
  exact ⟨a, vk_R.of (hts _ h1.1) hv⟩
