/-! a method whose run ends with a throw -/
abbrev pm_nse : String := "java/util/NoSuchElementException"
abbrev pm_nsn : List String := ["java/lang/RuntimeException", "java/lang/Exception"]
theorem pm_thw : (vx_at0 (pm_nm 11) 184 pm_nse pm_nsn).all (fun w => vx_ot w && (goodWord w || (match w with
  | .declares _ => true
  | .castable _ _ => true
  | _ => false)) && decide (w ∈ tables_1)) = true := by decide +kernel
theorem pm_th_at {args : Array Value} {s : State} (hw : ∀ w ∈ pm_W0, w.before args s = true) (hN : ∀ w ∈ pm_NW, va_Nw w s) : ∀ w ∈ vx_at0 (pm_nm 11) 184 pm_nse pm_nsn, w.before args s = true := by
  intro w h
  have h1 := List.all_eq_true.mp pm_thw w h
  rw [Bool.and_eq_true, Bool.and_eq_true, decide_eq_true_eq, Bool.or_eq_true] at h1
  obtain ⟨⟨-, h2⟩, h3⟩ := h1
  rcases h2 with h2 | h2
  · exact hw w (pm_W0_of h3 h2)
  · split at h2
    · exact va_Nw.use rfl (hN _ (List.mem_filter.mpr ⟨h3, rfl⟩))
    · exact va_Nw.use rfl (hN _ (List.mem_filter.mpr ⟨h3, rfl⟩))
    · cases h2
theorem pm_th_ot : ∀ w ∈ vx_at0 (pm_nm 11) 184 pm_nse pm_nsn, vx_ot w = true := by
  intro w h
  have h1 := List.all_eq_true.mp pm_thw w h
  rw [Bool.and_eq_true, Bool.and_eq_true] at h1
  exact h1.1.1
/-- what a throw leaves: the picture in a heap that the throw has only grown -/
def pm_XC (D : va_G) (cA : Nat → ClassId) (A : Nat → Prop) (ad : Nat → Nat) (h1 : pm_H) : String → State → State → Prop := fun E st t => E = pm_nse ∧ pm_scH h1 = true ∧ ∃ H : Heap, pm_rel D cA A ad h1 H ∧ H.size ≤ t.heap.size ∧ (∀ q : Nat, q < H.size → t.heap[q]? = H[q]?) ∧ va_F A st t
/-- from the frame to the contract of a method that throws -/
theorem pm_MtX {l : Launch} (hlt : l.stackTraces = false) {X : List (Nat × List Value)} (hX : pm_X0 X) {D : va_G} {cA : Nat → ClassId} {A : Nat → Prop} {ad : Nat → Nat} {m n d : Nat} {E : pm_M} {y : pm_Hd} {h h1 : pm_H} {As : List Value} {u : Unit} (he : pm_ent m = some E) (hy : pm_get pm_hds m = some y) (hpl : Jvm.plainName y.1.cls = true) (hcl : y.1.cls = pm_nm E.2.2.1) (hown : E.2.2.1 ≠ 13) (hlay : (pm_lay As E.2.1).length = E.2.1)
    (hrun : pm_x X n d h m 0 (pm_lay As E.2.1) [] = some (h1, .inr u)) {Qc : Array Value → State → Outcome → State → Prop} :
    vx_Met l y.1 (pm_wsm y E) (pm_rm d (h1.length - h.length + 1) (pm_slt h1 - pm_slt h + 6)) (pm_Pc D cA A ad X h As) Qc (pm_XC D cA A ad h1) (h1.length - h.length + 1) (pm_slt h1 - pm_slt h + 6) A := by
  refine vx_ofW (cc := pm_byt y.2.1) (maxL := E.2.1) (ret := y.2.2) hpl rfl ?_
  intro p e s mid args below meth c s₁ B hml htab hv
  obtain ⟨rfl, hCx, hrel, hAs⟩ := hv
  have hts := atoms_spec (ws := pm_wsm y E) B.pre
  have hownc : s.vm.findClass y.1.cls = some mid.cls := findClass_of_methodNamed B.named
  have hlocks := B.notSynchronized
  have hin : meth.name = y.1.name := (name_of_methodNamed B.named B.method).1
  rw [lg_entry_eq]
  rw [hcl] at hownc
  have hw0 : ∀ w ∈ pm_W0, w.before (As.map (pm_rv ad)).toArray s = true := fun w hw => hts w (List.mem_cons_of_mem _ hw)
  have F : pm_Fr p s mid (As.map (pm_rv ad)).toArray meth c D cA A ad X m E y := ⟨B.exec, B.bytes, hml, hownc, hw0, hCx, hin, he, hy, hAs⟩
  have hA0 : pm_At s D cA A ad m h.length (pm_slt h) 0 h s.heap [] 0 0 := ⟨hrel, va_S.rf, Or.inr ⟨rfl, rfl⟩, by omega, by omega⟩
  have hle := pm_mono X n _ _ _ _ _ _ _ hrun
  have l1 : h.length ≤ h1.length := hle.1
  have l2 : pm_slt h ≤ pm_slt h1 := hle.2
  refine pm_FL hX n (R := pm_rm d (h1.length - h.length + 1) (pm_slt h1 - pm_slt h + 6)) (o := (h1, .inr u)) (Or.inr ⟨pm_fill hX, Nat.le_refl _, Nat.le_refl _⟩) hown F hA0 ⟨by show h1.length ≤ (h1.length - h.length + 1) + h.length; omega, by show pm_slt h1 ≤ (pm_slt h1 - pm_slt h + 6) + pm_slt h; omega⟩ (fun H1 locs1 cells1 slots1 pc1 ls1 st1 hA1 hE hsc => ?_) hrun _ (pm_entry hlay)
  intro LS hl
  obtain ⟨hst, ix, b, z, w, d0, hg, h11, d3, d4, d7⟩ := hE
  subst hst
  obtain ⟨i, hi⟩ := pm_link hg
  have hi : decide (tables_1[i]? = some (.classLink (pm_nm E.2.2.1) ix pm_nse)) = true := hi
  rw [decide_eq_true_eq] at hi
  have hk := hw0 _ (pm_W0_at i hi rfl)
  rw [h11] at hk hownc
  obtain ⟨hrel1, hS1, -, a4, a5⟩ := hA1
  have a4 : cells1 + h.length = h1.length + 0 := a4
  have a5 : slots1 + pm_slt h = pm_slt h1 + 6 * 0 := a5
  refine vx_throw0 (mc := h1.length - h.length + 1) (ms := pm_slt h1 - pm_slt h + 6) (A := A) B.exec B.bytes hlt (own := pm_nm 11) (cls := pm_nse) (names := pm_nsn) (ik := ix) (ic := 184) hownc (by decide +kernel) (by decide +kernel) hk (hw0 _ (pm_W0_of (by decide +kernel) rfl)) (pm_th_at hw0 hCx.2.1) ?_ hCx.2.2.2.2.2.2.1 hCx.2.2.2.2.2.2.2.1 hS1 (hl.1.trans hml.symm) d0 d3 d4 d7 (fun x hx => (htab x hx).elim) ?_ ?_ ?_ ?_ hlocks ?_ hS1.2.2 ?_ ?_
  · intro w hw9
    rcases List.mem_cons.mp hw9 with rfl | hw9
    · rfl
    · rcases List.mem_cons.mp hw9 with rfl | hw9
      · rfl
      · exact pm_th_ot w hw9
  · show 2 + 3 < d + 10
    omega
  · show 0 + (13 * (2 + 1) + 42) ≤ 100 * d + 200
    omega
  · show cells1 + 1 ≤ h1.length - h.length + 1
    omega
  · show slots1 + 6 ≤ pm_slt h1 - pm_slt h + 6
    omega
  · intro t ht hz hq
    have hF1 := hS1
    exact ⟨rfl, hsc u rfl, H1, hrel1, hz, hq, Nat.le_trans hS1.1 hz, fun q g1 g2 => (hq q (Nat.lt_of_lt_of_le g1 hS1.1)).trans (hS1.2.1 q g1 g2)⟩
  · omega
  · omega
