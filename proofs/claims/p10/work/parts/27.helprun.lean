/-! the helpers' call that throws -/
theorem pm_no_nest : tables_1.all (fun w => match w with
  | .methodLinkNest o _ _ _ => decide (o ≠ "RiverWageLaw")
  | _ => true) = true := by decide +kernel
section PmX
variable {p : Program} {l : Launch} {e : Env} {R : Room} {s : State} {mid : MethodId} {args : Array Value} {below : List Frame} {meth : Method} {c : Code} {H : Heap} {locs : List Loc} {cells slots : Nat} {Q : State → Prop}
variable {D : va_G} {cA : Nat → ClassId} {A : Nat → Prop} {ad : Nat → Nat} {X : List (Nat × List Value)} {m : Nat} {E : pm_M} {y : pm_Hd} {hb sb : Nat} {h : pm_H}
variable {d pc n : Nat} {ls : pm_L} {st : List Value}
/-- a virtual call that throws: the thrown thing lies over the frame -/
theorem pm_jThrown {ix m' na ci d' : Nat} {As rest : List Value} {h1 : pm_H} {u : Unit} (hlt : l.stackTraces = false) (hX : pm_X0 X) (F : pm_Fr p s mid args meth c D cA A ad X m E y) (hE13 : E.2.2.1 = 13) (hA : pm_At s D cA A ad m hb sb 0 h H locs cells slots)
    (hg : pm_get (pm_lnk E.2.2.1) ix = some (1, m', na, ci)) (hd1 : decode (pm_byt y.2.1) pc = .ok (.invokevirtual ix, 3)) (hpop : pm_pop na st [] = some (As, rest)) (hcat : pm_cat8 rest = true) (hrcv : ∃ a r fs, As = .ref a :: r ∧ pm_cell h a = some (.inr (ci, fs)))
    (hR : d' + 11 ≤ R.frames ∧ 100 * d' + 300 ≤ R.locals) (hf : h1.length + 1 ≤ R.cells + hb ∧ pm_slt h1 + 6 ≤ R.slots + sb) {e' : pm_M} (he' : pm_ent m' = some e') (hlay : (pm_lay As e'.2.1).length = e'.2.1) (hrun : pm_x X n d' h m' 0 (pm_lay As e'.2.1) [] = some (h1, .inr u))
    (kk : ∀ (H1 Hm : Heap) (locs1 : List Loc) (q : Addr) (ce : Cell) (LS : Array Slot), pm_lr ad E.2.1 ls LS → pm_scH h1 = true → pm_rel D cA A ad h1 Hm → Hm.size ≤ H1.size → (∀ q : Nat, q < Hm.size → H1[q]? = Hm[q]?) → va_S A s.heap H1 locs1 → H1[q]? = some ce → ce.vm = .none → s.vm.findClass pm_nse = some ce.cls →
      vx_W p l e R s mid args below meth c H1 locs1 (cells + (h1.length - h.length + 1)) (slots + (pm_slt h1 - pm_slt h + 6)) Q (F0 mid pc LS (rest.map (pm_rv ad))) q) :
    pm_J p l e R s mid args below meth c H locs cells slots Q ad E.2.1 pc ls st := by
  intro LS hl
  obtain ⟨y3, e3, q1, q2, q3, q4, q5, q6⟩ := pm_lkM hg (Or.inl rfl)
  have ee : e3 = e' := Option.some.inj (q2.symm.trans he')
  subst ee
  obtain ⟨y4, e4, ps, r1, r2, r3⟩ := pm_head q3
  have ey : y4 = y3 := Option.some.inj (r1.symm.trans q1)
  have ee : e4 = e3 := Option.some.inj (r2.symm.trans q2)
  subst ey; subst ee
  obtain ⟨w1, w2, w3, w4, w5, w6, w7, w8, w9, w10⟩ := pm_hd_ok r3 (Or.inl rfl)
  have hM := pm_MtX (D := D) (cA := cA) (A := A) (ad := ad) (Qc := fun _ _ _ _ => False) hlt hX q2 q1 w6 w3 (pm_own q3 q2 (Or.inl rfl)) hlay hrun
  have hle := pm_mono X n _ _ _ _ _ _ _ hrun
  have l1 : h.length ≤ h1.length := hle.1
  have l2 : pm_slt h ≤ pm_slt h1 := hle.2
  have hpre := pm_pre (As := As) F hA
  obtain ⟨hx, hbc, hml, hown, hw, hCx, hnm, he, hyy, hAs⟩ := F
  have hS : CallFix p mid c (pm_byt y.2.1) E.2.1 s args pm_W0 (pm_nm E.2.2.1) := ⟨hx, hbc, hml, hown, hw⟩
  have hG : GoodIn pm_W0 (pm_wsm y4 e4) := pm_good fun w hw9 => by
    rcases List.mem_cons.mp hw9 with rfl | hw9
    · exact w1
    · exact hw9
  obtain ⟨a, r, fs, rfl, hc⟩ := hrcv
  obtain ⟨v1, v2, v3⟩ := w8 rfl
  obtain ⟨hst, hlen⟩ := pm_pop_some hpop
  obtain ⟨k0, rfl, -, hk0⟩ := pm_cell_some hc
  obtain ⟨rr, hrr, -⟩ := hA.1.1 k0 _ (pm_ws_at hk0)
  have hnmc : rr.1 = y4.1.cls := by rw [pm_cl_nm hrr, w3, q5 (Or.inl rfl)]
  have hrec := va_recv hCx.1 hA.1.1 hrr (pm_ws_at hk0)
  rw [hnmc] at hrec
  have hn : (r.map (pm_rv ad)).length = e4.1 - 1 := by
    have : r.length + 1 = na := hlen
    rw [List.length_map]; omega
  have hdesc : (parseMethodDescriptor y4.1.desc).map (fun d => d.parameters.length) = some (e4.1 - 1) := by
    cases hpd : parseMethodDescriptor y4.1.desc with
    | none => rw [hpd] at v3; cases v3
    | some sg =>
      rw [hpd] at v3
      have : sg.parameters.length + 1 = e4.1 := Option.some.inj v3
      show some sg.parameters.length = some (e4.1 - 1)
      rw [← this]; rfl
  have hst2 : (F0 mid pc LS (st.map (pm_rv ad))).stack = (r.map (pm_rv ad)).reverse ++ .ref (ad (16 + k0)) :: rest.map (pm_rv ad) := by
    show st.map (pm_rv ad) = _
    rw [hst, List.map_append, List.map_reverse, List.map_cons, List.reverse_cons, List.append_assoc]
    rfl
  have hW8 : 2 * (F0 mid pc LS (st.map (pm_rv ad))).monitorRoom + ((rest.map (pm_rv ad)).map fun v => v.category).sum ≤ 8 := lv_room (pm_cat8_rv hcat)
  have hlk : Cond.methodLink (pm_nm E.2.2.1) ix y4.1 ∈ tables_1 := by
    rcases q6 with q6 | q6
    · exact q6
    · exfalso
      have h9 := List.all_eq_true.mp pm_no_nest _ q6
      rw [hE13] at h9
      cases h9
  have a4 : cells + hb = h.length + 0 := hA.2.2.2.1
  have a5 : slots + sb = pm_slt h + 6 * 0 := hA.2.2.2.2
  have hRR : (pm_rm d' (h1.length - h.length + 1) (pm_slt h1 - pm_slt h + 6)).frames + 1 ≤ R.frames ∧ 8 + (e4.2.1 + 11) + (pm_rm d' (h1.length - h.length + 1) (pm_slt h1 - pm_slt h + 6)).locals ≤ R.locals := ⟨hR.1, by show 8 + (e4.2.1 + 11) + (100 * d' + 200) ≤ R.locals; omega⟩
  have hV := vx_runV (l := l) (e := e) (below := below) (meth := meth) (locs := locs) (cells := cells) (slots := slots) hS hM ⟨callB_of (e4.1 - 1) hw hG rfl rfl rfl (hw _ w2) (hw _ (pm_W0_of hlk rfl)) ⟨w7.1, w7.2, hdesc⟩ hRR, hw _ v1, hw _ v2⟩ ⟨pm_Pc_blind, hrec, hpre⟩ rfl hn hl.1 hst2 hW8 hd1 ⟨by omega, by omega⟩
  intro T hT X9
  rcases hV T hT X9 with ⟨v, st₀, t, T', L, h0, X', hL, e1, e2, hF, st⟩ | ⟨q, st₀, t, T', L, Ex, ce, h0, X', hL, e1, e2, ⟨rfl, hsc, Hm, hrel, hz, hq, hF⟩, hce, hcv, hcl, st⟩
  · exact hF.elim
  · obtain ⟨s1, s2, s3⟩ := hA.2.1
    obtain ⟨t2, b1, b2⟩ := kk T'.heap Hm (locs ++ L) q ce LS hl hsc hrel (by rw [e1]; exact hz) (fun q g => by rw [e1]; exact hq q g) ⟨by rw [e1]; have g9 := hF.1; rw [h0] at g9; omega, fun q g1 g2 => by
      rw [e1, hF.2 q (by rw [h0]; exact Nat.lt_of_lt_of_le g1 s1) g2, h0]
      exact s2 q g1 g2, fun q hq => by
      rcases List.mem_append.mp hq with g | g
      · exact s3 q g
      · exact hL q g⟩ (by rw [e1]; exact hce) hcv hcl T' rfl X'
    exact ⟨t2, st.trans b1, b2⟩
end PmX
