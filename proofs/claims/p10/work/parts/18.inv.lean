/-! soundness: calls of methods that return -/
/-- a picture that has grown -/
def pm_le (h h1 : pm_H) : Prop := h.length ≤ h1.length ∧ pm_slt h ≤ pm_slt h1
theorem pm_le.rf (h : pm_H) : pm_le h h := ⟨Nat.le_refl _, Nat.le_refl _⟩
theorem pm_le.tr {a b c : pm_H} (h1 : pm_le a b) (h2 : pm_le b c) : pm_le a c := ⟨Nat.le_trans h1.1 h2.1, Nat.le_trans h1.2 h2.2⟩
theorem pm_pop_acc : ∀ (n : Nat) (st acc : List Value) (As rest : List Value), pm_pop n st acc = some (As, rest) → ∃ B : List Value, st = B ++ rest ∧ B.length = n ∧ As = B.reverse ++ acc
  | 0, st, acc, As, rest, h => by
    have h : some (acc, st) = some (As, rest) := h
    cases h
    exact ⟨[], rfl, rfl, rfl⟩
  | n + 1, [], acc, As, rest, h => by
    have h : (none : Option (List Value × List Value)) = some (As, rest) := h
    cases h
  | n + 1, v :: st, acc, As, rest, h => by
    have h : pm_pop n st (v :: acc) = some (As, rest) := h
    obtain ⟨B, h1, h2, h3⟩ := pm_pop_acc n st (v :: acc) As rest h
    exact ⟨v :: B, by rw [h1]; rfl, by simp [h2], by simp [h3]⟩
theorem pm_pop_some {n : Nat} {st As rest : List Value} (h : pm_pop n st [] = some (As, rest)) : st = As.reverse ++ rest ∧ As.length = n := by
  obtain ⟨B, h1, h2, h3⟩ := pm_pop_acc n st [] As rest h
  rw [List.append_nil] at h3
  subst h3
  exact ⟨by rw [List.reverse_reverse]; exact h1, by rw [List.length_reverse]; exact h2⟩
theorem pm_cl_nm {ci : Nat} {r : vw_C} (h : vwCl[ci]? = some r) : r.1 = pm_nm ci := by
  match ci, h with
  | 0, h => cases h; rfl
  | 1, h => cases h; rfl
  | 2, h => cases h; rfl
  | 3, h => cases h; rfl
  | 4, h => cases h; rfl
  | 5, h => cases h; rfl
  | 6, h => cases h; rfl
  | 7, h => cases h; rfl
  | 8, h => cases h; rfl
  | 9, h => cases h; rfl
  | 10, h => cases h; rfl
  | 11, h => cases h; rfl
  | 12, h => cases h; rfl
  | n + 13, h => cases h
theorem pm_ini_all : pm_kdt.all (fun c => c.all (fun q => !(Nat.beq q.2 3) || (match pm_ent q.1 with
  | some e => Nat.beq e.2.2.2.1 4
  | none => false))) = true := by decide +kernel
theorem pm_ini {m : Nat} {e : pm_M} (h : pm_get pm_kdt m = some 3) (he : pm_ent m = some e) : e.2.2.2.1 = 4 := by
  obtain ⟨c, hc, hm⟩ := pm_get_mem h
  have h1 := List.all_eq_true.mp (List.all_eq_true.mp pm_ini_all c hc) _ hm
  dsimp only at h1
  rw [he] at h1
  have h2 : (false || Nat.beq e.2.2.2.1 4) = true := h1
  rw [Bool.false_or] at h2
  exact Nat.eq_of_beq_eq_true h2
section PmI
variable {p : Program} {l : Launch} {e : Env} {R : Room} {s : State} {mid : MethodId} {args : Array Value} {below : List Frame} {meth : Method} {c : Code} {H : Heap} {locs : List Loc} {cells slots : Nat} {Q : State → Prop}
variable {D : va_G} {cA : Nat → ClassId} {A : Nat → Prop} {ad : Nat → Nat} {X : List (Nat × List Value)} {m : Nat} {E : pm_M} {y : pm_Hd} {hb sb x : Nat} {h : pm_H}
variable {d pc len : Nat} {ls : pm_L} {st : List Value} {ih : pm_I} {o : pm_H × (Option Value ⊕ Unit)}
theorem pm_NW_of {own ix : Nat} {y' : MethodName} (h : Cond.methodLinkNest (pm_nm own) ix y' "RiverWage" ∈ tables_1) : Cond.methodLinkNest (pm_nm own) ix y' "RiverWage" ∈ pm_NW := List.mem_filter.mpr ⟨h, rfl⟩
/-- a call that returns, by its kind: the machine runs it -/
theorem pm_run {how ix m' na ci d' : Nat} {As rest : List Value} {h1 : pm_H} {v : Option Value} {LS : Array Slot} {y' : pm_Hd} {e' : pm_M} (F : pm_Fr p s mid args meth c D cA A ad X m E y) (hA : pm_At s D cA A ad m hb sb x h H locs cells slots) (hl : pm_lr ad E.2.1 ls LS)
    (hg : pm_get (pm_lnk E.2.2.1) ix = some (how, m', na, ci)) (hhow : how = 1 ∨ how = 2 ∨ how = 3) (hd1 : (how = 1 → decode (pm_byt y.2.1) pc = .ok (.invokevirtual ix, 3)) ∧ (how = 2 → decode (pm_byt y.2.1) pc = .ok (.invokestatic ix, 3)) ∧ (how = 3 → decode (pm_byt y.2.1) pc = .ok (.invokespecial ix, 3)))
    (hy' : pm_get pm_hds m' = some y') (he' : pm_ent m' = some e') (hpop : pm_pop na st [] = some (As, rest)) (hcat : pm_cat8 rest = true)
    (hrcv : how = 1 → ∃ a r fs, As = .ref a :: r ∧ pm_cell h a = some (.inr (ci, fs))) (hrcv3 : how = 3 → ∃ a r, As = .ref a :: r)
    (hR : d' + 11 ≤ R.frames ∧ 100 * d' + 300 ≤ R.locals) (hle : pm_le h h1) (hf : cells + (h1.length - h.length) ≤ R.cells ∧ slots + (pm_slt h1 - pm_slt h) ≤ R.slots)
    (hM : pm_Mt l D cA A ad X y' e' d' h As h1 v) :
    va_Run p l e R s mid args below meth c H locs cells slots (h1.length - h.length) (pm_slt h1 - pm_slt h) (F0 mid pc LS (st.map (pm_rv ad))) (rest.map (pm_rv ad)) (pm_Qc D cA A ad h1 v (As.map (pm_rv ad)).toArray) A := by
  obtain ⟨y2, e2, q1, q2, q3, q4, q5, q6⟩ := pm_lkM hg (by omega)
  have ey : y2 = y' := Option.some.inj (q1.symm.trans hy')
  have ee : e2 = e' := Option.some.inj (q2.symm.trans he')
  subst ey; subst ee
  obtain ⟨y3, e3, ps, r1, r2, r3⟩ := pm_head q3
  have ey : y3 = y2 := Option.some.inj (r1.symm.trans hy')
  have ee : e3 = e2 := Option.some.inj (r2.symm.trans he')
  subst ey; subst ee
  obtain ⟨w1, w2, w3, w4, w5, w6, w7, w8, w9, w10⟩ := pm_hd_ok r3 hhow
  have hpre := pm_pre (As := As) F hA
  have F' := F
  obtain ⟨hx, hbc, hml, hown, hw, hCx, hnm, he, hyy, hAs⟩ := F
  have hS : CallFix p mid c (pm_byt y.2.1) E.2.1 s args pm_W0 (pm_nm E.2.2.1) := ⟨hx, hbc, hml, hown, hw⟩
  have hG : GoodIn pm_W0 (pm_wsm y3 e3) := pm_good fun w hw9 => by
    rcases List.mem_cons.mp hw9 with rfl | hw9
    · exact w1
    · exact hw9
  have hRR : (pm_rm d' (h1.length - h.length) (pm_slt h1 - pm_slt h)).frames + 1 ≤ R.frames ∧ 8 + (e3.2.1 + 11) + (pm_rm d' (h1.length - h.length) (pm_slt h1 - pm_slt h)).locals ≤ R.locals := ⟨hR.1, by show 8 + (e3.2.1 + 11) + (100 * d' + 200) ≤ R.locals; omega⟩
  obtain ⟨hst, hlen⟩ := pm_pop_some hpop
  have hst' : st.map (pm_rv ad) = (As.map (pm_rv ad)).reverse ++ rest.map (pm_rv ad) := by rw [hst, List.map_append, List.map_reverse]
  have hW8 : 2 * (F0 mid pc LS (st.map (pm_rv ad))).monitorRoom + ((rest.map (pm_rv ad)).map fun v => v.category).sum ≤ 8 := lv_room (pm_cat8_rv hcat)
  have hNw : ∀ {z : MethodName}, Cond.methodLinkNest (pm_nm E.2.2.1) ix z "RiverWage" ∈ tables_1 → va_Nw (.methodLinkNest (pm_nm E.2.2.1) ix z "RiverWage") s := fun hz => hCx.2.1 _ (pm_NW_of hz)
  rcases hhow with rfl | rfl | rfl
  · obtain ⟨a, r, fs, rfl, hc⟩ := hrcv rfl
    obtain ⟨v1, v2, v3⟩ := w8 rfl
    obtain ⟨k0, rfl, -, hk0⟩ := pm_cell_some hc
    obtain ⟨rr, hrr, -⟩ := hA.1.1 k0 _ (pm_ws_at hk0)
    have hnmc : rr.1 = y3.1.cls := by rw [pm_cl_nm hrr, w3, q5 (Or.inl rfl)]
    have hrec := va_recv hCx.1 hA.1.1 hrr (pm_ws_at hk0)
    rw [hnmc] at hrec
    have hn : (r.map (pm_rv ad)).length = e3.1 - 1 := by
      have : r.length + 1 = na := hlen
      rw [List.length_map]; omega
    have hdesc : (parseMethodDescriptor y3.1.desc).map (fun d => d.parameters.length) = some (e3.1 - 1) := by
      cases hpd : parseMethodDescriptor y3.1.desc with
      | none => rw [hpd] at v3; cases v3
      | some sg =>
        rw [hpd] at v3
        have : sg.parameters.length + 1 = e3.1 := Option.some.inj v3
        show some sg.parameters.length = some (e3.1 - 1)
        rw [← this]; rfl
    have hst2 : (F0 mid pc LS (st.map (pm_rv ad))).stack = (r.map (pm_rv ad)).reverse ++ .ref (ad (16 + k0)) :: rest.map (pm_rv ad) := by
      show st.map (pm_rv ad) = _
      rw [hst', List.map_cons, List.reverse_cons, List.append_assoc]
      rfl
    rcases q6 with q6 | q6
    · exact va_runV hS hM ⟨callB_of (e3.1 - 1) hw hG rfl rfl rfl (hw _ w2) (hw _ (pm_W0_of q6 rfl)) ⟨w7.1, w7.2, hdesc⟩ hRR, hw _ v1, hw _ v2⟩ ⟨pm_Pc_blind, hrec, hpre⟩ rfl hn hl.1 hst2 hW8 (hd1.1 rfl) hf
    · exact va_runVN hS hM ⟨va_cnB (e3.1 - 1) hw hG rfl rfl rfl (hNw q6) (hw _ w2) ⟨w7.1, w7.2, hdesc⟩ hRR, hw _ v1, hw _ v2⟩ ⟨pm_Pc_blind, hrec, hpre⟩ rfl hn hl.1 hst2 hW8 (hd1.1 rfl) hf
  · obtain ⟨v1, v2⟩ := w9 rfl
    have hn : (As.map (pm_rv ad)).length = e3.1 := by rw [List.length_map]; omega
    rcases q6 with q6 | q6
    · exact va_runS hS hM ⟨callB_of e3.1 hw hG rfl rfl rfl (hw _ w2) (hw _ (pm_W0_of q6 rfl)) ⟨w7.1, w7.2, v2⟩ hRR, hw _ v1⟩ ⟨pm_Pc_blind, hpre⟩ rfl hn hl.1 hst' hW8 (hd1.2.1 rfl) hf
    · exact va_runSN hS hM ⟨va_cnB e3.1 hw hG rfl rfl rfl (hNw q6) (hw _ w2) ⟨w7.1, w7.2, v2⟩ hRR, hw _ v1, trivial⟩ ⟨pm_Pc_blind, hpre⟩ rfl hn hl.1 hst' hW8 (hd1.2.1 rfl) hf
  · obtain ⟨a, r, rfl⟩ := hrcv3 rfl
    obtain ⟨v1, v2, v3⟩ := w10 rfl
    have hn : (r.map (pm_rv ad)).length = e3.1 - 1 := by
      have : r.length + 1 = na := hlen
      rw [List.length_map]; omega
    have hdesc : (parseMethodDescriptor y3.1.desc).map (fun d => d.parameters.length) = some (e3.1 - 1) := by
      cases hpd : parseMethodDescriptor y3.1.desc with
      | none => rw [hpd] at v3; cases v3
      | some sg =>
        rw [hpd] at v3
        have : sg.parameters.length + 1 = e3.1 := Option.some.inj v3
        show some sg.parameters.length = some (e3.1 - 1)
        rw [← this]; rfl
    have hst2 : (F0 mid pc LS (st.map (pm_rv ad))).stack = (r.map (pm_rv ad)).reverse ++ .ref (ad a) :: rest.map (pm_rv ad) := by
      show st.map (pm_rv ad) = _
      rw [hst', List.map_cons, List.reverse_cons, List.append_assoc]
      rfl
    have hret : y3.2.2 = none := by
      have h4 := pm_ini q3 he'
      rw [h4] at w4
      cases hz : y3.2.2 with
      | none => rfl
      | some ty => rw [hz] at w4; cases w4
    have hws : pm_wsm y3 e3 = Cond.code y3.1 (pm_byt y3.2.1) e3.2.1 none :: pm_W0 := by unfold pm_wsm; rw [hret]
    rcases q6 with q6 | q6
    · exact va_runI hS hM ⟨callB_of (e3.1 - 1) hw hG hws rfl rfl (hw _ w2) (hw _ (pm_W0_of q6 rfl)) ⟨w7.1, w7.2, hdesc⟩ hRR, v2, hw _ v1⟩ ⟨pm_Pc_blind, hpre⟩ rfl hn hl.1 hst2 hW8 (hd1.2.2 rfl) hf
    · exact va_runIN hS hM ⟨va_cnB (e3.1 - 1) hw hG hws rfl rfl (hNw q6) (hw _ w2) ⟨w7.1, w7.2, hdesc⟩ hRR, v2, hw _ v1⟩ ⟨pm_Pc_blind, hpre⟩ rfl hn hl.1 hst2 hW8 (hd1.2.2 rfl) hf
/-- a call in a frame of the class or the reference -/
theorem pm_jCall {how ix m' na ci : Nat} {As rest : List Value} (F : pm_Fr p s mid args meth c D cA A ad X m E y) (hA : pm_At s D cA A ad m hb sb x h H locs cells slots)
    (hg : pm_get (pm_lnk E.2.2.1) ix = some (how, m', na, ci)) (hhow : how = 1 ∨ how = 2 ∨ how = 3) (hd1 : (how = 1 → decode (pm_byt y.2.1) pc = .ok (.invokevirtual ix, 3)) ∧ (how = 2 → decode (pm_byt y.2.1) pc = .ok (.invokestatic ix, 3)) ∧ (how = 3 → decode (pm_byt y.2.1) pc = .ok (.invokespecial ix, 3)))
    (hpop : pm_pop na st [] = some (As, rest)) (hcat : pm_cat8 rest = true) (hrcv : how = 1 → ∃ a r fs, As = .ref a :: r ∧ pm_cell h a = some (.inr (ci, fs))) (hrcv3 : how = 3 → ∃ a r, As = .ref a :: r)
    (hR : d + 10 ≤ R.frames ∧ 100 * d + 200 ≤ R.locals) (hroom : ∀ (h1 : pm_H) (q : Nat) (ls : pm_L) (st : List Value), ih d h1 m q ls st = some o → h1.length + x ≤ R.cells + hb ∧ pm_slt h1 + 6 * x ≤ R.slots + sb)
    (hmono : ∀ d' h0 m0 q ls st h1 v, ih d' h0 m0 q ls st = some (h1, v) → pm_le h0 h1)
    (hM : ∀ d' m' y' e' As h1 v, pm_get pm_hds m' = some y' → pm_ent m' = some e' → pm_get pm_kdt m' = some how → As.length = e'.1 → (pm_lay As e'.2.1).length = e'.2.1 → ih d' h m' 0 (pm_lay As e'.2.1) [] = some (h1, .inl v) → pm_Mt l D cA A ad X y' e' d' h As h1 v)
    (hK : ∀ h1 H1 locs1 cells1 slots1 q ls st, pm_At s D cA A ad m hb sb x h1 H1 locs1 cells1 slots1 → ih d h1 m q ls st = some o → pm_J p l e R s mid args below meth c H1 locs1 cells1 slots1 Q ad E.2.1 q ls st)
    (hr : pm_call ih d h m pc ls m' As rest false = some o) : pm_J p l e R s mid args below meth c H locs cells slots Q ad E.2.1 pc ls st := by
  intro LS hl
  unfold pm_call at hr
  split at hr
  · cases hr
  · rename_i d'
    split at hr
    · cases hr
    · rename_i e' he'
      replace hr := pm_cond_true hr
      obtain ⟨hb1, hr⟩ := hr
      rw [pm_len_eq] at hb1
      have hb1 := Nat.eq_of_beq_eq_true hb1
      split at hr
      · rename_i h1 v hrun
        rw [pm_fn_eq] at hr
        obtain ⟨y2, e2, q1, q2, q3, q4, q5, q6⟩ := pm_lkM hg (by omega)
        have ee : e2 = e' := Option.some.inj (q2.symm.trans he')
        subst ee
        have hle := hmono _ _ _ _ _ _ _ _ hrun
        obtain ⟨-, hlen⟩ := pm_pop_some hpop
        have hm := hM d' m' y2 e2 As h1 v q1 he' q3 (by omega) hb1 hrun
        obtain ⟨rm1, rm2⟩ := hroom _ _ _ _ hr
        have a4 := hA.2.2.2.1
        have a5 := hA.2.2.2.2
        have l1 := hle.1
        have l2 := hle.2
        refine pm_after (pm_run F hA hl hg hhow hd1 q1 he' hpop hcat hrcv hrcv3 ⟨by omega, by omega⟩ hle ⟨by omega, by omega⟩ hm) hA hle.1 hle.2 fun H1 locs1 hA1 => ?_
        have hj := hK _ _ _ _ _ _ _ _ hA1 hr LS hl
        cases v with
        | none => exact hj
        | some v => exact hj
      · cases hr
      · cases hr
end PmI
