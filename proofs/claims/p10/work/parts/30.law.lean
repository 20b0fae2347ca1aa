/-! the law's own frame: by the steps of its run; a helper's call may change the addresses to come -/
theorem pm_hp309 : pm_get pm_kdt 309 ≠ some 14 := by decide +kernel
theorem pm_lr.sw {ad ad' : Nat → Nat} {nL n : Nat} {ls : pm_L} {LS : Array Slot} (hs : ∀ a, a < n → ad' a = ad a) (hc : pm_all (pm_scl n) ls = true) (h : pm_lr ad nL ls LS) : pm_lr ad' nL ls LS := by
  refine ⟨h.1, h.2.1, h.2.2.1, fun i v hv => ?_⟩
  rw [pm_all_eq, List.all_eq_true] at hc
  have hm := hc (some v) (List.mem_of_getElem? hv)
  have hv2 : pm_scv n v = true := by
    cases v with
    | ref a => exact hm
    | int x => rfl
    | long x => rfl
    | float x => rfl
    | double x => rfl
    | null => rfl
    | retAddr x => rfl
  rw [h.2.2.2 i v hv, pm_rv_sw hs hv2]
section PmW
variable {p : Program} {l : Launch} {e : Env} {R : Room} {s : State} {mid : MethodId} {args : Array Value} {below : List Frame} {meth : Method} {c : Code} {H : Heap} {locs : List Loc} {cells slots : Nat} {Q : State → Prop}
variable {D : va_G} {cA : Nat → ClassId} {A : Nat → Prop} {ad : Nat → Nat} {X : List (Nat × List Value)} {E : pm_M} {y : pm_Hd} {hb sb x : Nat} {h : pm_H}
variable {d pc n : Nat} {K : pm_I} {ls : pm_L} {st : List Value} {o : pm_H × (Option Value ⊕ Unit)}
theorem pm_Fr.sw {ad' : Nat → Nat} {m : Nat} (F : pm_Fr p s mid args meth c D cA A ad X m E y) (hs : ∀ a, a < 16 → ad' a = ad a) : pm_Fr p s mid args meth c D cA A ad' X m E y := by
  obtain ⟨h1, h2, h3, h4, h5, h6, h7⟩ := F
  exact ⟨h1, h2, h3, h4, h5, h6.sw hs, h7⟩
theorem pm_n309 {m' kind : Nat} (h : pm_get pm_kdt m' = some kind) (hk : kind = 1 ∨ kind = 2 ∨ kind = 3) : m' ≠ 309 := by
  rintro rfl
  have e : pm_get pm_kdt 309 = some 0 := by decide +kernel
  have : some kind = some 0 := h.symm.trans e
  cases this
  omega
/-- a call of a helper -/
theorem pm_jHelp {ix m' na ci : Nat} {As rest : List Value} (hlt : l.stackTraces = false) (hX : pm_X0 X) (F : pm_Fr p s mid args meth c D cA A ad X 309 E y) (hE13 : E.2.2.1 = 13) (hA : pm_At s D cA A ad 309 hb sb x h H locs cells slots)
    (hg : pm_get (pm_lnk E.2.2.1) ix = some (14, m', na, ci)) (hd2 : decode (pm_byt y.2.1) pc = .ok (.invokestatic ix, 3)) (hpop : pm_pop na st [] = some (As, rest)) (hcat : pm_cat8 rest = true)
    (hR : d + 10 ≤ R.frames ∧ 100 * d + 200 ≤ R.locals) (hscl : pm_all (pm_scl (16 + h.length)) ls = true) (hscv : pm_all (pm_scv (16 + h.length)) rest = true)
    (hroom : ∀ (h1 : pm_H) (q : Nat) (ls : pm_L) (st : List Value), K d h1 309 q ls st = some o → h1.length + (x + 1) ≤ R.cells + hb ∧ pm_slt h1 + 6 * (x + 1) ≤ R.slots + sb)
    (hK : ∀ ad' h1 H1 locs1 cells1 slots1 q ls st, pm_Fr p s mid args meth c D cA A ad' X 309 E y → pm_At s D cA A ad' 309 hb sb (x + 1) h1 H1 locs1 cells1 slots1 → K d h1 309 q ls st = some o → pm_J p l e R s mid args below meth c H1 locs1 cells1 slots1 Q ad' E.2.1 q ls st)
    (hr : pm_call (pm_ik X n K) d h 309 pc ls m' As rest false = some o) : pm_J p l e R s mid args below meth c H locs cells slots Q ad E.2.1 pc ls st := by
  intro LS hl
  unfold pm_call at hr
  split at hr
  · cases hr
  · rename_i d'
    split at hr
    · cases hr
    · rename_i e' he'
      replace hr := pm_cond_true hr
      obtain ⟨hb1, hr⟩ := hr
      rw [pm_len_eq] at hb1
      have hb1 := Nat.eq_of_beq_eq_true hb1
      split at hr
      · rename_i h1 v hrun
        rw [pm_fn_eq] at hr
        obtain ⟨y2, e2, q1, q2, q3, q4, q5, q6⟩ := pm_lkM hg (by omega)
        have ee : e2 = e' := Option.some.inj (q2.symm.trans he')
        subst ee
        have hm309 : m' ≠ 309 := by
          rintro rfl
          exact pm_hp309 q3
        rw [pm_ik_ne hm309] at hrun
        replace hr : K (d' + 1) h1 309 (pc + 3) ls (v.toList ++ rest) = some o := hr
        have hle := pm_mono X n _ _ _ _ _ _ _ hrun
        have l1 : h.length ≤ h1.length := hle.1
        have l2 : pm_slt h ≤ pm_slt h1 := hle.2
        obtain ⟨hst, hlen⟩ := pm_pop_some hpop
        obtain ⟨hp, w1, w2, w3, w4, w5, hM⟩ := pm_MtH (D := D) (cA := cA) (A := A) (ad := ad) hlt hX q3 hm309 q2 q1 hb1 hrun
        obtain ⟨rm1, rm2⟩ := hroom _ _ _ _ hr
        have a4 := hA.2.2.2.1
        have a5 := hA.2.2.2.2
        have hpre := pm_pre (As := As) F hA
        have F' := F
        obtain ⟨hx, hbc, hml, hown, hw, hCx, hnm, he, hyy, hAs⟩ := F
        have hS : CallFix p mid c (pm_byt y.2.1) E.2.1 s args pm_W0 (pm_nm E.2.2.1) := ⟨hx, hbc, hml, hown, hw⟩
        have hlk : Cond.methodLink (pm_nm E.2.2.1) ix y2.1 ∈ tables_1 := by
          rcases q6 with q6 | q6
          · exact q6
          · exfalso
            have h9 := List.all_eq_true.mp pm_no_nest _ q6
            rw [hE13] at h9
            cases h9
        have hini : Cond.initialized y2.1.cls ∈ pm_W0 := by
          rw [w3]
          exact List.mem_filter.mpr ⟨pm_hpl.2.2, rfl⟩
        have hG : GoodIn pm_W0 (va_wsS (pm_nm E.2.2.1) ix y2.1 (pm_wsh y2 e2 hp)) := pm_good fun w hw9 => by
          unfold va_wsS at hw9
          rcases List.mem_append.mp hw9 with hw9 | hw9
          · rcases List.mem_cons.mp hw9 with rfl | hw9
            · exact pm_W0_of hlk rfl
            · rcases List.mem_cons.mp hw9 with rfl | hw9
              · exact pm_W0_of w2 rfl
              · rcases List.mem_cons.mp hw9 with rfl | hw9
                · exact hini
                · cases hw9
          · rcases List.mem_cons.mp hw9 with rfl | hw9
            · exact w1
            · exact hw9
        have hst' : st.map (pm_rv ad) = (As.map (pm_rv ad)).reverse ++ rest.map (pm_rv ad) := by rw [hst, List.map_append, List.map_reverse]
        have hW8 : 2 * (F0 mid pc LS (st.map (pm_rv ad))).monitorRoom + ((rest.map (pm_rv ad)).map fun v => v.category).sum ≤ 8 := lv_room (pm_cat8_rv hcat)
        have hn : (As.map (pm_rv ad)).length = e2.1 := by rw [List.length_map]; omega
        have hV := vx_runSX (l := l) (e := e) (below := below) (meth := meth) (locs := locs) (cells := cells) (slots := slots) hS hM (vx_cwSW e2.1 hw hG rfl rfl rfl ⟨by rw [w3]; decide, by rw [w3]; decide, w5⟩ ⟨by show d' + 10 + 1 ≤ R.frames; omega, by show 8 + (e2.2.1 + 11) + (100 * d' + 200) ≤ R.locals; omega⟩) ⟨pm_Pc_blind, hpre⟩ rfl hn hl.1 hst' hW8 hd2 ⟨by omega, by omega⟩
        intro T hT X9
        rcases hV T hT X9 with ⟨v', st₀, t, T', L, h0, X', hL, e1, e2', ⟨⟨r, hv1, hv2⟩, ⟨ad', had, hrel⟩, hF⟩, st9⟩ | ⟨q, st₀, t, T', L, Ex, ce, h0, X', hL, e1, e2', hF, hce, hcv, hcl, st9⟩
        · have hv' : v' = some (.int r) := by cases hv2; rfl
          subst hv'
          subst hv1
          obtain ⟨s1, s2, s3⟩ := hA.2.1
          have hgo := hK ad' h1 T'.heap (locs ++ L) (cells + (h1.length - h.length + 1)) (slots + (pm_slt h1 - pm_slt h + 6)) _ _ _ (F'.sw fun a ha => had a (by omega)) ⟨by rw [e1]; exact hrel, ⟨by rw [e1]; have g9 := hF.1; rw [h0] at g9; omega, fun q g1 g2 => by
            rw [e1, hF.2 q (by rw [h0]; exact Nat.lt_of_lt_of_le g1 s1) g2, h0]
            exact s2 q g1 g2, fun q hq => by
            rcases List.mem_append.mp hq with g | g
            · exact s3 q g
            · exact hL q g⟩, Or.inl rfl, by omega, by omega⟩ hr LS (hl.sw (n := 16 + h.length) (fun a ha => had a (by omega)) hscl)
          have er : rest.map (pm_rv ad') = rest.map (pm_rv ad) := pm_rvs_sw (n := 16 + h.length) (fun a ha => had a (by omega)) hscv
          have eq9 : ((some (Value.int r)).toList ++ rest).map (pm_rv ad') = (some (Value.int r)).toList ++ rest.map (pm_rv ad) := by
            rw [List.map_append, er]; rfl
          rw [eq9] at hgo
          obtain ⟨t2, b1, b2⟩ := hgo T' rfl X'
          exact ⟨t2, st9 t2 b1, b2⟩
        · exact hF.elim
      · cases hr
      · cases hr
end PmW
set_option maxHeartbeats 2000000 in
theorem pm_FW {l : Launch} (hlt : l.stackTraces = false) {X : List (Nat × List Value)} (hX : pm_X0 X) {D : va_G} {cA : Nat → ClassId} {A : Nat → Prop} {p : Program} {e : Env} {R : Room} {s : State} {mid : MethodId} {args : Array Value} {below : List Frame} {meth : Method} {c : Code} {Q : State → Prop} {E : pm_M} {y : pm_Hd} {hb sb d N : Nat} {h9 : pm_H} {v9 : Option Value}
    (hR : d + 10 ≤ R.frames ∧ 100 * d + 200 ≤ R.locals) (hown : E.2.2.1 = 13)
    (hend : ∀ ad x1 H1 locs1 cells1 slots1 pc1 ls1 st1, pm_At s D cA A ad 309 hb sb x1 h9 H1 locs1 cells1 slots1 → h9.length + x1 ≤ R.cells + hb → pm_slt h9 + 6 * x1 ≤ R.slots + sb → pm_End y E (.inl v9) pc1 st1 → pm_J p l e R s mid args below meth c H1 locs1 cells1 slots1 Q ad E.2.1 pc1 ls1 st1) :
    ∀ (n : Nat) {ad : Nat → Nat} {H : Heap} {locs : List Loc} {cells slots x : Nat} {h : pm_H} {pc : Nat} {ls : pm_L} {st : List Value},
    pm_Fr p s mid args meth c D cA A ad X 309 E y → pm_At s D cA A ad 309 hb sb x h H locs cells slots → (h9.length + (x + n) ≤ R.cells + hb ∧ pm_slt h9 + 6 * (x + n) ≤ R.slots + sb) →
    pm_xk X N n d h 309 pc ls st = some (h9, .inl v9) → pm_J p l e R s mid args below meth c H locs cells slots Q ad E.2.1 pc ls st
  | 0, _, _, _, _, _, _, _, _, _, _, _, _, _, hr => nomatch (show (none : pm_R) = some (h9, .inl v9) from hr)
  | n + 1, ad, H, locs, cells, slots, x, h, pc, ls, st, F, hA, hfin, hr => by
    have he := F.2.2.2.2.2.2.2.1
    have hy := F.2.2.2.2.2.2.2.2.1
    have hr : pm_F X (pm_ik X N (pm_xk X N n)) d h 309 pc ls st = some (h9, .inl v9) := hr
    unfold pm_F at hr
    rw [he] at hr
    dsimp only at hr
    split at hr
    · cases hr
    · rename_i q hq
      obtain ⟨i, len⟩ := q
      obtain ⟨k1, k2, k3⟩ := pm_code he hy hq
      obtain ⟨f1, f2⟩ := hfin
      have hroom : ∀ (h1 : pm_H) (q : Nat) (ls : pm_L) (st : List Value), pm_ik X N (pm_xk X N n) d h1 309 q ls st = some (h9, .inl v9) → h1.length + x ≤ R.cells + hb ∧ pm_slt h1 + 6 * x ≤ R.slots + sb := by
        intro h1 q ls st hz
        have hm := pm_up_ik (X := X) (n := N) (pm_up_xk X N n) _ _ _ _ _ _ _ hz
        have m1 : h1.length ≤ h9.length := hm.1
        have m2 : pm_slt h1 ≤ pm_slt h9 := hm.2
        exact ⟨by omega, by omega⟩
      have hroom1 : ∀ (h1 : pm_H) (q : Nat) (ls : pm_L) (st : List Value), pm_ik X N (pm_xk X N n) d h1 309 q ls st = some (h9, .inl v9) → h1.length + (x + 1) ≤ R.cells + hb ∧ pm_slt h1 + 6 * (x + 1) ≤ R.slots + sb := by
        intro h1 q ls st hz
        have hm := pm_up_ik (X := X) (n := N) (pm_up_xk X N n) _ _ _ _ _ _ _ hz
        have m1 : h1.length ≤ h9.length := hm.1
        have m2 : pm_slt h1 ≤ pm_slt h9 := hm.2
        exact ⟨by omega, by omega⟩
      have hK : ∀ h1 H1 locs1 cells1 slots1 q ls st, pm_At s D cA A ad 309 hb sb x h1 H1 locs1 cells1 slots1 → pm_ik X N (pm_xk X N n) d h1 309 q ls st = some (h9, .inl v9) → pm_J p l e R s mid args below meth c H1 locs1 cells1 slots1 Q ad E.2.1 q ls st :=
        fun h1 H1 locs1 cells1 slots1 q ls st hA1 hz => pm_FW hlt hX hR hown hend n F hA1 ⟨by omega, by omega⟩ hz
      have hF : pm_Fill l X := pm_fill hX
      refine pm_one F hX hA k1 k2 k3 hroom hK (fun e1 e2 e3 => ?_) (fun how ix hi hlen hg => ?_) hr
      · have e1 : h9 = h := e1
        subst e1
        exact hend ad x H locs cells slots pc ls st hA (by omega) (by omega) e2
      subst hlen
      unfold pm_gInv at hg
      split at hg
      · rename_i kind m' na ci hl
        have hd2 : how = 2 → decode (pm_byt y.2.1) pc = .ok (.invokestatic ix, 3) := by
          rintro rfl
          rcases hi with ⟨q, -⟩ | ⟨-, rfl⟩ | ⟨q, -⟩
          · cases q
          · exact k1
          · cases q
        have hd3 : how = 3 → decode (pm_byt y.2.1) pc = .ok (.invokespecial ix, 3) := by
          rintro rfl
          rcases hi with ⟨q, -⟩ | ⟨q, -⟩ | ⟨-, rfl⟩
          · cases q
          · cases q
          · exact k1
        have hd1 : how = 1 → decode (pm_byt y.2.1) pc = .ok (.invokevirtual ix, 3) := by
          rintro rfl
          rcases hi with ⟨-, rfl⟩ | ⟨q, -⟩ | ⟨q, -⟩
          · exact k1
          · cases q
          · cases q
        have hhow : how = 1 ∨ how = 2 ∨ how = 3 := by
          rcases hi with ⟨q, -⟩ | ⟨q, -⟩ | ⟨q, -⟩
          · exact Or.inl q
          · exact Or.inr (Or.inl q)
          · exact Or.inr (Or.inr q)
        cases hk : Nat.beq kind 12 with
        | true =>
          rw [hk, cond_true] at hg
          replace hg := pm_cond_true hg
          obtain ⟨hb1, hg⟩ := hg
          have hk := Nat.eq_of_beq_eq_true hk
          subst hk
          have hb1 := Nat.eq_of_beq_eq_true hb1
          have hf0 : m' = 0 := by
            cases hz : Nat.beq m' 0 with
            | true => exact Nat.eq_of_beq_eq_true hz
            | false =>
              exfalso
              rw [hz, cond_false] at hb1
              subst hb1
              have hi2 : i = .invokestatic ix := by
                rcases hi with ⟨q, -⟩ | ⟨-, q⟩ | ⟨q, -⟩
                · cases q
                · exact q
                · cases q
              subst hi2
              have k3 : (match pm_get (pm_lnk E.2.2.1) ix with
                | some K => !(Nat.beq K.1 12 && Nat.beq 309 309)
                | none => true) = true := k3
              rw [hl] at k3
              cases k3
          refine pm_jPrim F hA hl hb1 ⟨hd2, hd3⟩ (Or.inr hf0) hR hroom (fun z k v r q g1 g2 g3 g4 g5 g6 g7 => ?_) hK hg
          subst g1
          cases hf0
        | false =>
          rw [hk, cond_false] at hg
          rcases Bool.eq_false_or_eq_true (Nat.beq kind 15) with hk15 | hk15
          · rw [hk15, cond_true] at hg
            replace hg := pm_cond_true hg
            obtain ⟨hb1, hg⟩ := hg
            have hk15 := Nat.eq_of_beq_eq_true hk15
            subst hk15
            exact pm_jStr F hA hl (hd1 (Nat.eq_of_beq_eq_true hb1)) hR hroom hK hg
          rw [hk15, cond_false] at hg
          split at hg
          · rename_i As rest hpop
            replace hg := pm_cond_true hg
            obtain ⟨hc8, hg⟩ := hg
            cases hkh : Nat.beq kind how with
            | true =>
              rw [hkh, cond_true] at hg
              have hkh := Nat.eq_of_beq_eq_true hkh
              subst hkh
              have hM : ∀ d' m' y' e' As h1 v, pm_get pm_hds m' = some y' → pm_ent m' = some e' → pm_get pm_kdt m' = some kind → As.length = e'.1 → (pm_lay As e'.2.1).length = e'.2.1 → pm_ik X N (pm_xk X N n) d' h m' 0 (pm_lay As e'.2.1) [] = some (h1, .inl v) → pm_Mt l D cA A ad X y' e' d' h As h1 v := by
                intro d' m' y' e' As h1 v g1 g2 g3 g4 g5 g6
                rw [pm_ik_ne (pm_n309 g3 hhow)] at g6
                obtain ⟨y3, e3, ps, r1, r2, r3⟩ := pm_head g3
                have ey : y3 = y' := Option.some.inj (r1.symm.trans g1)
                have ee : e3 = e' := Option.some.inj (r2.symm.trans g2)
                subst ey; subst ee
                obtain ⟨w1, w2, w3, w4, w5, w6, -⟩ := pm_hd_ok r3 hhow
                have hmn := pm_mono X N _ _ _ _ _ _ _ g6
                refine pm_MtOf (m := m') (rm := pm_rm d' (h1.length - h.length) (pm_slt h1 - pm_slt h)) rfl rfl rfl rfl g2 g1 w6 w3 w4 g5 (fun {p e s mid args below meth c Q} F9 hA9 hend9 => ?_)
                exact pm_FL hX N (Or.inr ⟨hF, Nat.le_refl _, Nat.le_refl _⟩) (pm_own g3 g2 hhow) F9 hA9 ⟨by have := hmn.1; show h1.length ≤ (h1.length - h.length) + h.length; omega, by have := hmn.2; show pm_slt h1 ≤ (pm_slt h1 - pm_slt h) + pm_slt h; omega⟩ (fun H1 locs1 cells1 slots1 pc1 ls1 st1 q1 q2 _ => hend9 H1 locs1 cells1 slots1 pc1 ls1 st1 q1 q2) g6
              have hmono : ∀ d' h0 m0 q ls st h1 v, pm_ik X N (pm_xk X N n) d' h0 m0 q ls st = some (h1, v) → pm_le h0 h1 := fun d' h0 m0 q ls st h1 v hz => pm_up_ik (X := X) (n := N) (pm_up_xk X N n) _ _ _ _ _ _ _ hz
              rcases hhow with rfl | rfl | rfl
              · obtain ⟨a, r, fs, rfl, hcell, hg⟩ := pm_gC1 hg
                rw [show (Nat.beq E.2.2.1 13 && !Nat.beq 309 309) = false by rw [show Nat.beq 309 309 = true from rfl]; cases Nat.beq E.2.2.1 13 <;> rfl] at hg
                exact pm_jCall F hA hl (Or.inl rfl) ⟨hd1, hd2, hd3⟩ hpop hc8 (fun _ => ⟨a, r, fs, rfl, hcell⟩) (fun q => by cases q) hR hroom hmono hM hK hg
              · have hg : pm_call (pm_ik X N (pm_xk X N n)) d h 309 pc ls m' As rest false = some (h9, .inl v9) := hg
                exact pm_jCall F hA hl (Or.inr (Or.inl rfl)) ⟨hd1, hd2, hd3⟩ hpop hc8 (fun q => by cases q) (fun q => by cases q) hR hroom hmono hM hK hg
              · obtain ⟨a, r, rfl, hg⟩ := pm_gC3 hg
                exact pm_jCall F hA hl (Or.inr (Or.inr rfl)) ⟨hd1, hd2, hd3⟩ hpop hc8 (fun q => by cases q) (fun _ => ⟨a, r, rfl⟩) hR hroom hmono hM hK hg
            | false =>
              rw [hkh, cond_false] at hg
              replace hg := pm_cond_true hg
              obtain ⟨hb2, hg⟩ := hg
              rw [Bool.and_eq_true, Bool.and_eq_true] at hb2
              replace hg := pm_cond_true hg
              obtain ⟨hb3, hg⟩ := hg
              rw [Bool.and_eq_true, pm_len_eq] at hb3
              have hk14 := Nat.eq_of_beq_eq_true hb2.1
              subst hk14
              have hh2 := Nat.eq_of_beq_eq_true hb2.2.1
              exact pm_jHelp (n := N) (K := pm_xk X N n) hlt hX F hown hA hl (hd2 hh2) hpop hc8 hR hb3.1 hb3.2 hroom1 (fun ad' h1 H1 locs1 cells1 slots1 q ls st F1 hA1 hz => pm_FW hlt hX hR hown hend n F1 hA1 ⟨by omega, by omega⟩ hz) hg
          · cases hg
      · cases hg
