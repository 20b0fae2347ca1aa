section
/-! the law's own frame: by the steps of its run; a helper's call may change the addresses to come -/
theorem pm_hp309 : pm_get pm_kdt 309 ≠ some 14 := by decide +kernel
theorem pm_lr.sw {ad ad' : Nat → Nat} {nL n : Nat} {ls : pm_L} {LS : Array Slot} (hs : ∀ a, a < n → ad' a = ad a) (hc : pm_all (pm_scl n) ls = true) (h : pm_lr ad nL ls LS) : pm_lr ad' nL ls LS := by
  refine ⟨h.1, h.2.1, h.2.2.1, fun i v hv => ?_⟩
  rw [pm_all_eq, List.all_eq_true] at hc
  have hm := hc (some v) (List.mem_of_getElem? hv)
  have hv2 : pm_scv n v = true := by
    cases v with
    | ref a => exact hm
    | int x => rfl
    | long x => rfl
    | float x => rfl
    | double x => rfl
    | null => rfl
    | retAddr x => rfl
  rw [h.2.2.2 i v hv, pm_rv_sw hs hv2]
section PmW
variable {p : Program} {l : Launch} {e : Env} {R : Room} {s : State} {mid : MethodId} {args : Array Value} {below : List Frame} {meth : Method} {c : Code} {H : Heap} {locs : List Loc} {cells slots : Nat} {Q : State → Prop}
variable {D : va_G} {cA : Nat → ClassId} {A : Nat → Prop} {ad : Nat → Nat} {X : List (Nat × List Value)} {E : pm_M} {y : pm_Hd} {hb sb x : Nat} {h : pm_H}
variable {d pc n : Nat} {K : pm_I} {ls : pm_L} {st : List Value} {o : pm_H × (Option Value ⊕ Unit)}
theorem pm_Fr.sw {ad' : Nat → Nat} {m : Nat} (F : pm_Fr p s mid args meth c D cA A ad X m E y) (hs : ∀ a, a < 16 → ad' a = ad a) : pm_Fr p s mid args meth c D cA A ad' X m E y := by
  obtain ⟨h1, h2, h3, h4, h5, h6, h7⟩ := F
  exact ⟨h1, h2, h3, h4, h5, h6.sw hs, h7⟩
theorem pm_n309 {m' kind : Nat} (h : pm_get pm_kdt m' = some kind) (hk : kind = 1 ∨ kind = 2 ∨ kind = 3) : m' ≠ 309 := by
  rintro rfl
  have e : pm_get pm_kdt 309 = some 0 := by decide +kernel
  have : some kind = some 0 := h.symm.trans e
  cases this
  omega
/-- a call of a helper -/
theorem pm_jHelp {ix m' na ci : Nat} {As rest : List Value} (hlt : l.stackTraces = false) (hX : pm_X0 X) (F : pm_Fr p s mid args meth c D cA A ad X 309 E y) (hE13 : E.2.2.1 = 13) (hA : pm_At s D cA A ad 309 hb sb x h H locs cells slots)
    (hg : pm_get (pm_lnk E.2.2.1) ix = some (14, m', na, ci)) (hd2 : decode (pm_byt y.2.1) pc = .ok (.invokestatic ix, 3)) (hpop : pm_pop na st [] = some (As, rest)) (hcat : pm_cat8 rest = true)
    (hR : d + 10 ≤ R.frames ∧ 100 * d + 200 ≤ R.locals) (hscl : pm_all (pm_scl (16 + h.length)) ls = true) (hscv : pm_all (pm_scv (16 + h.length)) rest = true)
    (hroom : ∀ (h1 : pm_H) (q : Nat) (ls : pm_L) (st : List Value), K d h1 309 q ls st = some o → h1.length + (x + 1) ≤ R.cells + hb ∧ pm_slt h1 + 6 * (x + 1) ≤ R.slots + sb)
    (hK : ∀ ad' h1 H1 locs1 cells1 slots1 q ls st, pm_Fr p s mid args meth c D cA A ad' X 309 E y → pm_At s D cA A ad' 309 hb sb (x + 1) h1 H1 locs1 cells1 slots1 → K d h1 309 q ls st = some o → pm_J p l e R s mid args below meth c H1 locs1 cells1 slots1 Q ad' E.2.1 q ls st)
    (hr : pm_call (pm_ik X n K) d h 309 pc ls m' As rest false = some o) : pm_J p l e R s mid args below meth c H locs cells slots Q ad E.2.1 pc ls st := by
  intro LS hl
  unfold pm_call at hr
  split at hr
  · cases hr
  · rename_i d'
    split at hr
    · cases hr
    · rename_i e' he'
      replace hr := pm_cond_true hr
      obtain ⟨hb1, hr⟩ := hr
      rw [pm_len_eq] at hb1
      have hb1 := Nat.eq_of_beq_eq_true hb1
      split at hr
      · rename_i h1 v hrun
        rw [pm_fn_eq] at hr
        obtain ⟨y2, e2, q1, q2, q3, q4, q5, q6⟩ := pm_lkM hg (by omega)
        have ee : e2 = e' := Option.some.inj (q2.symm.trans he')
        subst ee
        have hm309 : m' ≠ 309 := by
          rintro rfl
          exact pm_hp309 q3
        rw [pm_ik_ne hm309] at hrun
        replace hr : K (d' + 1) h1 309 (pc + 3) ls (v.toList ++ rest) = some o := hr
        have hle := pm_mono X n _ _ _ _ _ _ _ hrun
        have l1 : h.length ≤ h1.length := hle.1
        have l2 : pm_slt h ≤ pm_slt h1 := hle.2
        obtain ⟨hst, hlen⟩ := pm_pop_some hpop
        obtain ⟨hp, w1, w2, w3, w4, w5, hM⟩ := pm_MtH (D := D) (cA := cA) (A := A) (ad := ad) hlt hX q3 hm309 q2 q1 hb1 hrun
        obtain ⟨rm1, rm2⟩ := hroom _ _ _ _ hr
        have a4 := hA.2.2.2.1
        have a5 := hA.2.2.2.2
        have hpre := pm_pre (As := As) F hA
        have F' := F
        obtain ⟨hx, hbc, hml, hown, hw, hCx, hnm, he, hyy, hAs⟩ := F
        have hS : CallFix p mid c (pm_byt y.2.1) E.2.1 s args pm_W0 (pm_nm E.2.2.1) := ⟨hx, hbc, hml, hown, hw⟩
        have hlk : Cond.methodLink (pm_nm E.2.2.1) ix y2.1 ∈ tables_1 := by
          rcases q6 with q6 | q6
          · exact q6
          · exfalso
            have h9 := List.all_eq_true.mp pm_no_nest _ q6
            rw [hE13] at h9
            cases h9
        have hini : Cond.initialized y2.1.cls ∈ pm_W0 := by
          rw [w3]
          exact List.mem_filter.mpr ⟨pm_hpl.2.2, rfl⟩
        have hG : GoodIn pm_W0 (va_wsS (pm_nm E.2.2.1) ix y2.1 (pm_wsh y2 e2 hp)) := pm_good fun w hw9 => by
          unfold va_wsS at hw9
          rcases List.mem_append.mp hw9 with hw9 | hw9
          · rcases List.mem_cons.mp hw9 with rfl | hw9
            · exact pm_W0_of hlk rfl
            · rcases List.mem_cons.mp hw9 with rfl | hw9
              · exact pm_W0_of w2 rfl
              · rcases List.mem_cons.mp hw9 with rfl | hw9
                · exact hini
                · cases hw9
          · rcases List.mem_cons.mp hw9 with rfl | hw9
            · exact w1
            · exact hw9
        have hst' : st.map (pm_rv ad) = (As.map (pm_rv ad)).reverse ++ rest.map (pm_rv ad) := by rw [hst, List.map_append, List.map_reverse]
        have hW8 : 2 * (F0 mid pc LS (st.map (pm_rv ad))).monitorRoom + ((rest.map (pm_rv ad)).map fun v => v.category).sum ≤ 8 := lv_room (pm_cat8_rv hcat)
        have hn : (As.map (pm_rv ad)).length = e2.1 := by rw [List.length_map]; omega
        have hV := vx_runSX (l := l) (e := e) (below := below) (meth := meth) (locs := locs) (cells := cells) (slots := slots) hS hM (vx_cwSW e2.1 hw hG rfl rfl rfl ⟨by rw [w3]; decide, by rw [w3]; decide, w5⟩ ⟨by show d' + 10 + 1 ≤ R.frames; omega, by show 8 + (e2.2.1 + 11) + (100 * d' + 200) ≤ R.locals; omega⟩) ⟨pm_Pc_blind, hpre⟩ rfl hn hl.1 hst' hW8 hd2 ⟨by omega, by omega⟩
        intro T hT X9
        rcases hV T hT X9 with ⟨v', st₀, t, T', L, h0, X', hL, e1, e2', ⟨⟨r, hv1, hv2⟩, ⟨ad', had, hrel⟩, hF⟩, st9⟩ | ⟨q, st₀, t, T', L, Ex, ce, h0, X', hL, e1, e2', hF, hce, hcv, hcl, st9⟩
        · have hv' : v' = some (.int r) := by cases hv2; rfl
          subst hv'
          subst hv1
          obtain ⟨s1, s2, s3⟩ := hA.2.1
          have hgo := hK ad' h1 T'.heap (locs ++ L) (cells + (h1.length - h.length + 1)) (slots + (pm_slt h1 - pm_slt h + 6)) _ _ _ (F'.sw fun a ha => had a (by omega)) ⟨by rw [e1]; exact hrel, ⟨by rw [e1]; have g9 := hF.1; rw [h0] at g9; omega, fun q g1 g2 => by
            rw [e1, hF.2 q (by rw [h0]; exact Nat.lt_of_lt_of_le g1 s1) g2, h0]
            exact s2 q g1 g2, fun q hq => by
            rcases List.mem_append.mp hq with g | g
            · exact s3 q g
            · exact hL q g⟩, Or.inl rfl, by omega, by omega⟩ hr LS (hl.sw (n := 16 + h.length) (fun a ha => had a (by omega)) hscl)
          have er : rest.map (pm_rv ad') = rest.map (pm_rv ad) := pm_rvs_sw (n := 16 + h.length) (fun a ha => had a (by omega)) hscv
          have eq9 : ((some (Value.int r)).toList ++ rest).map (pm_rv ad') = (some (Value.int r)).toList ++ rest.map (pm_rv ad) := by
            rw [List.map_append, er]; rfl
          rw [eq9] at hgo
          obtain ⟨t2, b1, b2⟩ := hgo T' rfl X'
          exact ⟨t2, st9 t2 b1, b2⟩
        · exact hF.elim
      · cases hr
      · cases hr
end PmW
set_option maxHeartbeats 2000000 in
theorem pm_FW {l : Launch} (hlt : l.stackTraces = false) {X : List (Nat × List Value)} (hX : pm_X0 X) {D : va_G} {cA : Nat → ClassId} {A : Nat → Prop} {p : Program} {e : Env} {R : Room} {s : State} {mid : MethodId} {args : Array Value} {below : List Frame} {meth : Method} {c : Code} {Q : State → Prop} {E : pm_M} {y : pm_Hd} {hb sb d N : Nat} {h9 : pm_H} {v9 : Option Value}
    (hR : d + 10 ≤ R.frames ∧ 100 * d + 200 ≤ R.locals) (hown : E.2.2.1 = 13)
    (hend : ∀ ad x1 H1 locs1 cells1 slots1 pc1 ls1 st1, pm_At s D cA A ad 309 hb sb x1 h9 H1 locs1 cells1 slots1 → h9.length + x1 ≤ R.cells + hb → pm_slt h9 + 6 * x1 ≤ R.slots + sb → pm_End y E (.inl v9) pc1 st1 → pm_J p l e R s mid args below meth c H1 locs1 cells1 slots1 Q ad E.2.1 pc1 ls1 st1) :
    ∀ (n : Nat) {ad : Nat → Nat} {H : Heap} {locs : List Loc} {cells slots x : Nat} {h : pm_H} {pc : Nat} {ls : pm_L} {st : List Value},
    pm_Fr p s mid args meth c D cA A ad X 309 E y → pm_At s D cA A ad 309 hb sb x h H locs cells slots → (h9.length + (x + n) ≤ R.cells + hb ∧ pm_slt h9 + 6 * (x + n) ≤ R.slots + sb) →
    pm_xk X N n d h 309 pc ls st = some (h9, .inl v9) → pm_J p l e R s mid args below meth c H locs cells slots Q ad E.2.1 pc ls st
  | 0, _, _, _, _, _, _, _, _, _, _, _, _, _, hr => nomatch (show (none : pm_R) = some (h9, .inl v9) from hr)
  | n + 1, ad, H, locs, cells, slots, x, h, pc, ls, st, F, hA, hfin, hr => by
    have he := F.2.2.2.2.2.2.2.1
    have hy := F.2.2.2.2.2.2.2.2.1
    have hr : pm_F X (pm_ik X N (pm_xk X N n)) d h 309 pc ls st = some (h9, .inl v9) := hr
    unfold pm_F at hr
    rw [he] at hr
    dsimp only at hr
    split at hr
    · cases hr
    · rename_i q hq
      obtain ⟨i, len⟩ := q
      obtain ⟨k1, k2, k3⟩ := pm_code he hy hq
      obtain ⟨f1, f2⟩ := hfin
      have hroom : ∀ (h1 : pm_H) (q : Nat) (ls : pm_L) (st : List Value), pm_ik X N (pm_xk X N n) d h1 309 q ls st = some (h9, .inl v9) → h1.length + x ≤ R.cells + hb ∧ pm_slt h1 + 6 * x ≤ R.slots + sb := by
        intro h1 q ls st hz
        have hm := pm_up_ik (X := X) (n := N) (pm_up_xk X N n) _ _ _ _ _ _ _ hz
        have m1 : h1.length ≤ h9.length := hm.1
        have m2 : pm_slt h1 ≤ pm_slt h9 := hm.2
        exact ⟨by omega, by omega⟩
      have hroom1 : ∀ (h1 : pm_H) (q : Nat) (ls : pm_L) (st : List Value), pm_ik X N (pm_xk X N n) d h1 309 q ls st = some (h9, .inl v9) → h1.length + (x + 1) ≤ R.cells + hb ∧ pm_slt h1 + 6 * (x + 1) ≤ R.slots + sb := by
        intro h1 q ls st hz
        have hm := pm_up_ik (X := X) (n := N) (pm_up_xk X N n) _ _ _ _ _ _ _ hz
        have m1 : h1.length ≤ h9.length := hm.1
        have m2 : pm_slt h1 ≤ pm_slt h9 := hm.2
        exact ⟨by omega, by omega⟩
      have hK : ∀ h1 H1 locs1 cells1 slots1 q ls st, pm_At s D cA A ad 309 hb sb x h1 H1 locs1 cells1 slots1 → pm_ik X N (pm_xk X N n) d h1 309 q ls st = some (h9, .inl v9) → pm_J p l e R s mid args below meth c H1 locs1 cells1 slots1 Q ad E.2.1 q ls st :=
        fun h1 H1 locs1 cells1 slots1 q ls st hA1 hz => pm_FW hlt hX hR hown hend n F hA1 ⟨by omega, by omega⟩ hz
      have hF : pm_Fill l X := pm_fill hX
      refine pm_one F hX hA k1 k2 k3 hroom hK (fun e1 e2 e3 => ?_) (fun how ix hi hlen hg => ?_) hr
      · have e1 : h9 = h := e1
        subst e1
        exact hend ad x H locs cells slots pc ls st hA (by omega) (by omega) e2
      subst hlen
      unfold pm_gInv at hg
      split at hg
      · rename_i kind m' na ci hl
        have hd2 : how = 2 → decode (pm_byt y.2.1) pc = .ok (.invokestatic ix, 3) := by
          rintro rfl
          rcases hi with ⟨q, -⟩ | ⟨-, rfl⟩ | ⟨q, -⟩
          · cases q
          · exact k1
          · cases q
        have hd3 : how = 3 → decode (pm_byt y.2.1) pc = .ok (.invokespecial ix, 3) := by
          rintro rfl
          rcases hi with ⟨q, -⟩ | ⟨q, -⟩ | ⟨-, rfl⟩
          · cases q
          · cases q
          · exact k1
        have hd1 : how = 1 → decode (pm_byt y.2.1) pc = .ok (.invokevirtual ix, 3) := by
          rintro rfl
          rcases hi with ⟨-, rfl⟩ | ⟨q, -⟩ | ⟨q, -⟩
          · exact k1
          · cases q
          · cases q
        have hhow : how = 1 ∨ how = 2 ∨ how = 3 := by
          rcases hi with ⟨q, -⟩ | ⟨q, -⟩ | ⟨q, -⟩
          · exact Or.inl q
          · exact Or.inr (Or.inl q)
          · exact Or.inr (Or.inr q)
        cases hk : Nat.beq kind 12 with
        | true =>
          rw [hk, cond_true] at hg
          replace hg := pm_cond_true hg
          obtain ⟨hb1, hg⟩ := hg
          have hk := Nat.eq_of_beq_eq_true hk
          subst hk
          have hb1 := Nat.eq_of_beq_eq_true hb1
          have hf0 : m' = 0 := by
            cases hz : Nat.beq m' 0 with
            | true => exact Nat.eq_of_beq_eq_true hz
            | false =>
              exfalso
              rw [hz, cond_false] at hb1
              subst hb1
              have hi2 : i = .invokestatic ix := by
                rcases hi with ⟨q, -⟩ | ⟨-, q⟩ | ⟨q, -⟩
                · cases q
                · exact q
                · cases q
              subst hi2
              have k3 : (match pm_get (pm_lnk E.2.2.1) ix with
                | some K => !(Nat.beq K.1 12 && Nat.beq 309 309)
                | none => true) = true := k3
              rw [hl] at k3
              cases k3
          refine pm_jPrim F hA hl hb1 ⟨hd2, hd3⟩ (Or.inr hf0) hR hroom (fun z k v r q g1 g2 g3 g4 g5 g6 g7 => ?_) hK hg
          subst g1
          cases hf0
        | false =>
          rw [hk, cond_false] at hg
          rcases Bool.eq_false_or_eq_true (Nat.beq kind 15) with hk15 | hk15
          · rw [hk15, cond_true] at hg
            replace hg := pm_cond_true hg
            obtain ⟨hb1, hg⟩ := hg
            have hk15 := Nat.eq_of_beq_eq_true hk15
            subst hk15
            exact pm_jStr F hA hl (hd1 (Nat.eq_of_beq_eq_true hb1)) hR hroom hK hg
          rw [hk15, cond_false] at hg
          split at hg
          · rename_i As rest hpop
            replace hg := pm_cond_true hg
            obtain ⟨hc8, hg⟩ := hg
            cases hkh : Nat.beq kind how with
            | true =>
              rw [hkh, cond_true] at hg
              have hkh := Nat.eq_of_beq_eq_true hkh
              subst hkh
              have hM : ∀ d' m' y' e' As h1 v, pm_get pm_hds m' = some y' → pm_ent m' = some e' → pm_get pm_kdt m' = some kind → As.length = e'.1 → (pm_lay As e'.2.1).length = e'.2.1 → pm_ik X N (pm_xk X N n) d' h m' 0 (pm_lay As e'.2.1) [] = some (h1, .inl v) → pm_Mt l D cA A ad X y' e' d' h As h1 v := by
                intro d' m' y' e' As h1 v g1 g2 g3 g4 g5 g6
                rw [pm_ik_ne (pm_n309 g3 hhow)] at g6
                obtain ⟨y3, e3, ps, r1, r2, r3⟩ := pm_head g3
                have ey : y3 = y' := Option.some.inj (r1.symm.trans g1)
                have ee : e3 = e' := Option.some.inj (r2.symm.trans g2)
                subst ey; subst ee
                obtain ⟨w1, w2, w3, w4, w5, w6, -⟩ := pm_hd_ok r3 hhow
                have hmn := pm_mono X N _ _ _ _ _ _ _ g6
                refine pm_MtOf (m := m') (rm := pm_rm d' (h1.length - h.length) (pm_slt h1 - pm_slt h)) rfl rfl rfl rfl g2 g1 w6 w3 w4 g5 (fun {p e s mid args below meth c Q} F9 hA9 hend9 => ?_)
                exact pm_FL hX N (Or.inr ⟨hF, Nat.le_refl _, Nat.le_refl _⟩) (pm_own g3 g2 hhow) F9 hA9 ⟨by have := hmn.1; show h1.length ≤ (h1.length - h.length) + h.length; omega, by have := hmn.2; show pm_slt h1 ≤ (pm_slt h1 - pm_slt h) + pm_slt h; omega⟩ (fun H1 locs1 cells1 slots1 pc1 ls1 st1 q1 q2 _ => hend9 H1 locs1 cells1 slots1 pc1 ls1 st1 q1 q2) g6
              have hmono : ∀ d' h0 m0 q ls st h1 v, pm_ik X N (pm_xk X N n) d' h0 m0 q ls st = some (h1, v) → pm_le h0 h1 := fun d' h0 m0 q ls st h1 v hz => pm_up_ik (X := X) (n := N) (pm_up_xk X N n) _ _ _ _ _ _ _ hz
              rcases hhow with rfl | rfl | rfl
              · obtain ⟨a, r, fs, rfl, hcell, hg⟩ := pm_gC1 hg
                rw [show (Nat.beq E.2.2.1 13 && !Nat.beq 309 309) = false by rw [show Nat.beq 309 309 = true from rfl]; cases Nat.beq E.2.2.1 13 <;> rfl] at hg
                exact pm_jCall F hA hl (Or.inl rfl) ⟨hd1, hd2, hd3⟩ hpop hc8 (fun _ => ⟨a, r, fs, rfl, hcell⟩) (fun q => by cases q) hR hroom hmono hM hK hg
              · have hg : pm_call (pm_ik X N (pm_xk X N n)) d h 309 pc ls m' As rest false = some (h9, .inl v9) := hg
                exact pm_jCall F hA hl (Or.inr (Or.inl rfl)) ⟨hd1, hd2, hd3⟩ hpop hc8 (fun q => by cases q) (fun q => by cases q) hR hroom hmono hM hK hg
              · obtain ⟨a, r, rfl, hg⟩ := pm_gC3 hg
                exact pm_jCall F hA hl (Or.inr (Or.inr rfl)) ⟨hd1, hd2, hd3⟩ hpop hc8 (fun q => by cases q) (fun _ => ⟨a, r, rfl⟩) hR hroom hmono hM hK hg
            | false =>
              rw [hkh, cond_false] at hg
              replace hg := pm_cond_true hg
              obtain ⟨hb2, hg⟩ := hg
              rw [Bool.and_eq_true, Bool.and_eq_true] at hb2
              replace hg := pm_cond_true hg
              obtain ⟨hb3, hg⟩ := hg
              rw [Bool.and_eq_true, pm_len_eq] at hb3
              have hk14 := Nat.eq_of_beq_eq_true hb2.1
              subst hk14
              have hh2 := Nat.eq_of_beq_eq_true hb2.2.1
              exact pm_jHelp (n := N) (K := pm_xk X N n) hlt hX F hown hA hl (hd2 hh2) hpop hc8 hR hb3.1 hb3.2 hroom1 (fun ad' h1 H1 locs1 cells1 slots1 q ls st F1 hA1 hz => pm_FW hlt hX hR hown hend n F1 hA1 ⟨by omega, by omega⟩ hz) hg
          · cases hg
      · cases hg
end
section
/-! reasoning over the picture machine: a run that comes to an end with Q, with any number of steps from some on (printed by wip/tool/wp.py) -/
def pw (X : List (Nat × List Value)) (d : Nat) (h : pm_H) (m pc : Nat) (ls : pm_L) (st : List Value) (Q : pm_H → (Option Value ⊕ Unit) → Prop) : Prop :=
  ∃ n0 o, Q o.1 o.2 ∧ ∀ n, n0 ≤ n → pm_x X n d h m pc ls st = some o
def pw_i (a : Int) : Value := .int (Int32.ofInt a)
theorem pw_toInt {a : Int} (h1 : -2147483648 ≤ a) (h2 : a ≤ 2147483647) : (Int32.ofInt a).toInt = a := Int32.toInt_ofInt_of_le (by omega) (by omega)
theorem pw_lt {a b : Int} (h1 : -2147483648 ≤ a) (h2 : a ≤ 2147483647) (h3 : -2147483648 ≤ b) (h4 : b ≤ 2147483647) : Int32.ofInt a < Int32.ofInt b ↔ a < b := by
  rw [Int32.lt_iff_toInt_lt, pw_toInt h1 h2, pw_toInt h3 h4]
theorem pw_le {a b : Int} (h1 : -2147483648 ≤ a) (h2 : a ≤ 2147483647) (h3 : -2147483648 ≤ b) (h4 : b ≤ 2147483647) : Int32.ofInt a ≤ Int32.ofInt b ↔ a ≤ b := by
  rw [Int32.le_iff_toInt_le, pw_toInt h1 h2, pw_toInt h3 h4]
theorem pw_eq {a b : Int} (h1 : -2147483648 ≤ a) (h2 : a ≤ 2147483647) (h3 : -2147483648 ≤ b) (h4 : b ≤ 2147483647) : Int32.ofInt a = Int32.ofInt b ↔ a = b := by
  rw [← Int32.toInt_inj, pw_toInt h1 h2, pw_toInt h3 h4]
theorem pw_clamp {a : Int} (h1 : 0 ≤ a) (h2 : a ≤ 2147483647) : (Int32.ofInt a).toNatClampNeg = a.toNat := by
  show (Int32.ofInt a).toInt.toNat = a.toNat
  rw [pw_toInt (by omega) h2]
theorem pw_neg {a : Int} (h1 : 0 ≤ a) (h2 : a ≤ 2147483647) : ¬ Int32.ofInt a < 0 := by
  have e : (0 : Int32) = Int32.ofInt 0 := rfl
  rw [e, pw_lt (by omega) h2 (by omega) (by omega)]
  omega
/-- every int is one of them -/
theorem pw_any (x : Int32) : ∃ a : Int, -2147483648 ≤ a ∧ a ≤ 2147483647 ∧ Value.int x = pw_i a := by
  refine ⟨x.toInt, by have := x.le_toInt; omega, by have := x.toInt_lt; omega, ?_⟩
  unfold pw_i
  rw [Int32.ofInt_toInt]
/-- how two numbers stand: what a condition says of them -/
def pw_c (c : ClassFile.Cond) (a b : Int) : Prop := match c with
  | .eq => a = b
  | .ne => a ≠ b
  | .lt => a < b
  | .ge => b ≤ a
  | .gt => b < a
  | .le => a ≤ b
theorem pw_cnd {c : ClassFile.Cond} {a b : Int} (h1 : -2147483648 ≤ a) (h2 : a ≤ 2147483647) (h3 : -2147483648 ≤ b) (h4 : b ≤ 2147483647) : pm_cnd c (Int32.ofInt a) (Int32.ofInt b) = true ↔ pw_c c a b := by
  cases c with
  | eq => show decide _ = true ↔ a = b; rw [decide_eq_true_eq, pw_eq h1 h2 h3 h4]
  | ne => show (!decide _) = true ↔ a ≠ b; rw [Bool.not_eq_true', decide_eq_false_iff_not, pw_eq h1 h2 h3 h4]
  | lt => show decide _ = true ↔ a < b; rw [decide_eq_true_eq, pw_lt h1 h2 h3 h4]
  | ge => show decide _ = true ↔ b ≤ a; rw [decide_eq_true_eq, pw_le h3 h4 h1 h2]
  | gt => show decide _ = true ↔ b < a; rw [decide_eq_true_eq, pw_lt h3 h4 h1 h2]
  | le => show decide _ = true ↔ a ≤ b; rw [decide_eq_true_eq, pw_le h1 h2 h3 h4]
section Pw
variable {X : List (Nat × List Value)} {d : Nat} {h h' : pm_H} {m pc pc' len na nl own rt : Nat} {C : pm_T (Instr × Nat)} {ls ls' : pm_L} {st st' r : List Value} {Q : pm_H → (Option Value ⊕ Unit) → Prop} {i : Instr}
theorem pw_go (he : pm_ent m = some (na, nl, own, rt, C)) (hq : pm_get C pc = some (i, len)) (hs : ∀ ih : pm_I, pm_dsp X i ih d h m own pc len ls st = ih d h' m pc' ls' st') (H : pw X d h' m pc' ls' st' Q) : pw X d h m pc ls st Q := by
  obtain ⟨n0, o, hQ, hn⟩ := H
  refine ⟨n0 + 1, o, hQ, fun n hn' => ?_⟩
  obtain ⟨k, rfl⟩ : ∃ k, n = k + 1 := ⟨n - 1, by omega⟩
  rw [pm_x_at he hq]
  exact (hs _).trans (hn k (by omega))
/-- loads, constants: the stack alone changes -/
theorem pw_ld (he : pm_ent m = some (na, nl, own, rt, C)) (hq : pm_get C pc = some (i, len)) (hs : ∀ ih : pm_I, pm_dsp X i ih d h m own pc len ls st = ih d h m pc' ls st') (H : pw X d h m pc' ls st' Q) : pw X d h m pc ls st Q := pw_go he hq hs H
theorem pw_end {v : Option Value ⊕ Unit} (he : pm_ent m = some (na, nl, own, rt, C)) (hq : pm_get C pc = some (i, len)) (hs : ∀ ih : pm_I, pm_dsp X i ih d h m own pc len ls st = some (h, v)) (H : Q h v) : pw X d h m pc ls st Q := by
  refine ⟨1, (h, v), H, fun n hn' => ?_⟩
  obtain ⟨k, rfl⟩ : ∃ k, n = k + 1 := ⟨n - 1, by omega⟩
  rw [pm_x_at he hq]
  exact hs _
theorem pw_mono {Q' : pm_H → (Option Value ⊕ Unit) → Prop} (H : pw X d h m pc ls st Q) (hq : ∀ h v, Q h v → Q' h v) : pw X d h m pc ls st Q' := by
  obtain ⟨n0, o, hQ, hn⟩ := H
  exact ⟨n0, o, hq _ _ hQ, hn⟩
/-- the top of the stack by another name -/
theorem pw_nm {a : Int} (H : ∀ b : Int, -2147483648 ≤ b → b ≤ 2147483647 → pw X d h m pc ls (pw_i b :: r) Q) : pw X d h m pc ls (pw_i a :: r) Q := by
  obtain ⟨b, h1, h2, h3⟩ := pw_any (Int32.ofInt a)
  have h3 : pw_i a = pw_i b := h3
  rw [h3]
  exact H b h1 h2
theorem pw_nmx {x : Int32} (H : ∀ b : Int, -2147483648 ≤ b → b ≤ 2147483647 → pw X d h m pc ls (pw_i b :: r) Q) : pw X d h m pc ls (.int x :: r) Q := by
  obtain ⟨b, h1, h2, h3⟩ := pw_any x
  rw [h3]
  exact H b h1 h2
theorem pw_bip {n : Int} (he : pm_ent m = some (na, nl, own, rt, C)) (hq : pm_get C pc = some (.bipush n, len)) (hc : pc + len = pc') (hv : (Int8.ofInt n).toInt32 = Int32.ofInt n) (H : pw X d h m pc' ls (pw_i n :: st) Q) : pw X d h m pc ls st Q := by
  subst hc
  refine pw_ld he hq (st' := .int (Int8.ofInt n).toInt32 :: st) (pc' := pc + len) (fun ih => ?_) (by rw [hv]; exact H)
  exact pm_fn_eq (pc + len) (fun q => ih d h m q ls (.int (Int8.ofInt n).toInt32 :: st))
theorem pw_sip {n : Int} (he : pm_ent m = some (na, nl, own, rt, C)) (hq : pm_get C pc = some (.sipush n, len)) (hc : pc + len = pc') (hv : (Int16.ofInt n).toInt32 = Int32.ofInt n) (H : pw X d h m pc' ls (pw_i n :: st) Q) : pw X d h m pc ls st Q := by
  subst hc
  refine pw_ld he hq (st' := .int (Int16.ofInt n).toInt32 :: st) (pc' := pc + len) (fun ih => ?_) (by rw [hv]; exact H)
  exact pm_fn_eq (pc + len) (fun q => ih d h m q ls (.int (Int16.ofInt n).toInt32 :: st))
theorem pw_ldcw {ix n b z : Nat} {a : Int} (he : pm_ent m = some (na, nl, own, rt, C)) (hq : pm_get C pc = some (.ldc_w ix, len)) (hl : pm_get (pm_lnk own) ix = some (8, n, b, z)) (hc : pc + len = pc') (hv : Int32.ofNat n = Int32.ofInt a) (H : pw X d h m pc' ls (pw_i a :: st) Q) : pw X d h m pc ls st Q := by
  subst hc
  refine pw_ld he hq (st' := .int (Int32.ofNat n) :: st) (pc' := pc + len) (fun ih => ?_) (by rw [hv]; exact H)
  show pm_gLdw ix ih d h m own pc len ls st = _
  unfold pm_gLdw
  rw [hl]
  exact pm_fn_eq (pc + len) (fun q => ih d h m q ls (.int (Int32.ofNat n) :: st))

theorem pw_ist {k : Nat} {a : Int} (he : pm_ent m = some (na, nl, own, rt, C)) (hq : pm_get C pc = some (.istore k, len)) (hk : Nat.blt k (pm_len ls) = true) (hp : pm_put1 ls k (pw_i a) = ls') (hc : pc + len = pc') (H : pw X d h m pc' ls' r Q) : pw X d h m pc ls (pw_i a :: r) Q := by
  subst hc; subst hp
  refine pw_go he hq (fun ih => ?_) H
  show cond (Nat.blt k (pm_len ls)) (pm_fi (Int32.ofInt a) fun y => pm_fn (pc + len) fun q => ih d h m q (pm_put1 ls k (.int y)) r) none = _
  rw [hk, cond_true, pm_fi_eq, pm_fn_eq]
  rfl
theorem pw_istn {k : Fin 4} {a : Int} (he : pm_ent m = some (na, nl, own, rt, C)) (hq : pm_get C pc = some (.istore_n k, len)) (hk : Nat.blt k.val (pm_len ls) = true) (hp : pm_put1 ls k.val (pw_i a) = ls') (hc : pc + len = pc') (H : pw X d h m pc' ls' r Q) : pw X d h m pc ls (pw_i a :: r) Q := by
  subst hc; subst hp
  refine pw_go he hq (fun ih => ?_) H
  show cond (Nat.blt k.val (pm_len ls)) (pm_fi (Int32.ofInt a) fun y => pm_fn (pc + len) fun q => ih d h m q (pm_put1 ls k.val (.int y)) r) none = _
  rw [hk, cond_true, pm_fi_eq, pm_fn_eq]
  rfl
theorem pw_lst {k : Nat} {w : Int64} (he : pm_ent m = some (na, nl, own, rt, C)) (hq : pm_get C pc = some (.lstore k, len)) (hk : Nat.blt (k + 1) (pm_len ls) = true) (hp : pm_put2 ls k (.long w) = ls') (hc : pc + len = pc') (H : pw X d h m pc' ls' r Q) : pw X d h m pc ls (.long w :: r) Q := by
  subst hc; subst hp
  refine pw_go he hq (fun ih => ?_) H
  show cond (Nat.blt (k + 1) (pm_len ls)) (pm_fl w fun y => pm_fn (pc + len) fun q => ih d h m q (pm_put2 ls k (.long y)) r) none = _
  rw [hk, cond_true, pm_fl_eq, pm_fn_eq]
theorem pw_lstn {k : Fin 4} {w : Int64} (he : pm_ent m = some (na, nl, own, rt, C)) (hq : pm_get C pc = some (.lstore_n k, len)) (hk : Nat.blt (k.val + 1) (pm_len ls) = true) (hp : pm_put2 ls k.val (.long w) = ls') (hc : pc + len = pc') (H : pw X d h m pc' ls' r Q) : pw X d h m pc ls (.long w :: r) Q := by
  subst hc; subst hp
  refine pw_go he hq (fun ih => ?_) H
  show cond (Nat.blt (k.val + 1) (pm_len ls)) (pm_fl w fun y => pm_fn (pc + len) fun q => ih d h m q (pm_put2 ls k.val (.long y)) r) none = _
  rw [hk, cond_true, pm_fl_eq, pm_fn_eq]
theorem pw_astn {k : Fin 4} {a : Nat} (he : pm_ent m = some (na, nl, own, rt, C)) (hq : pm_get C pc = some (.astore_n k, len)) (hk : Nat.blt k.val (pm_len ls) = true) (hp : pm_put1 ls k.val (.ref a) = ls') (hc : pc + len = pc') (H : pw X d h m pc' ls' r Q) : pw X d h m pc ls (.ref a :: r) Q := by
  subst hc; subst hp
  refine pw_go he hq (fun ih => ?_) H
  show cond (Nat.blt k.val (pm_len ls)) (pm_fn (pc + len) fun q => ih d h m q (pm_put1 ls k.val (.ref a)) r) none = _
  rw [hk, cond_true, pm_fn_eq]
theorem pw_inc {k : Nat} {n a : Int} (he : pm_ent m = some (na, nl, own, rt, C)) (hq : pm_get C pc = some (.iinc k n, 3)) (hl : pm_nth ls k = some (some (pw_i a))) (hp : pm_put1 ls k (pw_i (a + n)) = ls') (hc : pc + 3 = pc') (H : pw X d h m pc' ls' st Q) : pw X d h m pc ls st Q := by
  subst hc; subst hp
  refine pw_go he hq (fun ih => ?_) H
  show pm_lift (pm_sInc k n) ih d h m own pc 3 ls st = _
  unfold pm_lift pm_sInc
  rw [hl]
  show cond (Nat.beq 3 3) (pm_fi (Int32.ofInt a + Int32.ofInt n) fun y => pm_fn (pc + 3) fun q => ih d h m q (pm_put1 ls k (.int y)) st) none = _
  rw [Nat.beq_refl, cond_true, pm_fi_eq, pm_fn_eq, ← Int32.ofInt_add]
  rfl
theorem pw_add {a b : Int} (he : pm_ent m = some (na, nl, own, rt, C)) (hq : pm_get C pc = some (.iadd, len)) (hc : pc + len = pc') (H : pw X d h m pc' ls (pw_i (a + b) :: r) Q) : pw X d h m pc ls (pw_i b :: pw_i a :: r) Q := by
  subst hc
  refine pw_ld he hq (st' := pw_i (a + b) :: r) (pc' := pc + len) (fun ih => ?_) H
  unfold pw_i
  rw [Int32.ofInt_add]
  exact pm_fn_eq (pc + len) (fun q => ih d h m q ls (.int (Int32.ofInt a + Int32.ofInt b) :: r))
theorem pw_sub {a b : Int} (he : pm_ent m = some (na, nl, own, rt, C)) (hq : pm_get C pc = some (.isub, len)) (hc : pc + len = pc') (H : pw X d h m pc' ls (pw_i (a - b) :: r) Q) : pw X d h m pc ls (pw_i b :: pw_i a :: r) Q := by
  subst hc
  refine pw_ld he hq (st' := pw_i (a - b) :: r) (pc' := pc + len) (fun ih => ?_) H
  unfold pw_i
  rw [Int32.ofInt_sub]
  exact pm_fn_eq (pc + len) (fun q => ih d h m q ls (.int (Int32.ofInt a - Int32.ofInt b) :: r))
theorem pw_mul {a b : Int} (he : pm_ent m = some (na, nl, own, rt, C)) (hq : pm_get C pc = some (.imul, len)) (hc : pc + len = pc') (H : pw X d h m pc' ls (pw_i (a * b) :: r) Q) : pw X d h m pc ls (pw_i b :: pw_i a :: r) Q := by
  subst hc
  refine pw_ld he hq (st' := pw_i (a * b) :: r) (pc' := pc + len) (fun ih => ?_) H
  unfold pw_i
  rw [Int32.ofInt_mul]
  exact pm_fn_eq (pc + len) (fun q => ih d h m q ls (.int (Int32.ofInt a * Int32.ofInt b) :: r))
theorem pw_ineg {a : Int} (he : pm_ent m = some (na, nl, own, rt, C)) (hq : pm_get C pc = some (.ineg, len)) (hc : pc + len = pc') (H : pw X d h m pc' ls (pw_i (-a) :: r) Q) : pw X d h m pc ls (pw_i a :: r) Q := by
  subst hc
  refine pw_ld he hq (st' := pw_i (-a) :: r) (pc' := pc + len) (fun ih => ?_) H
  unfold pw_i
  rw [Int32.ofInt_neg]
  exact pm_fn_eq (pc + len) (fun q => ih d h m q ls (.int (-Int32.ofInt a) :: r))
/-- an operation on two ints of which only that it answers an int is wanted -/
theorem pw_ii {f : Int32 → Int32 → Int32} {a b : Int} (he : pm_ent m = some (na, nl, own, rt, C)) (hq : pm_get C pc = some (i, len)) (hs : ∀ ih : pm_I, pm_dsp X i ih d h m own pc len ls (pw_i b :: pw_i a :: r) = ih d h m pc' ls (.int (f (Int32.ofInt a) (Int32.ofInt b)) :: r)) (H : ∀ c : Int, -2147483648 ≤ c → c ≤ 2147483647 → pw X d h m pc' ls (pw_i c :: r) Q) : pw X d h m pc ls (pw_i b :: pw_i a :: r) Q := pw_ld he hq hs (pw_nmx H)
theorem pw_divE {a b : Int} (h1 : 0 ≤ a) (h2 : a ≤ 2147483647) (h3 : 0 < b) (h4 : b ≤ 2147483647) : Int32.ofInt a / Int32.ofInt b = Int32.ofInt (a / b) := by
  have hab : 0 ≤ a / b := Int.ediv_nonneg h1 (by omega)
  have hle : a / b ≤ a := Int.ediv_le_self b h1
  apply Int32.toInt_inj.mp
  rw [Int32.toInt_div_of_ne_right _ _ (fun e => by
    have := congrArg Int32.toInt e
    rw [pw_toInt (by omega) h4] at this
    have e1 : (-1 : Int32).toInt = -1 := rfl
    omega), pw_toInt (by omega) h2, pw_toInt (by omega) h4, pw_toInt (by omega) (by omega), Int.tdiv_eq_ediv_of_nonneg h1]
theorem pw_n0 {b : Int} (h3 : b ≠ 0) (h1 : -2147483648 ≤ b) (h2 : b ≤ 2147483647) : ¬ Int32.ofInt b = 0 := by
  have e : (0 : Int32) = Int32.ofInt 0 := rfl
  rw [e, pw_eq h1 h2 (by omega) (by omega)]
  exact h3
theorem pw_div {a b : Int} (he : pm_ent m = some (na, nl, own, rt, C)) (hq : pm_get C pc = some (.idiv, len)) (hc : pc + len = pc') (h1 : 0 ≤ a) (h2 : a ≤ 2147483647) (h3 : 0 < b) (h4 : b ≤ 2147483647) (H : pw X d h m pc' ls (pw_i (a / b) :: r) Q) : pw X d h m pc ls (pw_i b :: pw_i a :: r) Q := by
  subst hc
  refine pw_ld he hq (st' := pw_i (a / b) :: r) (pc' := pc + len) (fun ih => ?_) H
  show cond (decide (Int32.ofInt b = 0)) none (pm_fn (pc + len) fun q => ih d h m q ls (.int (Int32.ofInt a / Int32.ofInt b) :: r)) = _
  rw [decide_eq_false (pw_n0 (by omega) (by omega) h4), cond_false, pm_fn_eq, pw_divE h1 h2 h3 h4]
  rfl
theorem pw_rem {a b : Int} (he : pm_ent m = some (na, nl, own, rt, C)) (hq : pm_get C pc = some (.irem, len)) (hc : pc + len = pc') (h1 : 0 ≤ a) (h2 : a ≤ 2147483647) (h3 : 0 < b) (h4 : b ≤ 2147483647) (H : pw X d h m pc' ls (pw_i (a % b) :: r) Q) : pw X d h m pc ls (pw_i b :: pw_i a :: r) Q := by
  subst hc
  refine pw_ld he hq (st' := pw_i (a % b) :: r) (pc' := pc + len) (fun ih => ?_) H
  show cond (decide (Int32.ofInt b = 0)) none (pm_fn (pc + len) fun q => ih d h m q ls (.int (Int32.ofInt a - Int32.ofInt a / Int32.ofInt b * Int32.ofInt b) :: r)) = _
  rw [decide_eq_false (pw_n0 (by omega) (by omega) h4), cond_false, pm_fn_eq, pw_divE h1 h2 h3 h4, ← Int32.ofInt_mul, ← Int32.ofInt_sub]
  have e : a - a / b * b = a % b := by
    have := Int.mul_ediv_add_emod a b
    have e2 : a / b * b = b * (a / b) := Int.mul_comm _ _
    omega
  rw [e]
  rfl
theorem pw_divA {f : Int32 → Int32 → Int32} {a b : Int} (he : pm_ent m = some (na, nl, own, rt, C)) (hq : pm_get C pc = some (i, len)) (hi : pm_dsp X i = pm_lift (pm_sIIz f)) (hc : pc + len = pc') (h3 : b ≠ 0) (h4 : -2147483648 ≤ b) (h5 : b ≤ 2147483647) (H : ∀ c : Int, -2147483648 ≤ c → c ≤ 2147483647 → pw X d h m pc' ls (pw_i c :: r) Q) : pw X d h m pc ls (pw_i b :: pw_i a :: r) Q := by
  subst hc
  refine pw_ld he hq (st' := .int (f (Int32.ofInt a) (Int32.ofInt b)) :: r) (pc' := pc + len) (fun ih => ?_) (pw_nmx H)
  rw [hi]
  show cond (decide (Int32.ofInt b = 0)) none (pm_fn (pc + len) fun q => ih d h m q ls (.int (f (Int32.ofInt a) (Int32.ofInt b)) :: r)) = _
  rw [decide_eq_false (pw_n0 h3 h4 h5), cond_false, pm_fn_eq]
theorem pw_ldivA {f : Int64 → Int64 → Int64} {a b : Int64} (he : pm_ent m = some (na, nl, own, rt, C)) (hq : pm_get C pc = some (i, len)) (hi : pm_dsp X i = pm_lift (pm_sLLz f)) (hc : pc + len = pc') (h3 : b ≠ 0) (H : pw X d h m pc' ls (.long (f a b) :: r) Q) : pw X d h m pc ls (.long b :: .long a :: r) Q := by
  subst hc
  refine pw_ld he hq (st' := .long (f a b) :: r) (pc' := pc + len) (fun ih => ?_) H
  rw [hi]
  show cond (decide (b = 0)) none (pm_fn (pc + len) fun q => ih d h m q ls (.long (f a b) :: r)) = _
  rw [decide_eq_false h3, cond_false, pm_fn_eq]
theorem pw_lcmp {a b : Int64} (he : pm_ent m = some (na, nl, own, rt, C)) (hq : pm_get C pc = some (.lcmp, len)) (hc : pc + len = pc') (H : ∀ c : Int, (c = -1 ∧ a < b) ∨ (c = 0 ∧ a = b) ∨ (c = 1 ∧ b < a) → pw X d h m pc' ls (pw_i c :: r) Q) : pw X d h m pc ls (.long b :: .long a :: r) Q := by
  subst hc
  refine pw_ld he hq (st' := Value.int (lg_cmp a b) :: r) (pc' := pc + len) (fun ih => ?_) ?_
  · exact pm_fn_eq (pc + len) (fun q => ih d h m q ls (Value.int (lg_cmp a b) :: r))
  · unfold lg_cmp
    by_cases h1 : a > b
    · rw [if_pos h1]
      exact H 1 (Or.inr (Or.inr ⟨rfl, h1⟩))
    · by_cases h2 : a = b
      · rw [if_neg h1, if_pos h2]
        exact H 0 (Or.inr (Or.inl ⟨rfl, h2⟩))
      · rw [if_neg h1, if_neg h2]
        exact H (-1) (Or.inl ⟨rfl, Int64.lt_of_le_of_ne (Int64.not_lt.mp h1) h2⟩)
theorem pw_l2i {w : Int64} (he : pm_ent m = some (na, nl, own, rt, C)) (hq : pm_get C pc = some (.l2i, len)) (hc : pc + len = pc') (H : ∀ c : Int, -2147483648 ≤ c → c ≤ 2147483647 → pw X d h m pc' ls (pw_i c :: r) Q) : pw X d h m pc ls (.long w :: r) Q := by
  subst hc
  refine pw_ld he hq (st' := .int w.toInt32 :: r) (pc' := pc + len) (fun ih => ?_) (pw_nmx H)
  exact pm_fn_eq (pc + len) (fun q => ih d h m q ls (.int w.toInt32 :: r))
theorem pw_goto {off : Int} (he : pm_ent m = some (na, nl, own, rt, C)) (hq : pm_get C pc = some (.goto off, len)) (ht : (pc : Int) + off = (pc' : Int)) (H : pw X d h m pc' ls st Q) : pw X d h m pc ls st Q := by
  refine pw_ld he hq (pc' := pc') (st' := st) (fun ih => ?_) H
  show pm_to ((pc : Int) + off) (fun t => ih d h m t ls st) = _
  rw [ht]
  exact pm_fn_eq pc' (fun t => ih d h m t ls st)
theorem pw_if {c : ClassFile.Cond} {off a : Int} (he : pm_ent m = some (na, nl, own, rt, C)) (hq : pm_get C pc = some (.ifCond c off, len)) (ht : (pc : Int) + off = (pc' : Int)) (h1 : -2147483648 ≤ a) (h2 : a ≤ 2147483647) (HT : pw_c c a 0 → pw X d h m pc' ls r Q) (HF : ¬ pw_c c a 0 → pw X d h m (pc + 3) ls r Q) : pw X d h m pc ls (pw_i a :: r) Q := by
  have key : ∀ ih : pm_I, pm_dsp X (.ifCond c off) ih d h m own pc len ls (pw_i a :: r) = cond (pm_cnd c (Int32.ofInt a) (Int32.ofInt 0)) (ih d h m pc' ls r) (ih d h m (pc + 3) ls r) := by
    intro ih
    show pm_to ((pc : Int) + off) (fun t => cond (pm_cnd c (Int32.ofInt a) 0) (ih d h m t ls r) (pm_fn (pc + 3) fun q => ih d h m q ls r)) = _
    rw [ht]
    rw [pm_fn_eq (pc + 3)]
    exact pm_fn_eq pc' (fun t => cond (pm_cnd c (Int32.ofInt a) 0) (ih d h m t ls r) (ih d h m (pc + 3) ls r))
  by_cases hc : pm_cnd c (Int32.ofInt a) (Int32.ofInt 0) = true
  · refine pw_ld he hq (fun ih => ?_) (HT ((pw_cnd h1 h2 (by omega) (by omega)).mp hc))
    rw [key, hc, cond_true]
  · refine pw_ld he hq (fun ih => ?_) (HF (fun q => hc ((pw_cnd h1 h2 (by omega) (by omega)).mpr q)))
    rw [key, Bool.not_eq_true _ |>.mp hc, cond_false]
theorem pw_if2 {c : ClassFile.Cond} {off a b : Int} (he : pm_ent m = some (na, nl, own, rt, C)) (hq : pm_get C pc = some (.if_icmp c off, len)) (ht : (pc : Int) + off = (pc' : Int)) (h1 : -2147483648 ≤ a) (h2 : a ≤ 2147483647) (h3 : -2147483648 ≤ b) (h4 : b ≤ 2147483647) (HT : pw_c c a b → pw X d h m pc' ls r Q) (HF : ¬ pw_c c a b → pw X d h m (pc + 3) ls r Q) : pw X d h m pc ls (pw_i b :: pw_i a :: r) Q := by
  have key : ∀ ih : pm_I, pm_dsp X (.if_icmp c off) ih d h m own pc len ls (pw_i b :: pw_i a :: r) = cond (pm_cnd c (Int32.ofInt a) (Int32.ofInt b)) (ih d h m pc' ls r) (ih d h m (pc + 3) ls r) := by
    intro ih
    show pm_to ((pc : Int) + off) (fun t => cond (pm_cnd c (Int32.ofInt a) (Int32.ofInt b)) (ih d h m t ls r) (pm_fn (pc + 3) fun q => ih d h m q ls r)) = _
    rw [ht]
    rw [pm_fn_eq (pc + 3)]
    exact pm_fn_eq pc' (fun t => cond (pm_cnd c (Int32.ofInt a) (Int32.ofInt b)) (ih d h m t ls r) (ih d h m (pc + 3) ls r))
  by_cases hc : pm_cnd c (Int32.ofInt a) (Int32.ofInt b) = true
  · refine pw_ld he hq (fun ih => ?_) (HT ((pw_cnd h1 h2 h3 h4).mp hc))
    rw [key, hc, cond_true]
  · refine pw_ld he hq (fun ih => ?_) (HF (fun q => hc ((pw_cnd h1 h2 h3 h4).mpr q)))
    rw [key, Bool.not_eq_true _ |>.mp hc, cond_false]
theorem pw_tswD {df lo hi a : Int} {offs : Array Int} (he : pm_ent m = some (na, nl, own, rt, C)) (hq : pm_get C pc = some (.tableswitch df lo hi offs, len)) (h1 : -2147483648 ≤ a) (h2 : a ≤ 2147483647) (ho : a < lo ∨ hi < a) (ht : (pc : Int) + df = (pc' : Int)) (H : pw X d h m pc' ls r Q) : pw X d h m pc ls (pw_i a :: r) Q := by
  refine pw_ld he hq (fun ih => ?_) H
  show pm_tsw (Int32.ofInt a).toInt lo hi df offs (fun o => pm_to ((pc : Int) + o) fun t => ih d h m t ls r) = _
  unfold pm_tsw
  rw [pw_toInt h1 h2, if_pos ho]
  show pm_to ((pc : Int) + df) (fun t => ih d h m t ls r) = _
  rw [ht]
  exact pm_fn_eq pc' (fun t => ih d h m t ls r)
theorem pw_tswJ {df lo hi a o : Int} {offs : Array Int} (he : pm_ent m = some (na, nl, own, rt, C)) (hq : pm_get C pc = some (.tableswitch df lo hi offs, len)) (h1 : -2147483648 ≤ a) (h2 : a ≤ 2147483647) (ho : ¬ (a < lo ∨ hi < a)) (hj : pm_nth offs.toList (a - lo).toNat = some o) (ht : (pc : Int) + o = (pc' : Int)) (H : pw X d h m pc' ls r Q) : pw X d h m pc ls (pw_i a :: r) Q := by
  refine pw_ld he hq (fun ih => ?_) H
  show pm_tsw (Int32.ofInt a).toInt lo hi df offs (fun o => pm_to ((pc : Int) + o) fun t => ih d h m t ls r) = _
  unfold pm_tsw
  rw [pw_toInt h1 h2, if_neg ho, hj]
  show pm_to ((pc : Int) + o) (fun t => ih d h m t ls r) = _
  rw [ht]
  exact pm_fn_eq pc' (fun t => ih d h m t ls r)
theorem pw_lsw {df a o : Int} {ps : Array (Int × Int)} (he : pm_ent m = some (na, nl, own, rt, C)) (hq : pm_get C pc = some (.lookupswitch df ps, len)) (h1 : -2147483648 ≤ a) (h2 : a ≤ 2147483647) (hs : ((ps.toList.zip (ps.toList.drop 1)).all (fun (a, next) => a.1 < next.1)) = true) (hj : Op.lookupswitch.offset ps.toList df a = o) (ht : (pc : Int) + o = (pc' : Int)) (H : pw X d h m pc' ls r Q) : pw X d h m pc ls (pw_i a :: r) Q := by
  refine pw_ld he hq (fun ih => ?_) H
  show cond ((ps.toList.zip (ps.toList.drop 1)).all (fun (a, next) => a.1 < next.1)) (pm_to ((pc : Int) + Op.lookupswitch.offset ps.toList df (Int32.ofInt a).toInt) fun t => ih d h m t ls r) none = _
  rw [hs, cond_true, pw_toInt h1 h2, hj, ht]
  exact pm_fn_eq pc' (fun t => ih d h m t ls r)
theorem pw_iret {a : Int} (he : pm_ent m = some (na, nl, own, 0, C)) (hq : pm_get C pc = some (.ireturn, len)) (H : Q h (.inl (some (pw_i a)))) : pw X d h m pc ls [pw_i a] Q := by
  refine pw_end he hq (fun ih => ?_) H
  show ((match pm_ent m with
    | some e => cond (Nat.ble 0 e.2.2.2.1) (cond (Nat.ble e.2.2.2.1 1) (cond (pm_fit e.2.2.2.1 (pw_i a)) (some (h, .inl (some (pw_i a)))) none) none) none
    | none => none) : pm_R) = _
  rw [he]
  rfl
theorem pw_zret {a : Int} (he : pm_ent m = some (na, nl, own, 1, C)) (hq : pm_get C pc = some (.ireturn, len)) (ha : a = 0 ∨ a = 1) (H : Q h (.inl (some (pw_i a)))) : pw X d h m pc ls [pw_i a] Q := by
  refine pw_end he hq (fun ih => ?_) H
  show ((match pm_ent m with
    | some e => cond (Nat.ble 0 e.2.2.2.1) (cond (Nat.ble e.2.2.2.1 1) (cond (pm_fit e.2.2.2.1 (pw_i a)) (some (h, .inl (some (pw_i a)))) none) none) none
    | none => none) : pm_R) = _
  rw [he]
  rcases ha with rfl | rfl <;> rfl
theorem pw_lret {w : Int64} (he : pm_ent m = some (na, nl, own, 2, C)) (hq : pm_get C pc = some (.lreturn, len)) (H : Q h (.inl (some (.long w)))) : pw X d h m pc ls [.long w] Q := by
  refine pw_end he hq (fun ih => ?_) H
  show ((match pm_ent m with
    | some e => cond (Nat.ble 2 e.2.2.2.1) (cond (Nat.ble e.2.2.2.1 2) (cond (pm_fit e.2.2.2.1 (.long w)) (some (h, .inl (some (.long w)))) none) none) none
    | none => none) : pm_R) = _
  rw [he]
  rfl
theorem pw_aret {a : Nat} (he : pm_ent m = some (na, nl, own, 3, C)) (hq : pm_get C pc = some (.areturn, len)) (H : Q h (.inl (some (.ref a)))) : pw X d h m pc ls [.ref a] Q := by
  refine pw_end he hq (fun ih => ?_) H
  show ((match pm_ent m with
    | some e => cond (Nat.ble 3 e.2.2.2.1) (cond (Nat.ble e.2.2.2.1 3) (cond (pm_fit e.2.2.2.1 (.ref a)) (some (h, .inl (some (.ref a)))) none) none) none
    | none => none) : pm_R) = _
  rw [he]
  rfl
theorem pw_vret (he : pm_ent m = some (na, nl, own, 4, C)) (hq : pm_get C pc = some (.return_, len)) (H : Q h (.inl none)) : pw X d h m pc ls [] Q := by
  refine pw_end he hq (fun ih => ?_) H
  show ((match pm_ent m with
    | some e => cond (Nat.beq e.2.2.2.1 4) (some (h, .inl none)) none
    | none => none) : pm_R) = _
  rw [he]
  rfl
/-- a throw -/
theorem pw_thr {ix a b c : Nat} (he : pm_ent m = some (na, nl, own, rt, C)) (hq : pm_get C pc = some (.new ix, len)) (hl : pm_get (pm_lnk own) ix = some (13, a, b, c)) (hs : pm_scH h = true) (H : Q h (.inr ())) : pw X d h m pc ls [] Q := by
  refine pw_end he hq (fun ih => ?_) H
  show pm_gNew X ix ih d h m own pc len ls [] = _
  unfold pm_gNew
  rw [hl]
  show (cond (pm_scH h && Nat.beq (pm_len ([] : List Value)) 0) (some (h, Sum.inr ())) none : pm_R) = _
  rw [hs]
  rfl
theorem pw_call {m' : Nat} {e' : pm_M} {As rest : List Value} {ls'' : pm_L} (hd : 1 ≤ d) {Qc : pm_H → (Option Value ⊕ Unit) → Prop} (he : pm_ent m = some (na, nl, own, rt, C)) (hq : pm_get C pc = some (i, len)) (hs : ∀ ih : pm_I, pm_dsp X i ih d h m own pc len ls st = pm_call ih d h m pc ls m' As rest false) (he' : pm_ent m' = some e') (hlay : pm_lay As e'.2.1 = ls'') (hlen : pm_len ls'' = e'.2.1)
    (HC : pw X (d - 1) h m' 0 ls'' [] Qc) (HK : ∀ h' v, Qc h' v → ∃ w, v = .inl w ∧ pw X d h' m (pc + 3) ls (w.toList ++ rest) Q) : pw X d h m pc ls st Q := by
  obtain ⟨n1, o1, hQ1, hn1⟩ := HC
  obtain ⟨h1, v1⟩ := o1
  obtain ⟨w, hw, n2, o2, hQ2, hn2⟩ := HK h1 v1 hQ1
  have hw : v1 = .inl w := hw
  subst hw
  refine ⟨max n1 n2 + 1, o2, hQ2, fun n hn' => ?_⟩
  obtain ⟨k, rfl⟩ : ∃ k, n = k + 1 := ⟨n - 1, by omega⟩
  rw [pm_x_at he hq]
  refine (hs _).trans ?_
  obtain ⟨d', rfl⟩ : ∃ d', d = d' + 1 := ⟨d - 1, by omega⟩
  show (match pm_ent m' with
    | none => none
    | some e => cond (Nat.beq (pm_len (pm_lay As e.2.1)) e.2.1) (match pm_x X k d' h m' 0 (pm_lay As e.2.1) [] with
      | some (h', .inl v) => pm_fn (pc + 3) fun q => pm_x X k (d' + 1) h' m q ls (v.toList ++ rest)
      | some (h', .inr _) => cond false (some (h', .inl (some (.int 1)))) none
      | none => none) none) = _
  rw [he']
  show cond (Nat.beq (pm_len (pm_lay As e'.2.1)) e'.2.1) (match pm_x X k d' h m' 0 (pm_lay As e'.2.1) [] with
      | some (h', .inl v) => pm_fn (pc + 3) fun q => pm_x X k (d' + 1) h' m q ls (v.toList ++ rest)
      | some (h', .inr _) => cond false (some (h', .inl (some (.int 1)))) none
      | none => none) none = _
  have hn1 := hn1 k (by omega)
  rw [Nat.add_sub_cancel] at hn1
  rw [hlay, hlen, Nat.beq_refl, cond_true, hn1]
  show (pm_fn (pc + 3) fun q => pm_x X k (d' + 1) h1 m q ls (w.toList ++ rest)) = _
  rw [pm_fn_eq]
  exact hn2 k (by omega)
theorem pw_inv {how ix m' nb ci : Nat} {As rest : List Value} (hk : how = 2 ∨ how = 3) {ih : pm_I} (hl : pm_get (pm_lnk own) ix = some (how, m', nb, ci)) (hp : pm_pop nb st [] = some (As, rest)) (h8 : pm_cat8 rest = true) (ha : how = 3 → ∃ a r, As = .ref a :: r) : pm_gInv X how ix ih d h m own pc len ls st = pm_call ih d h m pc ls m' As rest false := by
  unfold pm_gInv
  rw [hl]
  show cond (Nat.beq how 12) _ (cond (Nat.beq how 15) _ (match pm_pop nb st [] with
      | some (As, rest) => cond (pm_cat8 rest) (cond (Nat.beq how how) (pm_gC how ih d h m own pc ls m' ci As rest) _) none
      | none => none)) = _
  rw [hp]
  show cond (Nat.beq how 12) _ (cond (Nat.beq how 15) _ (cond (pm_cat8 rest) (cond (Nat.beq how how) (pm_gC how ih d h m own pc ls m' ci As rest) _) none)) = _
  rw [h8, Nat.beq_refl, cond_true, cond_true]
  rcases hk with rfl | rfl
  · rfl
  · obtain ⟨a, r, rfl⟩ := ha rfl
    rfl
theorem pw_inv1 {ix m' nb ci a : Nat} {As rest fs : List Value} {ih : pm_I} (ho : Nat.beq own 13 = false) (hl : pm_get (pm_lnk own) ix = some (1, m', nb, ci)) (hp : pm_pop nb st [] = some (.ref a :: As, rest)) (h8 : pm_cat8 rest = true) (hc : pm_cell h a = some (.inr (ci, fs))) : pm_gInv X 1 ix ih d h m own pc len ls st = pm_call ih d h m pc ls m' (.ref a :: As) rest false := by
  unfold pm_gInv
  rw [hl]
  show (match pm_pop nb st [] with
      | some (As, rest) => cond (pm_cat8 rest) (pm_gC 1 ih d h m own pc ls m' ci As rest) none
      | none => none) = _
  rw [hp]
  show cond (pm_cat8 rest) (pm_gC 1 ih d h m own pc ls m' ci (.ref a :: As) rest) none = _
  rw [h8, cond_true]
  show (match pm_cell h a with
      | some (.inr (cj, _)) => cond (Nat.beq cj ci) (pm_call ih d h m pc ls m' (.ref a :: As) rest (Nat.beq own 13 && !Nat.beq m 309)) none
      | _ => none) = _
  rw [hc, ho]
  show cond (Nat.beq ci ci) _ none = _
  rw [Nat.beq_refl]
  rfl
end Pw
end
section
/-! the heap behind both constructors: 170 cells (printed by wip/tool/heap.py). A field: 0 an int between two numbers, 1 a long, 2 this reference, 3 an array of ints of at most 1000, 4 a long between two numbers; an array: its type, its length, its elements between two numbers (of references: the first, and how far apart) -/
abbrev pw_F : Type := Nat × Int × Int
abbrev pw_S : Type := (Nat × Nat × Int × Int) ⊕ (Nat × List pw_F)
def pw_T : List pw_S := [.inr (11, [(2, 17, 0), (2, 23, 0), (2, 26, 0), (2, 28, 0), (2, 30, 0), (2, 31, 0), (0, 0, 10), (2, 32, 0), (2, 38, 0), (2, 39, 0), (2, 40, 0), (2, 42, 0), (2, 44, 0), (2, 46, 0), (2, 53, 0), (2, 54, 0), (2, 111, 0), (2, 112, 0), (2, 116, 0), (2, 120, 0)]),
  .inr (6, [(2, 18, 0), (2, 19, 0), (2, 20, 0), (2, 21, 0), (2, 22, 0)]),
  .inl (1, 24, 0, 1),
  .inl (1, 24, 0, 1),
  .inl (0, 24, 0, 1),
  .inl (0, 24, 0, 999),
  .inl (0, 24, 0, 99),
  .inr (0, [(2, 24, 0), (2, 25, 0)]),
  .inl (0, 24, 0, 999),
  .inl (0, 24, (-99), 99),
  .inr (2, [(2, 27, 0)]),
  .inl (0, 288, (-2), 9999),
  .inr (2, [(2, 29, 0)]),
  .inl (0, 288, (-2), 9999),
  .inl (0, 288, 0, 999),
  .inl (0, 288, 0, 99999),
  .inr (8, [(2, 33, 0), (2, 34, 0), (2, 35, 0), (2, 36, 0), (2, 37, 0)]),
  .inl (0, 24, (-1), 1),
  .inl (0, 24, (-2147483648), 2147483647),
  .inl (0, 24, (-2147483648), 2147483647),
  .inl (0, 512, (-2147483648), 2147483647),
  .inl (0, 512, (-2147483648), 2147483647),
  .inr (1, [(1, 0, 0), (1, 0, 0)]),
  .inr (1, [(1, 0, 0), (1, 0, 0)]),
  .inr (9, [(2, 41, 0), (0, 0, 1000), (0, 0, 1000), (0, 0, 1000), (0, 0, 4), (0, (-2147483648), 2147483647)]),
  .inl (2, 1000, 0, 65535),
  .inr (5, [(2, 4, 0), (2, 5, 0), (2, 1, 0), (2, 43, 0), (0, 0, 40), (0, (-2147483648), 2147483647), (0, (-2147483648), 2147483647), (0, 0, 5), (0, 0, 3)]),
  .inl (0, 40, 0, 9),
  .inr (5, [(2, 6, 0), (2, 7, 0), (2, 2, 0), (2, 45, 0), (0, 0, 40), (0, (-2147483648), 2147483647), (0, (-2147483648), 2147483647), (0, 0, 5), (0, 0, 3)]),
  .inl (0, 40, 0, 9),
  .inr (7, [(2, 52, 0), (0, 0, 1000), (2, 47, 0), (2, 48, 0), (2, 49, 0), (2, 50, 0), (2, 51, 0)]),
  .inl (1, 4, 0, 1),
  .inl (0, 4, 0, 1000),
  .inl (0, 4, 0, 1000),
  .inl (0, 4, 0, 11),
  .inl (0, 40, (-2147483648), 2147483647),
  .inl (0, 1000, (-2147483648), 2147483647),
  .inl (12, 4, 55, 14),
  .inl (12, 4, 62, 14),
  .inr (7, [(3, 0, 0), (0, 0, 1000), (2, 56, 0), (2, 57, 0), (2, 58, 0), (2, 59, 0), (2, 60, 0)]),
  .inl (1, 4, 0, 1),
  .inl (0, 4, 0, 1000),
  .inl (0, 4, 0, 1000),
  .inl (0, 4, 0, 11),
  .inl (0, 40, (-2147483648), 2147483647),
  .inl (0, 0, (-2147483648), 2147483647),
  .inr (7, [(3, 0, 0), (0, 0, 1000), (2, 63, 0), (2, 64, 0), (2, 65, 0), (2, 66, 0), (2, 67, 0)]),
  .inl (1, 4, 0, 1),
  .inl (0, 4, 0, 1000),
  .inl (0, 4, 0, 1000),
  .inl (0, 4, 0, 11),
  .inl (0, 40, (-2147483648), 2147483647),
  .inl (0, 0, (-2147483648), 2147483647),
  .inr (7, [(3, 0, 0), (0, 0, 1000), (2, 70, 0), (2, 71, 0), (2, 72, 0), (2, 73, 0), (2, 74, 0)]),
  .inl (1, 4, 0, 1),
  .inl (0, 4, 0, 1000),
  .inl (0, 4, 0, 1000),
  .inl (0, 4, 0, 11),
  .inl (0, 40, (-2147483648), 2147483647),
  .inl (0, 0, (-2147483648), 2147483647),
  .inr (7, [(3, 0, 0), (0, 0, 1000), (2, 77, 0), (2, 78, 0), (2, 79, 0), (2, 80, 0), (2, 81, 0)]),
  .inl (1, 4, 0, 1),
  .inl (0, 4, 0, 1000),
  .inl (0, 4, 0, 1000),
  .inl (0, 4, 0, 11),
  .inl (0, 40, (-2147483648), 2147483647),
  .inl (0, 0, (-2147483648), 2147483647),
  .inr (7, [(3, 0, 0), (0, 0, 1000), (2, 84, 0), (2, 85, 0), (2, 86, 0), (2, 87, 0), (2, 88, 0)]),
  .inl (1, 4, 0, 1),
  .inl (0, 4, 0, 1000),
  .inl (0, 4, 0, 1000),
  .inl (0, 4, 0, 11),
  .inl (0, 40, (-2147483648), 2147483647),
  .inl (0, 0, (-2147483648), 2147483647),
  .inr (7, [(3, 0, 0), (0, 0, 1000), (2, 91, 0), (2, 92, 0), (2, 93, 0), (2, 94, 0), (2, 95, 0)]),
  .inl (1, 4, 0, 1),
  .inl (0, 4, 0, 1000),
  .inl (0, 4, 0, 1000),
  .inl (0, 4, 0, 11),
  .inl (0, 40, (-2147483648), 2147483647),
  .inl (0, 0, (-2147483648), 2147483647),
  .inr (7, [(3, 0, 0), (0, 0, 1000), (2, 98, 0), (2, 99, 0), (2, 100, 0), (2, 101, 0), (2, 102, 0)]),
  .inl (1, 4, 0, 1),
  .inl (0, 4, 0, 1000),
  .inl (0, 4, 0, 1000),
  .inl (0, 4, 0, 11),
  .inl (0, 40, (-2147483648), 2147483647),
  .inl (0, 0, (-2147483648), 2147483647),
  .inr (7, [(3, 0, 0), (0, 0, 1000), (2, 105, 0), (2, 106, 0), (2, 107, 0), (2, 108, 0), (2, 109, 0)]),
  .inl (1, 4, 0, 1),
  .inl (0, 4, 0, 1000),
  .inl (0, 4, 0, 1000),
  .inl (0, 4, 0, 11),
  .inl (0, 40, (-2147483648), 2147483647),
  .inl (0, 0, (-2147483648), 2147483647),
  .inl (0, 9, (-2147483648), 2147483647),
  .inr (10, [(2, 17, 0), (2, 26, 0), (2, 23, 0), (2, 113, 0), (2, 115, 0), (1, 0, 0)]),
  .inr (2, [(2, 114, 0)]),
  .inl (0, 288, (-2), 9999),
  .inl (0, 10, (-2147483648), 2147483647),
  .inr (4, [(2, 117, 0), (2, 118, 0), (2, 119, 0), (0, 0, 20)]),
  .inl (0, 20, (-9999), 9999),
  .inl (0, 20, 0, 999),
  .inl (1, 20, 0, 1),
  .inl (8, 4, 121, 5),
  .inr (3, [(2, 122, 0), (2, 124, 0), (0, 0, 20), (0, 0, 1)]),
  .inr (2, [(2, 123, 0)]),
  .inl (0, 288, (-2), 9999),
  .inr (2, [(2, 125, 0)]),
  .inl (0, 288, (-2), 9999),
  .inr (3, [(2, 127, 0), (2, 129, 0), (0, 0, 20), (0, 0, 1)]),
  .inr (2, [(2, 128, 0)]),
  .inl (0, 288, (-2), 9999),
  .inr (2, [(2, 130, 0)]),
  .inl (0, 288, (-2), 9999),
  .inr (3, [(2, 132, 0), (2, 134, 0), (0, 0, 20), (0, 0, 1)]),
  .inr (2, [(2, 133, 0)]),
  .inl (0, 288, (-2), 9999),
  .inr (2, [(2, 135, 0)]),
  .inl (0, 288, (-2), 9999),
  .inr (3, [(2, 137, 0), (2, 139, 0), (0, 0, 20), (0, 0, 1)]),
  .inr (2, [(2, 138, 0)]),
  .inl (0, 288, (-2), 9999),
  .inr (2, [(2, 140, 0)]),
  .inl (0, 288, (-2), 9999),
  .inr (12, [(0, 0, 1), (2, 142, 0), (0, 0, 1000), (0, 0, 1000), (2, 143, 0), (2, 144, 0), (2, 145, 0), (0, 0, 1001), (0, (-2147483648), 2147483647), (2, 146, 0), (2, 147, 0), (2, 148, 0), (2, 149, 0), (2, 150, 0), (2, 151, 0), (0, 0, 10), (2, 152, 0), (2, 153, 0), (2, 154, 0), (2, 155, 0), (2, 156, 0), (2, 157, 0), (2, 158, 0), (2, 159, 0), (1, 0, 0), (4, 0, 1099511627776), (1, 0, 0), (4, 0, 24), (1, 0, 0), (4, 0, 24), (2, 160, 0), (2, 161, 0), (0, 0, 1100), (2, 162, 0), (2, 163, 0), (2, 164, 0), (2, 165, 0), (2, 166, 0), (2, 167, 0), (2, 168, 0), (2, 169, 0), (0, 0, 20), (2, 170, 0), (2, 171, 0), (2, 172, 0), (0, 0, 1), (2, 173, 0), (2, 174, 0), (2, 175, 0), (2, 176, 0), (2, 177, 0), (2, 178, 0), (2, 179, 0), (2, 180, 0), (2, 181, 0), (2, 182, 0), (2, 183, 0), (2, 184, 0)]),
  .inl (0, 1000, 0, 126),
  .inl (0, 1002, 0, 4),
  .inl (0, 1002, 0, 1000),
  .inl (3, 1002, (-2147483648), 2147483647),
  .inl (3, 28, (-2147483648), 2147483647),
  .inl (1, 24, 0, 1),
  .inl (0, 24, 0, 1),
  .inl (0, 24, 0, 999),
  .inl (0, 24, 0, 99),
  .inl (1, 24, 0, 1),
  .inl (0, 24, 0, 999),
  .inl (0, 24, (-99), 99),
  .inl (0, 288, 0, 99),
  .inl (0, 288, 0, 99),
  .inl (0, 288, 0, 99),
  .inl (0, 288, 0, 99),
  .inl (0, 288, 0, 99),
  .inl (0, 288, 0, 99),
  .inl (0, 24, (-2147483648), 2147483647),
  .inl (0, 20, (-1), 1100),
  .inl (0, 9900, 0, 10),
  .inl (0, 9900, (-2147483648), 2147483647),
  .inl (0, 9, 0, 27),
  .inl (0, 10, (-2147483648), 2147483647),
  .inl (0, 1100, (-2147483648), 2147483647),
  .inl (0, 288, 0, 99),
  .inl (0, 288, 0, 99),
  .inl (1, 288, 0, 1),
  .inl (0, 20, (-9999), 9999),
  .inl (0, 20, 0, 999),
  .inl (1, 20, 0, 1),
  .inl (0, 4, (-1), 1100),
  .inl (0, 4, 0, 11),
  .inl (0, 4, 0, 11),
  .inl (0, 4, (-1), 10),
  .inl (0, 4, (-1), 1100),
  .inl (0, 288, 0, 999),
  .inl (0, 288, 0, 99999),
  .inl (0, 9, (-2147483648), 2147483647),
  .inl (0, 9, (-2147483648), 2147483647),
  .inl (1, 4, 0, 1),
  .inl (0, 4, 0, 20),
  .inl (0, 6912, 0, 99),
  .inl (3, 1, (-2147483648), 2147483647)]
def pw_l (a : Int) : Value := .long (Int64.ofInt a)
def pw_ints (l : List Value) : Prop := ∀ (j : Nat) (v : Value), l[j]? = some v → ∃ x : Int32, v = .int x
def pw_vk (h : pm_H) (sp : pw_F) (v : Value) : Prop := match sp.1 with
  | 0 => ∃ a : Int, v = pw_i a ∧ sp.2.1 ≤ a ∧ a ≤ sp.2.2 ∧ -2147483648 ≤ a ∧ a ≤ 2147483647
  | 1 => ∃ w : Int64, v = .long w
  | 2 => v = .ref sp.2.1.toNat
  | 4 => ∃ a : Int, v = pw_l a ∧ sp.2.1 ≤ a ∧ a ≤ sp.2.2 ∧ -4611686018427387904 ≤ a ∧ a ≤ 4611686018427387904
  | _ => ∃ (c : Nat) (l : List Value), v = .ref (16 + c) ∧ h[c]? = some (.inl (0, l)) ∧ l.length ≤ 1000 ∧ pw_ints l
def pw_ve (t : Nat) (lo hi : Int) (j : Nat) (v : Value) : Prop := match t with
  | 0 => ∃ a : Int, v = pw_i a ∧ lo ≤ a ∧ a ≤ hi ∧ -2147483648 ≤ a ∧ a ≤ 2147483647
  | 1 => ∃ a : Int, v = pw_i a ∧ lo ≤ a ∧ a ≤ hi ∧ -2147483648 ≤ a ∧ a ≤ 2147483647
  | 2 => ∃ a : Int, v = pw_i a ∧ lo ≤ a ∧ a ≤ hi ∧ -2147483648 ≤ a ∧ a ≤ 2147483647
  | 3 => ∃ w : Int64, v = .long w
  | _ => v = .ref (lo + hi * j).toNat
def pw_ok (h : pm_H) (s : pw_S) (q : pm_C) : Prop := match s, q with
  | .inl (t, n, lo, hi), .inl (t', l) => t' = t ∧ l.length = n ∧ ∀ (j : Nat) (v : Value), l[j]? = some v → pw_ve t lo hi j v
  | .inr (ci, sps), .inr (cj, fs) => cj = ci ∧ fs.length = sps.length ∧ ∀ (k : Nat) (sp : pw_F) (v : Value), sps[k]? = some sp → fs[k]? = some v → pw_vk h sp v
  | _, _ => False
/-- what holds of the heap between two instructions -/
def pw_I (h : pm_H) : Prop := (∀ (c : Nat) (s : pw_S), pw_T[c]? = some s → ∃ q, h[c]? = some q ∧ pw_ok h s q) ∧ pm_scH h = true
/-- what stands in a cell's place -/
def pw_at (h : pm_H) (c k : Nat) : Option Value := match h[c]? with
  | some (.inl q) => q.2[k]?
  | some (.inr q) => q.2[k]?
  | none => none
def pw_iv (v : Option Value) : Int := match v with
  | some (.int x) => x.toInt
  | _ => 0
def pw_lv (v : Option Value) : Int64 := match v with
  | some (.long x) => x
  | _ => 0
def pw_g (h : pm_H) (c k : Nat) : Int := pw_iv (pw_at h c k)
def pw_gl (h : pm_H) (c k : Nat) : Int64 := pw_lv (pw_at h c k)
def pw_w (h : pm_H) (c k : Nat) (v : Value) : pm_H := match h[c]? with
  | some (.inl q) => h.set c (.inl (q.1, q.2.set k v))
  | some (.inr q) => h.set c (.inr (q.1, q.2.set k v))
  | none => h
/-- the model's fields that are looked after one by one: taped 2, ofTen 15, riversMany 41; in W they are 1000 and more -/
def pw_pf (k : Nat) : Prop := k = 2 ∨ k = 15 ∨ k = 41
/-- nothing has changed but the cells W; no cell is new, and none has another size -/
def pw_E (W : List Nat) (h h' : pm_H) : Prop := (h'.length = h.length ∧ pm_slt h' = pm_slt h) ∧ (∀ c : Nat, c < h.length → c ∉ W → h'[c]? = h[c]?) ∧ ∀ k : Nat, pw_pf k → 1000 + k ∉ W → pw_at h' 125 k = pw_at h 125 k
theorem pw_E.rf (W : List Nat) (h : pm_H) : pw_E W h h := ⟨⟨rfl, rfl⟩, fun _ _ _ => rfl, fun _ _ _ => rfl⟩
theorem pw_E.tr {W : List Nat} {a b c : pm_H} (h1 : pw_E W a b) (h2 : pw_E W b c) : pw_E W a c := ⟨⟨h2.1.1.trans h1.1.1, h2.1.2.trans h1.1.2⟩, fun q hq hn => (h2.2.1 q (by rw [h1.1.1]; exact hq) hn).trans (h1.2.1 q hq hn), fun k hk hn => (h2.2.2 k hk hn).trans (h1.2.2 k hk hn)⟩
theorem pw_E.wk {W W' : List Nat} {a b : pm_H} (h1 : pw_E W a b) (hs : W.all (fun c => W'.contains c) = true) : pw_E W' a b := ⟨h1.1, fun q hq hn => h1.2.1 q hq fun hm => hn (by
  have := List.all_eq_true.mp hs q hm
  exact List.contains_iff_mem.mp this), fun k hk hn => h1.2.2 k hk fun hm => hn (by
  have := List.all_eq_true.mp hs _ hm
  exact List.contains_iff_mem.mp this)⟩
theorem pw_E.at {W : List Nat} {a b : pm_H} (h1 : pw_E W a b) {c : Nat} (hc : c < a.length) (hn : W.contains c = false) (k : Nat) : pw_at b c k = pw_at a c k := by
  unfold pw_at
  rw [h1.2.1 c hc (fun hm => by
    have := List.contains_iff_mem.mpr hm
    rw [hn] at this; cases this)]
/-- one of those fields, where W has it not -/
theorem pw_Ef {W : List Nat} {h h' : pm_H} (E : pw_E W h h') {k : Nat} (hk : pw_pf k) (hn : W.contains (1000 + k) = false) : pw_g h' 125 k = pw_g h 125 k := congrArg pw_iv (E.2.2 k hk (fun hm => by
  have := List.contains_iff_mem.mpr hm
  rw [hn] at this; cases this))
/-- a field that isn't looked after by itself -/
def pw_np (c k : Nat) : Bool := cond (Nat.beq k 2 || (Nat.beq k 15 || Nat.beq k 41)) (!Nat.beq c 125) true
theorem pw_iv_i {a : Int} (h1 : -2147483648 ≤ a) (h2 : a ≤ 2147483647) : pw_iv (some (pw_i a)) = a := pw_toInt h1 h2
theorem pw_cellI {h : pm_H} {c a : Nat} {q : pm_C} (hc : h[c]? = some q) (ha : 16 + c = a) : pm_cell h a = some q := by
  subst ha
  unfold pm_cell
  have : Nat.blt (16 + c) 16 = false := by
    cases hb : Nat.blt (16 + c) 16 with
    | false => rfl
    | true => have := pm_blt hb; omega
  rw [this, cond_false, pm_nth_eq, Nat.add_sub_cancel_left]
  exact hc
theorem pw_rowI {X : List (Nat × List Value)} {h : pm_H} {c a : Nat} {q : Nat × List Value} (hc : h[c]? = some (.inl q)) (ha : 16 + c = a) : pm_row X h a = some q := by
  subst ha
  unfold pm_row
  have : Nat.blt (16 + c) 16 = false := by
    cases hb : Nat.blt (16 + c) 16 with
    | false => rfl
    | true => have := pm_blt hb; omega
  rw [this, cond_false, pm_nth_eq, Nat.add_sub_cancel_left, hc]
theorem pw_obj {h : pm_H} {c ci : Nat} {sps : List pw_F} (I : pw_I h) (hs : pw_T[c]? = some (.inr (ci, sps))) : ∃ fs, h[c]? = some (.inr (ci, fs)) ∧ fs.length = sps.length ∧ ∀ (k : Nat) (sp : pw_F) (v : Value), sps[k]? = some sp → fs[k]? = some v → pw_vk h sp v := by
  obtain ⟨q, h1, h2⟩ := I.1 c _ hs
  match q, h1, h2 with
  | .inr (cj, fs), h1, h2 =>
    obtain ⟨rfl, e2, e3⟩ := h2
    exact ⟨fs, h1, e2, e3⟩
theorem pw_arr {h : pm_H} {c t n : Nat} {lo hi : Int} (I : pw_I h) (hs : pw_T[c]? = some (.inl (t, n, lo, hi))) : ∃ l, h[c]? = some (.inl (t, l)) ∧ l.length = n ∧ ∀ (j : Nat) (v : Value), l[j]? = some v → pw_ve t lo hi j v := by
  obtain ⟨q, h1, h2⟩ := I.1 c _ hs
  match q, h1, h2 with
  | .inl (cj, l), h1, h2 =>
    obtain ⟨rfl, e2, e3⟩ := h2
    exact ⟨l, h1, e2, e3⟩
theorem pw_fld {h : pm_H} {c ci k : Nat} {sps : List pw_F} {sp : pw_F} (I : pw_I h) (hs : pw_T[c]? = some (.inr (ci, sps))) (hk : sps[k]? = some sp) : ∃ fs v, h[c]? = some (.inr (ci, fs)) ∧ fs[k]? = some v ∧ pw_at h c k = some v ∧ pw_vk h sp v := by
  obtain ⟨fs, h1, h2, h3⟩ := pw_obj I hs
  have hlt : k < fs.length := by rw [h2]; exact (List.getElem?_eq_some_iff.mp hk).1
  refine ⟨fs, fs[k], h1, List.getElem?_eq_getElem hlt, ?_, h3 k sp _ hk (List.getElem?_eq_getElem hlt)⟩
  unfold pw_at
  rw [h1]
  exact List.getElem?_eq_getElem hlt
theorem pw_gI {h : pm_H} {c ci k : Nat} {sps : List pw_F} {lo hi : Int} (I : pw_I h) (hs : pw_T[c]? = some (.inr (ci, sps))) (hk : sps[k]? = some (0, lo, hi)) : lo ≤ pw_g h c k ∧ pw_g h c k ≤ hi ∧ -2147483648 ≤ pw_g h c k ∧ pw_g h c k ≤ 2147483647 := by
  obtain ⟨fs, v, h1, h2, h3, a, rfl, h4, h5, h6, h7⟩ := pw_fld I hs hk
  have e : pw_g h c k = a := by unfold pw_g; rw [h3, pw_iv_i h6 h7]
  rw [e]
  exact ⟨h4, h5, h6, h7⟩
section Ph
variable {X : List (Nat × List Value)} {d : Nat} {h : pm_H} {m pc pc' len na nl own rt : Nat} {C : pm_T (Instr × Nat)} {ls ls' : pm_L} {st st' r : List Value} {Q : pm_H → (Option Value ⊕ Unit) → Prop} {i : Instr}
theorem pw_get0 {ix c ci k t a : Nat} {fs : List Value} {v : Value} (he : pm_ent m = some (na, nl, own, rt, C)) (hq : pm_get C pc = some (.getfield ix, len)) (hl : pm_get (pm_lnk own) ix = some (0, ci, k, t)) (h1 : h[c]? = some (.inr (ci, fs))) (h2 : fs[k]? = some v) (ha : 16 + c = a) (hc : pc + len = pc') (H : pw X d h m pc' ls (v :: r) Q) : pw X d h m pc ls (.ref a :: r) Q := by
  subst hc
  refine pw_ld he hq (st' := v :: r) (pc' := pc + len) (fun ih => ?_) H
  show pm_gGet ix ih d h m own pc len ls (.ref a :: r) = _
  unfold pm_gGet
  dsimp only
  rw [hl, pw_cellI h1 ha]
  show cond (Nat.beq ci ci) (match pm_nth fs k with
        | some v => pm_fn (pc + len) fun q => ih d h m q ls (v :: r)
        | none => none) none = _
  rw [Nat.beq_refl, cond_true, pm_nth_eq, h2]
  show (pm_fn (pc + len) fun q => ih d h m q ls (v :: r)) = _
  rw [pm_fn_eq]
theorem pw_getI {ix c ci k t a : Nat} {sps : List pw_F} {lo hi : Int} (I : pw_I h) (he : pm_ent m = some (na, nl, own, rt, C)) (hq : pm_get C pc = some (.getfield ix, len)) (hl : pm_get (pm_lnk own) ix = some (0, ci, k, t)) (hs : pw_T[c]? = some (.inr (ci, sps))) (hk : sps[k]? = some (0, lo, hi)) (ha : 16 + c = a) (hc : pc + len = pc') (H : lo ≤ pw_g h c k → pw_g h c k ≤ hi → -2147483648 ≤ pw_g h c k → pw_g h c k ≤ 2147483647 → pw X d h m pc' ls (pw_i (pw_g h c k) :: r) Q) : pw X d h m pc ls (.ref a :: r) Q := by
  obtain ⟨fs, v, h1, h2, h3, b, rfl, h4, h5, h6, h7⟩ := pw_fld I hs hk
  have e : pw_g h c k = b := by unfold pw_g; rw [h3, pw_iv_i h6 h7]
  rw [e] at H
  exact pw_get0 he hq hl h1 h2 ha hc (H h4 h5 h6 h7)
theorem pw_getL {ix c ci k t a : Nat} {sps : List pw_F} {lo hi : Int} (I : pw_I h) (he : pm_ent m = some (na, nl, own, rt, C)) (hq : pm_get C pc = some (.getfield ix, len)) (hl : pm_get (pm_lnk own) ix = some (0, ci, k, t)) (hs : pw_T[c]? = some (.inr (ci, sps))) (hk : sps[k]? = some (1, lo, hi)) (ha : 16 + c = a) (hc : pc + len = pc') (H : pw X d h m pc' ls (.long (pw_gl h c k) :: r) Q) : pw X d h m pc ls (.ref a :: r) Q := by
  obtain ⟨fs, v, h1, h2, h3, w, rfl⟩ := pw_fld I hs hk
  have e : pw_gl h c k = w := by unfold pw_gl; rw [h3]; rfl
  rw [e] at H
  exact pw_get0 he hq hl h1 h2 ha hc H
theorem pw_getR {ix c ci k t a b : Nat} {sps : List pw_F} {lo hi : Int} (I : pw_I h) (he : pm_ent m = some (na, nl, own, rt, C)) (hq : pm_get C pc = some (.getfield ix, len)) (hl : pm_get (pm_lnk own) ix = some (0, ci, k, t)) (hs : pw_T[c]? = some (.inr (ci, sps))) (hk : sps[k]? = some (2, lo, hi)) (ha : 16 + c = a) (hb : lo.toNat = b) (hc : pc + len = pc') (H : pw X d h m pc' ls (.ref b :: r) Q) : pw X d h m pc ls (.ref a :: r) Q := by
  obtain ⟨fs, v, h1, h2, h3, hv⟩ := pw_fld I hs hk
  have hv : v = .ref lo.toNat := hv
  rw [hb] at hv
  subst hv
  exact pw_get0 he hq hl h1 h2 ha hc H
theorem pw_veI {t : Nat} {lo hi : Int} {j : Nat} {v : Value} (ht : t < 3) (h : pw_ve t lo hi j v) : ∃ a : Int, v = pw_i a ∧ lo ≤ a ∧ a ≤ hi ∧ -2147483648 ≤ a ∧ a ≤ 2147483647 := by
  match t, ht, h with
  | 0, _, h => exact h
  | 1, _, h => exact h
  | 2, _, h => exact h
theorem pw_el {c t n : Nat} {lo hi : Int} {j : Int} (I : pw_I h) (hs : pw_T[c]? = some (.inl (t, n, lo, hi))) (h0 : 0 ≤ j) (h1 : j < n) : ∃ l v, h[c]? = some (.inl (t, l)) ∧ l[j.toNat]? = some v ∧ pw_at h c j.toNat = some v ∧ pw_ve t lo hi j.toNat v := by
  obtain ⟨l, e1, e2, e3⟩ := pw_arr I hs
  have hlt : j.toNat < l.length := by omega
  refine ⟨l, l[j.toNat], e1, List.getElem?_eq_getElem hlt, ?_, e3 _ _ (List.getElem?_eq_getElem hlt)⟩
  unfold pw_at
  rw [e1]
  exact List.getElem?_eq_getElem hlt
theorem pw_gA {c t n : Nat} {lo hi : Int} {j : Int} (I : pw_I h) (hs : pw_T[c]? = some (.inl (t, n, lo, hi))) (ht : t < 3) (h0 : 0 ≤ j) (h1 : j < n) : lo ≤ pw_g h c j.toNat ∧ pw_g h c j.toNat ≤ hi ∧ -2147483648 ≤ pw_g h c j.toNat ∧ pw_g h c j.toNat ≤ 2147483647 := by
  obtain ⟨l, v, e1, e2, e3, e4⟩ := pw_el I hs h0 h1
  obtain ⟨a, rfl, h4, h5, h6, h7⟩ := pw_veI ht e4
  have e : pw_g h c j.toNat = a := by unfold pw_g; rw [e3, pw_iv_i h6 h7]
  rw [e]
  exact ⟨h4, h5, h6, h7⟩
theorem pw_ald {c t t' n a : Nat} {lo hi : Int} {j : Int} (I : pw_I h) (he : pm_ent m = some (na, nl, own, rt, C)) (hq : pm_get C pc = some (i, len)) (hdi : pm_dsp X i = pm_gAld X t t') (hs : pw_T[c]? = some (.inl (t, n, lo, hi))) (ht : t < 3) (ha : 16 + c = a) (hn : n ≤ 2147483647) (h0 : 0 ≤ j) (h1 : j < n) (hc : pc + len = pc') (H : lo ≤ pw_g h c j.toNat → pw_g h c j.toNat ≤ hi → -2147483648 ≤ pw_g h c j.toNat → pw_g h c j.toNat ≤ 2147483647 → pw X d h m pc' ls (pw_i (pw_g h c j.toNat) :: r) Q) : pw X d h m pc ls (pw_i j :: .ref a :: r) Q := by
  subst hc
  obtain ⟨l, v, e1, e2, e3, e4⟩ := pw_el I hs h0 h1
  obtain ⟨b, rfl, h4, h5, h6, h7⟩ := pw_veI ht e4
  have e : pw_g h c j.toNat = b := by unfold pw_g; rw [e3, pw_iv_i h6 h7]
  rw [e] at H
  refine pw_ld he hq (st' := pw_i b :: r) (pc' := pc + len) (fun ih => ?_) (H h4 h5 h6 h7)
  rw [hdi]
  unfold pm_gAld pw_i
  dsimp only
  rw [pw_rowI e1 ha]
  show cond (Nat.beq t t || Nat.beq t t') (cond (decide (Int32.ofInt j < 0)) none (match pm_nth l (Int32.ofInt j).toNatClampNeg with
        | some (.int x) => pm_fn (pc + len) fun q => ih d h m q ls (.int x :: r)
        | _ => none)) none = _
  rw [Nat.beq_refl, Bool.true_or, cond_true, decide_eq_false (pw_neg h0 (by omega)), cond_false, pw_clamp h0 (by omega), pm_nth_eq, e2]
  show pm_fn (pc + len) _ = _
  rw [pm_fn_eq]
theorem pw_lald {c n a : Nat} {lo hi : Int} {j : Int} (I : pw_I h) (he : pm_ent m = some (na, nl, own, rt, C)) (hq : pm_get C pc = some (.laload, len)) (hs : pw_T[c]? = some (.inl (3, n, lo, hi))) (ha : 16 + c = a) (hn : n ≤ 2147483647) (h0 : 0 ≤ j) (h1 : j < n) (hc : pc + len = pc') (H : pw X d h m pc' ls (.long (pw_gl h c j.toNat) :: r) Q) : pw X d h m pc ls (pw_i j :: .ref a :: r) Q := by
  subst hc
  obtain ⟨l, v, e1, e2, e3, w, rfl⟩ := pw_el I hs h0 h1
  have e : pw_gl h c j.toNat = w := by unfold pw_gl; rw [e3]; rfl
  rw [e] at H
  refine pw_ld he hq (st' := .long w :: r) (pc' := pc + len) (fun ih => ?_) H
  show pm_gLald X ih d h m own pc len ls (pw_i j :: .ref a :: r) = _
  unfold pm_gLald pw_i
  dsimp only
  rw [pw_rowI e1 ha]
  show cond (Nat.beq 3 3) (cond (decide (Int32.ofInt j < 0)) none (match pm_nth l (Int32.ofInt j).toNatClampNeg with
        | some (.long x) => pm_fn (pc + len) fun q => ih d h m q ls (.long x :: r)
        | _ => none)) none = _
  rw [Nat.beq_refl, cond_true, decide_eq_false (pw_neg h0 (by omega)), cond_false, pw_clamp h0 (by omega), pm_nth_eq, e2]
  show pm_fn (pc + len) _ = _
  rw [pm_fn_eq]
theorem pw_aald {c t n a b : Nat} {lo hi : Int} {j : Int} (I : pw_I h) (he : pm_ent m = some (na, nl, own, rt, C)) (hq : pm_get C pc = some (.aaload, len)) (hs : pw_T[c]? = some (.inl (t, n, lo, hi))) (ht : t = 8 ∨ t = 12) (ha : 16 + c = a) (hn : n ≤ 2147483647) (h0 : 0 ≤ j) (h1 : j < n) (hb : (lo + hi * j.toNat).toNat = b) (hc : pc + len = pc') (H : pw X d h m pc' ls (.ref b :: r) Q) : pw X d h m pc ls (pw_i j :: .ref a :: r) Q := by
  subst hc
  obtain ⟨l, v, e1, e2, e3, e4⟩ := pw_el I hs h0 h1
  have hv : v = .ref b := by
    rw [← hb]
    rcases ht with rfl | rfl <;> exact e4
  subst hv
  refine pw_ld he hq (st' := .ref b :: r) (pc' := pc + len) (fun ih => ?_) H
  show pm_gAald ih d h m own pc len ls (pw_i j :: .ref a :: r) = _
  unfold pm_gAald pw_i
  dsimp only
  rw [pw_cellI e1 ha]
  show cond (Nat.beq t 8 || Nat.beq t 12) (cond (decide (Int32.ofInt j < 0)) none (match pm_nth l (Int32.ofInt j).toNatClampNeg with
        | some (.ref x) => pm_fn (pc + len) fun q => ih d h m q ls (.ref x :: r)
        | _ => none)) none = _
  have e8 : (Nat.beq t 8 || Nat.beq t 12) = true := by rcases ht with rfl | rfl <;> rfl
  rw [e8, cond_true, decide_eq_false (pw_neg h0 (by omega)), cond_false, pw_clamp h0 (by omega), pm_nth_eq, e2]
  show pm_fn (pc + len) _ = _
  rw [pm_fn_eq]
theorem pw_alen {t a : Nat} {l : List Value} (he : pm_ent m = some (na, nl, own, rt, C)) (hq : pm_get C pc = some (.arraylength, len)) (hr : pm_row X h a = some (t, l)) (ht : pm_okt t = true) (hc : pc + len = pc') (H : pw X d h m pc' ls (pw_i (l.length : Int) :: r) Q) : pw X d h m pc ls (.ref a :: r) Q := by
  subst hc
  refine pw_ld he hq (st' := pw_i (l.length : Int) :: r) (pc' := pc + len) (fun ih => ?_) H
  show pm_gLen X ih d h m own pc len ls (.ref a :: r) = _
  unfold pm_gLen
  dsimp only
  rw [hr]
  show cond (pm_okt t) (pm_fn (pm_len l) fun z => pm_fn (pc + len) fun q => ih d h m q ls (.int (Int32.ofNat z) :: r)) none = _
  rw [ht, cond_true, pm_fn_eq, pm_fn_eq, pm_len_eq]
  rfl
end Ph
end
section
/-! writes: what holds of the heap stays -/
theorem pw_scH_set {h : pm_H} {c : Nat} {q : pm_C} (h1 : pm_scH h = true) (h2 : pm_scc (16 + h.length) q = true) : pm_scH (h.set c q) = true := by
  unfold pm_scH at h1 ⊢
  rw [pm_all_eq, List.all_eq_true, pm_len_eq] at h1
  rw [pm_all_eq, List.all_eq_true, pm_len_eq, List.length_set]
  intro x hx
  rcases List.mem_or_eq_of_mem_set hx with g | g
  · exact h1 x g
  · rw [g]; exact h2
def pw_sh (q q' : pm_C) : Prop := ∀ (t : Nat) (l : List Value), q = .inl (t, l) → ∃ l', q' = .inl (t, l') ∧ l'.length = l.length ∧ (t = 0 → pw_ints l')
theorem pw_vk_set {h : pm_H} {c : Nat} {q q' : pm_C} (hc : h[c]? = some q) (hs : pw_sh q q') {sp : pw_F} {v : Value} (hv : pw_vk h sp v) : pw_vk (h.set c q') sp v := by
  obtain ⟨k, lo, hi⟩ := sp
  have key : (∃ (c : Nat) (l : List Value), v = .ref (16 + c) ∧ h[c]? = some (.inl (0, l)) ∧ l.length ≤ 1000 ∧ pw_ints l) → ∃ (c2 : Nat) (l : List Value), v = .ref (16 + c2) ∧ (h.set c q')[c2]? = some (.inl (0, l)) ∧ l.length ≤ 1000 ∧ pw_ints l := by
    rintro ⟨c2, l, e1, e2, e3⟩
    by_cases hcc : c = c2
    · subst hcc
      have : q = .inl (0, l) := Option.some.inj (hc.symm.trans e2)
      obtain ⟨l', g1, g2, g3⟩ := hs 0 l this
      exact ⟨c, l', e1, by rw [List.getElem?_set_self (List.getElem?_eq_some_iff.mp hc).1, g1], by omega, g3 rfl⟩
    · exact ⟨c2, l, e1, by rw [List.getElem?_set_ne hcc]; exact e2, e3⟩
  match k, hv with
  | 0, hv => exact hv
  | 1, hv => exact hv
  | 2, hv => exact hv
  | 4, hv => exact hv
  | 3, hv => exact key hv
  | k + 5, hv => exact key hv
theorem pw_ok_set {h : pm_H} {c : Nat} {q q' : pm_C} (hc : h[c]? = some q) (hs : pw_sh q q') {s : pw_S} {x : pm_C} (hv : pw_ok h s x) : pw_ok (h.set c q') s x := by
  match s, x, hv with
  | .inl _, .inl _, hv => exact hv
  | .inr (ci, sps), .inr (cj, fs), hv => exact ⟨hv.1, hv.2.1, fun k sp v g1 g2 => pw_vk_set hc hs (hv.2.2 k sp v g1 g2)⟩
theorem pw_I.set {h : pm_H} {c : Nat} {q q' : pm_C} (I : pw_I h) (hc : h[c]? = some q) (hs : pw_sh q q') (hok : ∀ s, pw_T[c]? = some s → pw_ok h s q') (hsc : pm_scc (16 + h.length) q' = true) : pw_I (h.set c q') := by
  refine ⟨fun c' s hT => ?_, pw_scH_set I.2 hsc⟩
  by_cases hcc : c = c'
  · subst hcc
    exact ⟨q', List.getElem?_set_self (List.getElem?_eq_some_iff.mp hc).1, pw_ok_set hc hs (hok s hT)⟩
  · obtain ⟨x, g1, g2⟩ := I.1 c' s hT
    exact ⟨x, by rw [List.getElem?_set_ne hcc]; exact g1, pw_ok_set hc hs g2⟩
theorem pw_E_set {h : pm_H} {c : Nat} {q0 q : pm_C} (hk : h[c]? = some q0) (hz : pm_sz q = pm_sz q0) (hp : ∀ k : Nat, pw_pf k → pw_at (h.set c q) 125 k = pw_at h 125 k) : pw_E [c] h (h.set c q) := by
  refine ⟨⟨List.length_set, pm_slt_set hk hz⟩, fun c' _ hn => ?_, fun k hk _ => hp k hk⟩
  rw [List.getElem?_set_ne]
  intro e
  exact hn (by rw [e]; exact List.mem_singleton.mpr rfl)
theorem pw_at_cell {h : pm_H} {c : Nat} {q : pm_C} (hc : c ≠ 125) (k : Nat) : pw_at (h.set c q) 125 k = pw_at h 125 k := by
  unfold pw_at
  rw [List.getElem?_set_ne hc]
theorem pw_c125 {c t n : Nat} {lo hi : Int} (hs : pw_T[c]? = some (.inl (t, n, lo, hi))) : c ≠ 125 := by
  rintro rfl
  cases hs
theorem pw_at_fld {h : pm_H} {c ci k j : Nat} {fs : List Value} {v : Value} (hc : h[c]? = some (.inr (ci, fs))) (hn : ¬ (c = 125 ∧ j = k)) : pw_at (h.set c (.inr (ci, fs.set j v))) 125 k = pw_at h 125 k := by
  rcases (by omega : c ≠ 125 ∨ c = 125) with e | e
  · exact pw_at_cell e k
  · subst e
    have hj : j ≠ k := fun q => hn ⟨rfl, q⟩
    unfold pw_at
    rw [List.getElem?_set_self (List.getElem?_eq_some_iff.mp hc).1, hc]
    show (fs.set j v)[k]? = fs[k]?
    rw [List.getElem?_set_ne hj]
theorem pw_np_ne {c j k : Nat} (hp : pw_np c j = true) (hk : pw_pf k) : ¬ (c = 125 ∧ j = k) := by
  rintro ⟨rfl, rfl⟩
  rcases hk with rfl | rfl | rfl <;> cases hp
theorem pw_w_arr {h : pm_H} {c t k : Nat} {l : List Value} {v : Value} (hc : h[c]? = some (.inl (t, l))) : pw_w h c k v = h.set c (.inl (t, l.set k v)) := by
  unfold pw_w
  rw [hc]
theorem pw_w_obj {h : pm_H} {c t k : Nat} {l : List Value} {v : Value} (hc : h[c]? = some (.inr (t, l))) : pw_w h c k v = h.set c (.inr (t, l.set k v)) := by
  unfold pw_w
  rw [hc]
theorem pw_some_lt {l : List Value} {k : Nat} (hs : (l[k]?).isSome = true) : k < l.length := by
  cases hz : l[k]? with
  | none => rw [hz] at hs; cases hs
  | some x => exact (List.getElem?_eq_some_iff.mp hz).1
/-- what a write leaves -/
theorem pw_at_w {h : pm_H} {c k : Nat} {v : Value} (hs : (pw_at h c k).isSome = true) (c' k' : Nat) : pw_at (pw_w h c k v) c' k' = if c = c' ∧ k = k' then some v else pw_at h c' k' := by
  unfold pw_at at hs
  cases hc : h[c]? with
  | none => rw [hc] at hs; cases hs
  | some q =>
    rw [hc] at hs
    have hlt := (List.getElem?_eq_some_iff.mp hc).1
    match q, hc, hs with
    | .inl (t, l), hc, hs =>
      rw [pw_w_arr hc]
      unfold pw_at
      by_cases hcc : c = c'
      · subst hcc
        rw [List.getElem?_set_self hlt, hc]
        show (l.set k v)[k']? = if c = c ∧ k = k' then some v else l[k']?
        by_cases hk : k = k'
        · subst hk
          have hs : (l[k]?).isSome = true := hs
          have hk : k < l.length := pw_some_lt hs
          rw [if_pos ⟨rfl, rfl⟩, List.getElem?_set_self hk]
        · rw [if_neg (fun h => hk h.2), List.getElem?_set_ne hk]
      · rw [List.getElem?_set_ne hcc, if_neg (fun h => hcc h.1)]
    | .inr (t, l), hc, hs =>
      rw [pw_w_obj hc]
      unfold pw_at
      by_cases hcc : c = c'
      · subst hcc
        rw [List.getElem?_set_self hlt, hc]
        show (l.set k v)[k']? = if c = c ∧ k = k' then some v else l[k']?
        by_cases hk : k = k'
        · subst hk
          have hs : (l[k]?).isSome = true := hs
          have hk : k < l.length := pw_some_lt hs
          rw [if_pos ⟨rfl, rfl⟩, List.getElem?_set_self hk]
        · rw [if_neg (fun h => hk h.2), List.getElem?_set_ne hk]
      · rw [List.getElem?_set_ne hcc, if_neg (fun h => hcc h.1)]
theorem pw_scc_arr {n t : Nat} {l : List Value} (ht : t < 5) : pm_scc n (.inl (t, l)) = true := by
  show cond (Nat.blt t 5) true (pm_all (pm_scv n) l) = true
  rw [show Nat.blt t 5 = true from Nat.ble_eq_true_of_le ht, cond_true]
theorem pw_Iw {h : pm_H} {c t n k : Nat} {lo hi : Int} {v : Value} (I : pw_I h) (hs : pw_T[c]? = some (.inl (t, n, lo, hi))) (ht : t < 5) (hv : pw_ve t lo hi k v) : pw_I (pw_w h c k v) ∧ pw_E [c] h (pw_w h c k v) := by
  obtain ⟨l, e1, e2, e3⟩ := pw_arr I hs
  rw [pw_w_arr e1]
  have hall : ∀ (j : Nat) (x : Value), (l.set k v)[j]? = some x → pw_ve t lo hi j x := by
    intro j x hx
    by_cases hk : k = j
    · subst hk
      rw [List.getElem?_set_self (by have := (List.getElem?_eq_some_iff.mp hx).1; rw [List.length_set] at this; exact this)] at hx
      cases hx
      exact hv
    · rw [List.getElem?_set_ne hk] at hx
      exact e3 j x hx
  refine ⟨I.set e1 (fun t' l' g => ?_) (fun s g => ?_) (pw_scc_arr ht), pw_E_set e1 List.length_set (fun k _ => pw_at_cell (pw_c125 hs) k)⟩
  · cases g
    refine ⟨_, rfl, List.length_set, ?_⟩
    rintro rfl
    exact fun j x hx => by
      obtain ⟨a, rfl, -⟩ := hall j x hx
      exact ⟨_, rfl⟩
  · cases hs.symm.trans g
    exact ⟨rfl, by rw [List.length_set]; exact e2, hall⟩
theorem pw_scv_fld {h : pm_H} {c ci : Nat} {fs : List Value} (I : pw_I h) (hc : h[c]? = some (.inr (ci, fs))) : ∀ v ∈ fs, pm_scv (16 + h.length) v = true := by
  have h1 := I.2
  unfold pm_scH at h1
  rw [pm_all_eq, List.all_eq_true, pm_len_eq] at h1
  have h2 : pm_all (pm_scv (16 + h.length)) fs = true := h1 _ (List.mem_of_getElem? hc)
  rw [pm_all_eq, List.all_eq_true] at h2
  exact h2
theorem pw_Iwf {h : pm_H} {c ci k : Nat} {sps : List pw_F} {sp : pw_F} {v : Value} (I : pw_I h) (hs : pw_T[c]? = some (.inr (ci, sps))) (hk : sps[k]? = some sp) (hv : pw_vk h sp v) (hr : pm_scv (16 + h.length) v = true) (hp : pw_np c k = true) : pw_I (pw_w h c k v) ∧ pw_E [c] h (pw_w h c k v) := by
  obtain ⟨fs, e1, e2, e3⟩ := pw_obj I hs
  rw [pw_w_obj e1]
  refine ⟨I.set e1 (fun t' l' g => by cases g) (fun s g => ?_) ?_, pw_E_set e1 List.length_set (fun j hj => pw_at_fld e1 (pw_np_ne hp hj))⟩
  · cases hs.symm.trans g
    refine ⟨rfl, by rw [List.length_set]; exact e2, fun j sp' x h1 hx => ?_⟩
    by_cases hkj : k = j
    · subst hkj
      rw [List.getElem?_set_self (by have := (List.getElem?_eq_some_iff.mp hx).1; rw [List.length_set] at this; exact this)] at hx
      cases hx
      cases hk.symm.trans h1
      exact hv
    · rw [List.getElem?_set_ne hkj] at hx
      exact e3 j sp' x h1 hx
  · show pm_all (pm_scv (16 + h.length)) (fs.set k v) = true
    rw [pm_all_eq, List.all_eq_true]
    intro x hx
    rcases List.mem_or_eq_of_mem_set hx with g | g
    · exact pw_scv_fld I e1 x g
    · rw [g]; exact hr
section Pv
variable {X : List (Nat × List Value)} {d : Nat} {h : pm_H} {m pc pc' len na nl own rt : Nat} {C : pm_T (Instr × Nat)} {ls ls' : pm_L} {st st' r : List Value} {Q : pm_H → (Option Value ⊕ Unit) → Prop} {i : Instr}
theorem pw_ast0 {c t n a : Nat} {f : Int32 → Int32} {lo hi j b : Int} (I : pw_I h) (he : pm_ent m = some (na, nl, own, rt, C)) (hq : pm_get C pc = some (i, len)) (hdi : pm_dsp X i = pm_gIst t f) (hs : pw_T[c]? = some (.inl (t, n, lo, hi))) (ht : t < 3) (ha : 16 + c = a) (hn : n ≤ 2147483647) (h0 : 0 ≤ j) (h1 : j < n) (hf : f (Int32.ofInt b) = Int32.ofInt b) (hb1 : lo ≤ b) (hb2 : b ≤ hi) (hb3 : -2147483648 ≤ b) (hb4 : b ≤ 2147483647) (hc : pc + len = pc')
    (H : pw_I (pw_w h c j.toNat (pw_i b)) → pw_E [c] h (pw_w h c j.toNat (pw_i b)) → pw X d (pw_w h c j.toNat (pw_i b)) m pc' ls r Q) : pw X d h m pc ls (pw_i b :: pw_i j :: .ref a :: r) Q := by
  subst hc
  obtain ⟨l, e1, e2, e3⟩ := pw_arr I hs
  have hve : pw_ve t lo hi j.toNat (pw_i b) := by
    match t, ht with
    | 0, _ => exact ⟨b, rfl, hb1, hb2, hb3, hb4⟩
    | 1, _ => exact ⟨b, rfl, hb1, hb2, hb3, hb4⟩
    | 2, _ => exact ⟨b, rfl, hb1, hb2, hb3, hb4⟩
  obtain ⟨I2, E2⟩ := pw_Iw I hs (by omega) hve
  refine pw_go he hq (h' := pw_w h c j.toNat (pw_i b)) (pc' := pc + len) (ls' := ls) (st' := r) (fun ih => ?_) (H I2 E2)
  rw [hdi, pw_w_arr e1]
  unfold pm_gIst pw_i
  dsimp only
  rw [pw_cellI e1 ha]
  show cond (Nat.beq t t) (cond (pm_in (Int32.ofInt j) (pm_len l)) (pm_fi (f (Int32.ofInt b)) fun y => pm_fn (pc + len) fun q => ih d (pm_set h (a - 16) (.inl (t, pm_set l (Int32.ofInt j).toNatClampNeg (.int y)))) m q ls r) none) none = _
  have hin : pm_in (Int32.ofInt j) (pm_len l) = true := by
    unfold pm_in
    rw [decide_eq_false (pw_neg h0 (by omega)), cond_false, pw_clamp h0 (by omega), pm_len_eq]
    exact Nat.ble_eq_true_of_le (by omega)
  have ea : a - 16 = c := by omega
  rw [Nat.beq_refl, cond_true, hin, cond_true, pm_fi_eq, pm_fn_eq, hf, pw_clamp h0 (by omega), ea, pm_set_eq, pm_set_eq]
theorem pw_last {c n a : Nat} {lo hi j : Int} {w : Int64} (I : pw_I h) (he : pm_ent m = some (na, nl, own, rt, C)) (hq : pm_get C pc = some (.lastore, len)) (hs : pw_T[c]? = some (.inl (3, n, lo, hi))) (ha : 16 + c = a) (hn : n ≤ 2147483647) (h0 : 0 ≤ j) (h1 : j < n) (hc : pc + len = pc')
    (H : pw_I (pw_w h c j.toNat (.long w)) → pw_E [c] h (pw_w h c j.toNat (.long w)) → pw X d (pw_w h c j.toNat (.long w)) m pc' ls r Q) : pw X d h m pc ls (.long w :: pw_i j :: .ref a :: r) Q := by
  subst hc
  obtain ⟨l, e1, e2, e3⟩ := pw_arr I hs
  obtain ⟨I2, E2⟩ := pw_Iw (k := j.toNat) (v := .long w) I hs (by omega) ⟨w, rfl⟩
  refine pw_go he hq (h' := pw_w h c j.toNat (.long w)) (pc' := pc + len) (ls' := ls) (st' := r) (fun ih => ?_) (H I2 E2)
  rw [pw_w_arr e1]
  show pm_gLst ih d h m own pc len ls (.long w :: pw_i j :: .ref a :: r) = _
  unfold pm_gLst pw_i
  dsimp only
  rw [pw_cellI e1 ha]
  show cond (Nat.beq 3 3) (cond (pm_in (Int32.ofInt j) (pm_len l)) (pm_fl w fun y => pm_fn (pc + len) fun q => ih d (pm_set h (a - 16) (.inl (3, pm_set l (Int32.ofInt j).toNatClampNeg (.long y)))) m q ls r) none) none = _
  have hin : pm_in (Int32.ofInt j) (pm_len l) = true := by
    unfold pm_in
    rw [decide_eq_false (pw_neg h0 (by omega)), cond_false, pw_clamp h0 (by omega), pm_len_eq]
    exact Nat.ble_eq_true_of_le (by omega)
  have ea : a - 16 = c := by omega
  rw [Nat.beq_refl, cond_true, hin, cond_true, pm_fl_eq, pm_fn_eq, pw_clamp h0 (by omega), ea, pm_set_eq, pm_set_eq]
theorem pw_put0 {ix c ci k t a : Nat} {sps : List pw_F} {sp : pw_F} {v : Value} (I : pw_I h) (he : pm_ent m = some (na, nl, own, rt, C)) (hq : pm_get C pc = some (.putfield ix, len)) (hl : pm_get (pm_lnk own) ix = some (0, ci, k, t)) (hs : pw_T[c]? = some (.inr (ci, sps))) (hk : sps[k]? = some sp) (hv : pw_vk h sp v) (hr : pm_scv (16 + h.length) v = true) (hfit : pm_fit t v = true) (ha : 16 + c = a) (hc : pc + len = pc')
    (H : pw_I (pw_w h c k v) → pw_E [c] h (pw_w h c k v) → pw X d (pw_w h c k v) m pc' ls r Q) (hp : pw_np c k = true := by rfl) : pw X d h m pc ls (v :: .ref a :: r) Q := by
  subst hc
  obtain ⟨fs, e1, e2, e3⟩ := pw_obj I hs
  obtain ⟨I2, E2⟩ := pw_Iwf I hs hk hv hr hp
  refine pw_go he hq (h' := pw_w h c k v) (pc' := pc + len) (ls' := ls) (st' := r) (fun ih => ?_) (H I2 E2)
  rw [pw_w_obj e1]
  show pm_gPut ix ih d h m own pc len ls (v :: .ref a :: r) = _
  unfold pm_gPut
  dsimp only
  rw [hl, pw_cellI e1 ha]
  show cond (Nat.beq ci ci) (cond (Nat.blt k (pm_len fs)) (cond (pm_fit t v) (pm_fv v fun v => pm_fn (pc + len) fun q => ih d (pm_set h (a - 16) (.inr (ci, pm_set fs k v))) m q ls r) none) none) none = _
  have hkl : Nat.blt k (pm_len fs) = true := by
    rw [pm_len_eq]
    have := (List.getElem?_eq_some_iff.mp hk).1
    exact Nat.ble_eq_true_of_le (by omega)
  have ea : a - 16 = c := by omega
  rw [Nat.beq_refl, cond_true, hkl, cond_true, hfit, cond_true, pm_fv_eq, pm_fn_eq, ea, pm_set_eq, pm_set_eq]
theorem pw_putI {ix c ci k a : Nat} {sps : List pw_F} {lo hi b : Int} (I : pw_I h) (he : pm_ent m = some (na, nl, own, rt, C)) (hq : pm_get C pc = some (.putfield ix, len)) (hl : pm_get (pm_lnk own) ix = some (0, ci, k, 0)) (hs : pw_T[c]? = some (.inr (ci, sps))) (hk : sps[k]? = some (0, lo, hi)) (h1 : lo ≤ b) (h2 : b ≤ hi) (h3 : -2147483648 ≤ b) (h4 : b ≤ 2147483647) (ha : 16 + c = a) (hc : pc + len = pc')
    (H : pw_I (pw_w h c k (pw_i b)) → pw_E [c] h (pw_w h c k (pw_i b)) → pw X d (pw_w h c k (pw_i b)) m pc' ls r Q) (hp : pw_np c k = true := by rfl) : pw X d h m pc ls (pw_i b :: .ref a :: r) Q := pw_put0 I he hq hl hs hk ⟨b, rfl, h1, h2, h3, h4⟩ rfl rfl ha hc H hp
theorem pw_putZ {ix c ci k a : Nat} {sps : List pw_F} {lo hi b : Int} (I : pw_I h) (he : pm_ent m = some (na, nl, own, rt, C)) (hq : pm_get C pc = some (.putfield ix, len)) (hl : pm_get (pm_lnk own) ix = some (0, ci, k, 1)) (hs : pw_T[c]? = some (.inr (ci, sps))) (hk : sps[k]? = some (0, lo, hi)) (h1 : lo ≤ b) (h2 : b ≤ hi) (h3 : b = 0 ∨ b = 1) (ha : 16 + c = a) (hc : pc + len = pc')
    (H : pw_I (pw_w h c k (pw_i b)) → pw_E [c] h (pw_w h c k (pw_i b)) → pw X d (pw_w h c k (pw_i b)) m pc' ls r Q) (hp : pw_np c k = true := by rfl) : pw X d h m pc ls (pw_i b :: .ref a :: r) Q := pw_put0 I he hq hl hs hk ⟨b, rfl, h1, h2, by omega, by omega⟩ rfl (by rcases h3 with rfl | rfl <;> rfl) ha hc H hp
theorem pw_putL {ix c ci k a : Nat} {sps : List pw_F} {lo hi : Int} {w : Int64} (I : pw_I h) (he : pm_ent m = some (na, nl, own, rt, C)) (hq : pm_get C pc = some (.putfield ix, len)) (hl : pm_get (pm_lnk own) ix = some (0, ci, k, 2)) (hs : pw_T[c]? = some (.inr (ci, sps))) (hk : sps[k]? = some (1, lo, hi)) (ha : 16 + c = a) (hc : pc + len = pc')
    (H : pw_I (pw_w h c k (.long w)) → pw_E [c] h (pw_w h c k (.long w)) → pw X d (pw_w h c k (.long w)) m pc' ls r Q) (hp : pw_np c k = true := by rfl) : pw X d h m pc ls (.long w :: .ref a :: r) Q := pw_put0 I he hq hl hs hk ⟨w, rfl⟩ rfl rfl ha hc H hp
theorem pw_Iwp {h : pm_H} {ci k : Nat} {sps : List pw_F} {sp : pw_F} {v : Value} (I : pw_I h) (hs : pw_T[125]? = some (.inr (ci, sps))) (hk : sps[k]? = some sp) (hv : pw_vk h sp v) (hr : pm_scv (16 + h.length) v = true) : pw_I (pw_w h 125 k v) ∧ pw_E [125, 1000 + k] h (pw_w h 125 k v) := by
  obtain ⟨fs, e1, e2, e3⟩ := pw_obj I hs
  rw [pw_w_obj e1]
  refine ⟨I.set e1 (fun t' l' g => by cases g) (fun s g => ?_) ?_, ⟨⟨List.length_set, pm_slt_set e1 List.length_set⟩, fun c' _ hn => ?_, fun j hj hn => ?_⟩⟩
  · cases hs.symm.trans g
    refine ⟨rfl, by rw [List.length_set]; exact e2, fun j sp' x h1 hx => ?_⟩
    by_cases hkj : k = j
    · subst hkj
      rw [List.getElem?_set_self (by have := (List.getElem?_eq_some_iff.mp hx).1; rw [List.length_set] at this; exact this)] at hx
      cases hx
      cases hk.symm.trans h1
      exact hv
    · rw [List.getElem?_set_ne hkj] at hx
      exact e3 j sp' x h1 hx
  · show pm_all (pm_scv (16 + h.length)) (fs.set k v) = true
    rw [pm_all_eq, List.all_eq_true]
    intro x hx
    rcases List.mem_or_eq_of_mem_set hx with g | g
    · exact pw_scv_fld I e1 x g
    · rw [g]; exact hr
  · rw [List.getElem?_set_ne]
    intro e
    exact hn (by rw [e]; exact List.mem_cons_self)
  · refine pw_at_fld e1 (fun q => hn ?_)
    rw [q.2]
    exact List.mem_cons_of_mem _ (List.mem_singleton.mpr rfl)
theorem pw_putP {ix ci k a : Nat} {sps : List pw_F} {lo hi b : Int} (I : pw_I h) (he : pm_ent m = some (na, nl, own, rt, C)) (hq : pm_get C pc = some (.putfield ix, len)) (hl : pm_get (pm_lnk own) ix = some (0, ci, k, 0)) (hs : pw_T[125]? = some (.inr (ci, sps))) (hk : sps[k]? = some (0, lo, hi)) (h1 : lo ≤ b) (h2 : b ≤ hi) (h3 : -2147483648 ≤ b) (h4 : b ≤ 2147483647) (ha : 16 + 125 = a) (hc : pc + len = pc')
    (H : pw_I (pw_w h 125 k (pw_i b)) → pw_E [125, 1000 + k] h (pw_w h 125 k (pw_i b)) → pw X d (pw_w h 125 k (pw_i b)) m pc' ls r Q) : pw X d h m pc ls (pw_i b :: .ref a :: r) Q := by
  subst hc
  obtain ⟨fs, e1, e2, e3⟩ := pw_obj I hs
  obtain ⟨I2, E2⟩ := pw_Iwp (v := pw_i b) I hs hk ⟨b, rfl, h1, h2, h3, h4⟩ rfl
  refine pw_go he hq (h' := pw_w h 125 k (pw_i b)) (pc' := pc + len) (ls' := ls) (st' := r) (fun ih => ?_) (H I2 E2)
  rw [pw_w_obj e1]
  show pm_gPut ix ih d h m own pc len ls (pw_i b :: .ref a :: r) = _
  unfold pm_gPut
  dsimp only
  rw [hl, pw_cellI e1 ha]
  show cond (Nat.beq ci ci) (cond (Nat.blt k (pm_len fs)) (cond (pm_fit 0 (pw_i b)) (pm_fv (pw_i b) fun v => pm_fn (pc + len) fun q => ih d (pm_set h (a - 16) (.inr (ci, pm_set fs k v))) m q ls r) none) none) none = _
  have hkl : Nat.blt k (pm_len fs) = true := by
    rw [pm_len_eq]
    have := (List.getElem?_eq_some_iff.mp hk).1
    exact Nat.ble_eq_true_of_le (by omega)
  have ea : a - 16 = 125 := by omega
  rw [Nat.beq_refl, cond_true, hkl, cond_true, show pm_fit 0 (pw_i b) = true from rfl, cond_true, pm_fv_eq, pm_fn_eq, ea, pm_set_eq, pm_set_eq]
theorem pw_prim0 {ix f : Nat} {ih : pm_I} (hl : pm_get (pm_lnk own) ix = some (12, f, 0, 0)) (hf : Nat.beq f 0 = false) : pm_gInv X 2 ix ih d h m own pc len ls st = pm_prim X f (fun h' st' => cond (pm_cat8 st') (pm_fn (pc + 3) fun q => ih d h' m q ls st') none) h st := by
  unfold pm_gInv
  rw [hl]
  show cond (Nat.beq 2 (cond (Nat.beq f 0) 3 2)) _ none = _
  rw [hf]
  rfl
theorem pw_max {ix : Nat} {a b : Int} (he : pm_ent m = some (na, nl, own, rt, C)) (hq : pm_get C pc = some (.invokestatic ix, len)) (hl : pm_get (pm_lnk own) ix = some (12, 1, 0, 0)) (h1 : -2147483648 ≤ a) (h2 : a ≤ 2147483647) (h3 : -2147483648 ≤ b) (h4 : b ≤ 2147483647) (h8 : pm_cat8 (pw_i (max a b) :: r) = true) (H : pw X d h m (pc + 3) ls (pw_i (max a b) :: r) Q) : pw X d h m pc ls (pw_i b :: pw_i a :: r) Q := by
  refine pw_ld he hq (fun ih => ?_) H
  refine (pw_prim0 (len := len) hl rfl).trans ?_
  have e : (if Int32.ofInt a < Int32.ofInt b then Int32.ofInt b else Int32.ofInt a) = Int32.ofInt (max a b) := by
    by_cases hab : a < b
    · rw [if_pos ((pw_lt h1 h2 h3 h4).mpr hab), Int.max_eq_right (by omega)]
    · rw [if_neg (fun g => hab ((pw_lt h1 h2 h3 h4).mp g)), Int.max_eq_left (by omega)]
  show cond (pm_cat8 (.int (if Int32.ofInt a < Int32.ofInt b then Int32.ofInt b else Int32.ofInt a) :: r)) (pm_fn (pc + 3) fun q => ih d h m q ls (.int (if Int32.ofInt a < Int32.ofInt b then Int32.ofInt b else Int32.ofInt a) :: r)) none = _
  rw [e]
  show cond (pm_cat8 (pw_i (max a b) :: r)) (pm_fn (pc + 3) fun q => ih d h m q ls (pw_i (max a b) :: r)) none = _
  rw [h8, cond_true, pm_fn_eq]
theorem pw_min {ix : Nat} {a b : Int} (he : pm_ent m = some (na, nl, own, rt, C)) (hq : pm_get C pc = some (.invokestatic ix, len)) (hl : pm_get (pm_lnk own) ix = some (12, 2, 0, 0)) (h1 : -2147483648 ≤ a) (h2 : a ≤ 2147483647) (h3 : -2147483648 ≤ b) (h4 : b ≤ 2147483647) (h8 : pm_cat8 (pw_i (min a b) :: r) = true) (H : pw X d h m (pc + 3) ls (pw_i (min a b) :: r) Q) : pw X d h m pc ls (pw_i b :: pw_i a :: r) Q := by
  refine pw_ld he hq (fun ih => ?_) H
  refine (pw_prim0 (len := len) hl rfl).trans ?_
  have e : (if Int32.ofInt b < Int32.ofInt a then Int32.ofInt b else Int32.ofInt a) = Int32.ofInt (min a b) := by
    by_cases hab : b < a
    · rw [if_pos ((pw_lt h3 h4 h1 h2).mpr hab), Int.min_eq_right (by omega)]
    · rw [if_neg (fun g => hab ((pw_lt h3 h4 h1 h2).mp g)), Int.min_eq_left (by omega)]
  show cond (pm_cat8 (.int (if Int32.ofInt b < Int32.ofInt a then Int32.ofInt b else Int32.ofInt a) :: r)) (pm_fn (pc + 3) fun q => ih d h m q ls (.int (if Int32.ofInt b < Int32.ofInt a then Int32.ofInt b else Int32.ofInt a) :: r)) none = _
  rw [e]
  show cond (pm_cat8 (pw_i (min a b) :: r)) (pm_fn (pc + 3) fun q => ih d h m q ls (pw_i (min a b) :: r)) none = _
  rw [h8, cond_true, pm_fn_eq]
theorem pw_abs {ix : Nat} {a : Int} (he : pm_ent m = some (na, nl, own, rt, C)) (hq : pm_get C pc = some (.invokestatic ix, len)) (hl : pm_get (pm_lnk own) ix = some (12, 3, 0, 0)) (h8 : pm_cat8 (pw_i 0 :: r) = true) (H : ∀ b : Int, -2147483648 ≤ b → b ≤ 2147483647 → (0 ≤ a → a ≤ 2147483647 → b = a) → (-2147483648 < a → a < 0 → b = -a) → pw X d h m (pc + 3) ls (pw_i b :: r) Q) : pw X d h m pc ls (pw_i a :: r) Q := by
  have key : ∀ x : Int32, pw X d h m (pc + 3) ls (.int x :: r) Q → (x = if 0 ≤ Int32.ofInt a then Int32.ofInt a else 0 - Int32.ofInt a) → pw X d h m pc ls (pw_i a :: r) Q := by
    intro x hx ex
    refine pw_ld he hq (st' := .int x :: r) (pc' := pc + 3) (fun ih => ?_) hx
    refine (pw_prim0 (len := len) hl rfl).trans ?_
    show cond (pm_cat8 (.int (if 0 ≤ Int32.ofInt a then Int32.ofInt a else 0 - Int32.ofInt a) :: r)) (pm_fn (pc + 3) fun q => ih d h m q ls (.int (if 0 ≤ Int32.ofInt a then Int32.ofInt a else 0 - Int32.ofInt a) :: r)) none = _
    rw [← ex]
    have h8' : pm_cat8 (.int x :: r) = true := h8
    rw [h8', cond_true, pm_fn_eq]
  obtain ⟨b, b1, b2, b3⟩ := pw_any (if 0 ≤ Int32.ofInt a then Int32.ofInt a else 0 - Int32.ofInt a)
  have b3 : (if 0 ≤ Int32.ofInt a then Int32.ofInt a else 0 - Int32.ofInt a) = Int32.ofInt b := by
    have : Value.int (if 0 ≤ Int32.ofInt a then Int32.ofInt a else 0 - Int32.ofInt a) = .int (Int32.ofInt b) := b3
    exact Value.int.inj this
  refine key (Int32.ofInt b) (H b b1 b2 (fun h0 h1 => ?_) (fun h0 h1 => ?_)) b3.symm
  · have e0 : (0 : Int32) = Int32.ofInt 0 := rfl
    rw [if_pos (by rw [e0, pw_le (by omega) (by omega) (by omega) h1]; exact h0)] at b3
    exact ((pw_eq (by omega) h1 b1 b2).mp b3).symm
  · have e0 : (0 : Int32) = Int32.ofInt 0 := rfl
    rw [if_neg (by rw [e0, pw_le (by omega) (by omega) (by omega) (by omega)]; omega), e0, ← Int32.ofInt_sub] at b3
    have := (pw_eq (by omega) (by omega) b1 b2).mp b3
    omega
theorem pw_labs {ix : Nat} {w : Int64} (he : pm_ent m = some (na, nl, own, rt, C)) (hq : pm_get C pc = some (.invokestatic ix, len)) (hl : pm_get (pm_lnk own) ix = some (12, 4, 0, 0)) (h8 : pm_cat8 (.long w :: r) = true) (H : pw X d h m (pc + 3) ls (.long (if 0 < w then w else -w) :: r) Q) : pw X d h m pc ls (.long w :: r) Q := by
  refine pw_ld he hq (fun ih => ?_) H
  refine (pw_prim0 (len := len) hl rfl).trans ?_
  show cond (pm_cat8 (.long (if 0 < w then w else -w) :: r)) (pm_fn (pc + 3) fun q => ih d h m q ls (.long (if 0 < w then w else -w) :: r)) none = _
  have h8' : pm_cat8 (.long (if 0 < w then w else -w) :: r) = true := h8
  rw [h8', cond_true, pm_fn_eq]
theorem pw_fill {ix c n a : Nat} {lo hi b : Int} (I : pw_I h) (he : pm_ent m = some (na, nl, own, rt, C)) (hq : pm_get C pc = some (.invokestatic ix, len)) (hl : pm_get (pm_lnk own) ix = some (12, 6, 0, 0)) (hs : pw_T[c]? = some (.inl (0, n, lo, hi))) (hn : n ≤ 60000) (h1 : lo ≤ b) (h2 : b ≤ hi) (h3 : -2147483648 ≤ b) (h4 : b ≤ 2147483647) (ha : 16 + c = a) (h8 : pm_cat8 r = true)
    (H : pw_I (h.set c (.inl (0, List.replicate n (pw_i b)))) → pw_E [c] h (h.set c (.inl (0, List.replicate n (pw_i b)))) → pw X d (h.set c (.inl (0, List.replicate n (pw_i b)))) m (pc + 3) ls r Q) : pw X d h m pc ls (pw_i b :: .ref a :: r) Q := by
  obtain ⟨l, e1, e2, e3⟩ := pw_arr I hs
  have I2 : pw_I (h.set c (.inl (0, List.replicate n (pw_i b)))) := by
    refine I.set e1 (fun t' l' g => ?_) (fun s g => ?_) (pw_scc_arr (by omega))
    · cases g
      refine ⟨_, rfl, by rw [List.length_replicate]; exact e2.symm, fun _ j x hx => ?_⟩
      exact ⟨_, List.eq_of_mem_replicate (List.mem_of_getElem? hx)⟩
    · cases hs.symm.trans g
      refine ⟨rfl, List.length_replicate, fun j x hx => ?_⟩
      have := List.eq_of_mem_replicate (List.mem_of_getElem? hx)
      rw [this]
      exact ⟨b, rfl, h1, h2, h3, h4⟩
  refine pw_go he hq (fun ih => ?_) (H I2 (pw_E_set e1 (by show (List.replicate n (pw_i b)).length = l.length; rw [List.length_replicate]; exact e2.symm) (fun k _ => pw_at_cell (pw_c125 hs) k)))
  refine (pw_prim0 (len := len) hl rfl).trans ?_
  show (match pm_cell h a with
    | some (.inl (t, l)) => cond (Nat.beq t 0 && Nat.ble (pm_len l) 60000) (cond (pm_cat8 r) (pm_fn (pc + 3) fun q => ih d (pm_set h (a - 16) (.inl (0, pm_rep (pm_len l) (.int (Int32.ofInt b))))) m q ls r) none) none
    | _ => none) = _
  rw [pw_cellI e1 ha]
  show cond (Nat.beq 0 0 && Nat.ble (pm_len l) 60000) (cond (pm_cat8 r) (pm_fn (pc + 3) fun q => ih d (pm_set h (a - 16) (.inl (0, pm_rep (pm_len l) (.int (Int32.ofInt b))))) m q ls r) none) none = _
  have ea : a - 16 = c := by omega
  rw [pm_len_eq, e2, show (Nat.beq 0 0 && Nat.ble n 60000) = true by rw [Nat.ble_eq_true_of_le hn]; rfl, cond_true, h8, cond_true, pm_fn_eq, ea, pm_set_eq, pm_rep_eq]
  rfl
end Pv
end
section
/-! small facts: what narrows an int and leaves it, arrays that are found, copies -/
theorem pw_b1 {b : Int} (h1 : 0 ≤ b) (h2 : b ≤ 1) : Int32.ofInt b &&& 1 = Int32.ofInt b := by
  rcases (by omega : b = 0 ∨ b = 1) with rfl | rfl <;> rfl
theorem pw_nat {b : Int} (h1 : 0 ≤ b) : Int32.ofInt b = Int32.ofNat b.toNat := by
  obtain ⟨n, rfl⟩ := Int.eq_ofNat_of_zero_le h1
  rfl
theorem pw_c16 {b : Int} (h1 : 0 ≤ b) (h2 : b ≤ 65535) : (Int32.ofInt b).toUInt32.toUInt16.toUInt32.toInt32 = Int32.ofInt b := by
  rw [pw_nat h1]
  have h3 : b.toNat < 65536 := by omega
  generalize b.toNat = n at h3
  apply Int32.toBitVec_inj.mp
  apply BitVec.eq_of_toNat_eq
  simp
  omega
theorem pw_u16 {b : Int} (h1 : 0 ≤ b) (h2 : b ≤ 65535) : ((Int32.ofInt b).toUInt32 % 65536).toInt32 = Int32.ofInt b := by
  rw [pk_char, pw_nat h1]
  have h3 : b.toNat < 65536 := by omega
  generalize b.toNat = n at h3
  show Int32.ofNat ((nI n).toBitVec.toNat % 65536) = _
  rw [pk_tn (by omega), Nat.mod_eq_of_lt h3]
theorem pw_nz {a b : Int64} {c : Int} (h : (c = -1 ∧ a < b) ∨ (c = 0 ∧ a = b) ∨ (c = 1 ∧ b < a)) (hc : c ≠ 0) : a ≠ b := by
  rcases h with ⟨-, h⟩ | ⟨h, -⟩ | ⟨-, h⟩
  · exact Int64.ne_of_lt h
  · exact absurd h hc
  · exact (Int64.ne_of_lt h).symm
section Pn
variable {X : List (Nat × List Value)} {d : Nat} {h : pm_H} {m pc pc' len na nl own rt : Nat} {C : pm_T (Instr × Nat)} {ls ls' : pm_L} {st st' r : List Value} {Q : pm_H → (Option Value ⊕ Unit) → Prop} {i : Instr}
theorem pw_i2c {a : Int} (he : pm_ent m = some (na, nl, own, rt, C)) (hq : pm_get C pc = some (.i2c, len)) (hc : pc + len = pc') (h1 : 0 ≤ a) (h2 : a ≤ 65535) (H : pw X d h m pc' ls (pw_i a :: r) Q) : pw X d h m pc ls (pw_i a :: r) Q := by
  subst hc
  refine pw_ld he hq (st' := pw_i a :: r) (pc' := pc + len) (fun ih => ?_) H
  have e := pw_u16 h1 h2
  show pm_fn (pc + len) (fun q => ih d h m q ls (.int ((Int32.ofInt a).toUInt32 % 65536).toInt32 :: r)) = _
  rw [e, pm_fn_eq]
  rfl
theorem pw_cald {c a : Nat} {l : List Value} {j : Int} (he : pm_ent m = some (na, nl, own, rt, C)) (hq : pm_get C pc = some (.iaload, len)) (hl : h[c]? = some (.inl (0, l))) (hi : pw_ints l) (ha : 16 + c = a) (hn : l.length ≤ 1000) (h0 : 0 ≤ j) (h1 : j < l.length) (hc : pc + len = pc') (H : ∀ x : Int, -2147483648 ≤ x → x ≤ 2147483647 → pw X d h m pc' ls (pw_i x :: r) Q) : pw X d h m pc ls (pw_i j :: .ref a :: r) Q := by
  subst hc
  have hlt : j.toNat < l.length := by omega
  obtain ⟨y, hy⟩ := hi j.toNat _ (List.getElem?_eq_getElem hlt)
  refine pw_ld he hq (st' := .int y :: r) (pc' := pc + len) (fun ih => ?_) (pw_nmx H)
  show pm_gAld X 0 0 ih d h m own pc len ls (pw_i j :: .ref a :: r) = _
  unfold pm_gAld pw_i
  dsimp only
  rw [pw_rowI hl ha]
  show cond (Nat.beq 0 0 || Nat.beq 0 0) (cond (decide (Int32.ofInt j < 0)) none (match pm_nth l (Int32.ofInt j).toNatClampNeg with
        | some (.int x) => pm_fn (pc + len) fun q => ih d h m q ls (.int x :: r)
        | _ => none)) none = _
  rw [decide_eq_false (pw_neg h0 (by omega)), pw_clamp h0 (by omega), pm_nth_eq, List.getElem?_eq_getElem hlt, hy]
  show pm_fn (pc + len) (fun q => ih d h m q ls (.int y :: r)) = _
  rw [pm_fn_eq]
/-- arraycopy of a whole table into another of its kind -/
theorem pw_copy {ix c c2 n a a2 : Nat} {lo hi : Int} (I : pw_I h) (he : pm_ent m = some (na, nl, own, rt, C)) (hq : pm_get C pc = some (.invokestatic ix, len)) (hl : pm_get (pm_lnk own) ix = some (12, 5, 0, 0)) (hs : pw_T[c]? = some (.inl (0, n, lo, hi))) (hs2 : pw_T[c2]? = some (.inl (0, n, lo, hi))) (hn : n ≤ 2147483647) (ha : 16 + c = a) (ha2 : 16 + c2 = a2) (h8 : pm_cat8 r = true)
    (H : ∀ h' : pm_H, pw_I h' → pw_E [c2] h h' → (∀ k, pw_at h' c2 k = pw_at h c k) → pw X d h' m (pc + 3) ls r Q) : pw X d h m pc ls (pw_i n :: pw_i 0 :: .ref a2 :: pw_i 0 :: .ref a :: r) Q := by
  obtain ⟨l, e1, e2, e3⟩ := pw_arr I hs
  obtain ⟨l2, f1, f2, f3⟩ := pw_arr I hs2
  have I2 : pw_I (h.set c2 (.inl (0, l))) := by
    refine I.set f1 (fun t' l' g => ?_) (fun s g => ?_) (pw_scc_arr (by omega))
    · cases g
      refine ⟨_, rfl, by omega, fun _ j x hx => ?_⟩
      obtain ⟨b, rfl, -⟩ := e3 j x hx
      exact ⟨_, rfl⟩
    · cases hs2.symm.trans g
      exact ⟨rfl, e2, e3⟩
  refine pw_go he hq (fun ih => ?_) (H _ I2 (pw_E_set f1 (show l.length = l2.length by omega) (fun k _ => pw_at_cell (pw_c125 hs2) k)) (fun k => ?_))
  · refine (pw_prim0 (len := len) hl rfl).trans ?_
    show (match pm_row X h a, pm_cell h a2 with
      | some (t, l), some (.inl (t', l')) => cond (Nat.beq t 0 && (Nat.beq t' 0 && (Nat.ble 16 a && (!decide (Int32.ofInt (n : Int) < 0) && (!decide (Int32.ofInt 0 < 0) && (!decide (Int32.ofInt 0 < 0) && (Nat.ble ((Int32.ofInt 0).toNatClampNeg + (Int32.ofInt (n : Int)).toNatClampNeg) (pm_len l) && Nat.ble ((Int32.ofInt 0).toNatClampNeg + (Int32.ofInt (n : Int)).toNatClampNeg) (pm_len l'))))))))
        (cond (pm_cat8 r) (pm_fn (pc + 3) fun q => ih d (pm_set h (a2 - 16) (.inl (0, pm_cpy l l' (Int32.ofInt 0).toNatClampNeg (Int32.ofInt 0).toNatClampNeg (Int32.ofInt (n : Int)).toNatClampNeg))) m q ls r) none) none
      | _, _ => none) = _
    rw [pw_rowI e1 ha, pw_cellI f1 ha2]
    dsimp only
    have en : (Int32.ofInt (n : Int)).toNatClampNeg = n := by rw [pw_clamp (by omega) (by omega)]; rfl
    have e0 : (Int32.ofInt 0).toNatClampNeg = 0 := rfl
    rw [en, e0, decide_eq_false (pw_neg (a := (n : Int)) (by omega) (by omega)), pm_len_eq, pm_len_eq, e2, f2]
    have hb : (Nat.beq 0 0 && (Nat.beq 0 0 && (Nat.ble 16 a && (!false && (!decide (Int32.ofInt 0 < 0) && (!decide (Int32.ofInt 0 < 0) && (Nat.ble (0 + n) n && Nat.ble (0 + n) n))))))) = true := by
      rw [Nat.ble_eq_true_of_le (show 16 ≤ a by omega), Nat.ble_eq_true_of_le (show 0 + n ≤ n by omega)]
      rfl
    have ea : a2 - 16 = c2 := by omega
    rw [hb, cond_true, h8, cond_true, pm_fn_eq, ea, pm_set_eq]
    have ec : pm_cpy l l2 0 0 n = l := by
      unfold pm_cpy
      rw [List.take_zero, List.drop_zero, List.nil_append, List.take_of_length_le (by omega), List.drop_of_length_le (by omega), List.append_nil]
    rw [ec]
  · unfold pw_at
    rw [List.getElem?_set_self (List.getElem?_eq_some_iff.mp f1).1, e1]
theorem pw_iS {ix m' nb ci : Nat} {As rest : List Value} {ih : pm_I} (hl : pm_get (pm_lnk own) ix = some (2, m', nb, ci)) (hp : pm_pop nb st [] = some (As, rest)) (h8 : pm_cat8 rest = true) : pm_dsp X (.invokestatic ix) ih d h m own pc len ls st = pm_call ih d h m pc ls m' As rest false := pw_inv (len := len) (Or.inl rfl) hl hp h8 (fun q => by cases q)
theorem pw_iV {ix m' nb ci a : Nat} {As rest fs : List Value} {ih : pm_I} (ho : Nat.beq own 13 = false) (hl : pm_get (pm_lnk own) ix = some (1, m', nb, ci)) (hp : pm_pop nb st [] = some (.ref a :: As, rest)) (h8 : pm_cat8 rest = true) (hc : pm_cell h a = some (.inr (ci, fs))) : pm_dsp X (.invokevirtual ix) ih d h m own pc len ls st = pm_call ih d h m pc ls m' (.ref a :: As) rest false := pw_inv1 (len := len) ho hl hp h8 hc
end Pn
end
section
/-! what is there at the start (the tables, the String constants), shifts of 1, what a write and a call leave -/
def pw_xr (l : List Value) (lo hi : Int) : Prop := ∀ (j : Nat) (v : Value), l[j]? = some v → ∃ a : Int, v = pw_i a ∧ lo ≤ a ∧ a ≤ hi
/-- the tables and the Strings -/
def pw_Xk (X : List (Nat × List Value)) : Prop := (∃ l, X[1]? = some (0, l) ∧ l.length = 4 ∧ pw_xr l (-2) (-1)) ∧ (∃ l, X[2]? = some (0, l) ∧ l.length = 4 ∧ pw_xr l (-2) 11) ∧ (∃ l, X[3]? = some (0, l) ∧ l.length = 10 ∧ pw_xr l 0 4) ∧
  ∀ p : Nat, 4 ≤ p → p < 12 → ∃ l, X[p]? = some (4, l) ∧ l.length ≤ 60 ∧ pw_ints l
theorem pw_at_ne {h : pm_H} {c k c' k' : Nat} {v : Value} (hn : ¬ (c = c' ∧ k = k')) : pw_at (pw_w h c k v) c' k' = pw_at h c' k' := by
  cases hs : (pw_at h c k).isSome with
  | true => rw [pw_at_w hs, if_neg hn]
  | false =>
    have e : pw_at (pw_w h c k v) c' k' = pw_at h c' k' := by
      unfold pw_w
      cases hc : h[c]? with
      | none => rfl
      | some q =>
        have hlt := (List.getElem?_eq_some_iff.mp hc).1
        unfold pw_at at hs ⊢
        rw [hc] at hs
        match q, hc, hs with
        | .inl (t, l), hc, hs =>
          have hs : (l[k]?).isSome = false := hs
          have hk : l.length ≤ k := by
            cases hz : l[k]? with
            | none => exact List.getElem?_eq_none_iff.mp hz
            | some x => rw [hz] at hs; cases hs
          show (match (h.set c (.inl (t, l.set k v)))[c']? with
            | some (.inl q) => q.2[k']?
            | some (.inr q) => q.2[k']?
            | none => none) = _
          rw [List.set_eq_of_length_le hk]
          by_cases hcc : c = c'
          · subst hcc
            rw [List.getElem?_set_self hlt, hc]
          · rw [List.getElem?_set_ne hcc]
            all_goals (cases h[c']? with | none => rfl | some q => cases q <;> rfl)
        | .inr (t, l), hc, hs =>
          have hs : (l[k]?).isSome = false := hs
          have hk : l.length ≤ k := by
            cases hz : l[k]? with
            | none => exact List.getElem?_eq_none_iff.mp hz
            | some x => rw [hz] at hs; cases hs
          show (match (h.set c (.inr (t, l.set k v)))[c']? with
            | some (.inl q) => q.2[k']?
            | some (.inr q) => q.2[k']?
            | none => none) = _
          rw [List.set_eq_of_length_le hk]
          by_cases hcc : c = c'
          · subst hcc
            rw [List.getElem?_set_self hlt, hc]
          · rw [List.getElem?_set_ne hcc]
            all_goals (cases h[c']? with | none => rfl | some q => cases q <;> rfl)
    exact e
theorem pw_g_ne {h : pm_H} {c k c' k' : Nat} {v : Value} (hn : ¬ (c = c' ∧ k = k')) : pw_g (pw_w h c k v) c' k' = pw_g h c' k' := by
  unfold pw_g
  rw [pw_at_ne hn]
theorem pw_g_eq {h : pm_H} {c ci k : Nat} {sps : List pw_F} {sp : pw_F} {b : Int} (I : pw_I h) (hs : pw_T[c]? = some (.inr (ci, sps))) (hk : sps[k]? = some sp) (h1 : -2147483648 ≤ b) (h2 : b ≤ 2147483647) : pw_g (pw_w h c k (pw_i b)) c k = b := by
  obtain ⟨fs, v, e1, e2, e3, -⟩ := pw_fld I hs hk
  unfold pw_g
  rw [pw_at_w (by rw [e3]; rfl), if_pos ⟨rfl, rfl⟩, pw_iv_i h1 h2]
theorem pw_Eg {h h' : pm_H} {c : Nat} {W : List Nat} {s : pw_S} (I : pw_I h) (E : pw_E W h h') (hs : pw_T[c]? = some s) (hn : W.contains c = false) (k : Nat) : pw_g h' c k = pw_g h c k := by
  obtain ⟨q, e1, -⟩ := I.1 c s hs
  unfold pw_g
  rw [E.at (List.getElem?_eq_some_iff.mp e1).1 hn]
theorem pw_sh1 : ∀ n : Nat, n < 15 → Int32.ofInt 1 <<< (Int32.ofInt (n : Int) &&& 31) = Int32.ofInt (2 ^ n : Nat) := by decide
section Pt
variable {X : List (Nat × List Value)} {d : Nat} {h : pm_H} {m pc pc' len na nl own rt : Nat} {C : pm_T (Instr × Nat)} {ls ls' : pm_L} {st st' r : List Value} {Q : pm_H → (Option Value ⊕ Unit) → Prop} {i : Instr}
theorem pw_shl1 {b : Int} {n : Nat} (he : pm_ent m = some (na, nl, own, rt, C)) (hq : pm_get C pc = some (.ishl, len)) (hc : pc + len = pc') (h1 : 0 ≤ b) (h2 : b ≤ n) (hn : n < 15) (H : ∀ c : Int, 1 ≤ c → c ≤ (2 ^ n : Nat) → pw X d h m pc' ls (pw_i c :: r) Q) : pw X d h m pc ls (pw_i b :: pw_i 1 :: r) Q := by
  subst hc
  obtain ⟨k, rfl⟩ := Int.eq_ofNat_of_zero_le h1
  have hk : k < 15 := by omega
  have hkn : k ≤ n := by omega
  have hp : (2 : Nat) ^ k ≤ 2 ^ n := Nat.pow_le_pow_right (by decide) hkn
  have hp1 : 1 ≤ (2 : Nat) ^ k := Nat.one_le_two_pow
  refine pw_ld he hq (st' := pw_i (2 ^ k : Nat) :: r) (pc' := pc + len) (fun ih => ?_) (H _ (by omega) (by omega))
  have e := pw_sh1 k hk
  show pm_fn (pc + len) (fun q => ih d h m q ls (.int (Int32.ofInt 1 <<< (Int32.ofInt (k : Int) &&& 31)) :: r)) = _
  rw [e, pm_fn_eq]
  rfl
/-- a table that is there at the start -/
theorem pw_xald {a n : Nat} {l : List Value} {lo hi j : Int} (he : pm_ent m = some (na, nl, own, rt, C)) (hq : pm_get C pc = some (.iaload, len)) (hX : X[a]? = some (0, l)) (ha : a < 16) (hn : l.length = n) (hr : pw_xr l lo hi) (hn2 : n ≤ 1000) (h0 : 0 ≤ j) (h1 : j < n) (hc : pc + len = pc') (H : ∀ x : Int, lo ≤ x → x ≤ hi → pw X d h m pc' ls (pw_i x :: r) Q) : pw X d h m pc ls (pw_i j :: .ref a :: r) Q := by
  subst hc
  have hlt : j.toNat < l.length := by omega
  obtain ⟨y, hy, y1, y2⟩ := hr j.toNat _ (List.getElem?_eq_getElem hlt)
  refine pw_ld he hq (st' := pw_i y :: r) (pc' := pc + len) (fun ih => ?_) (H y y1 y2)
  show pm_gAld X 0 0 ih d h m own pc len ls (pw_i j :: .ref a :: r) = _
  have hrow : pm_row X h a = some (0, l) := by
    unfold pm_row
    rw [show Nat.blt a 16 = true from Nat.ble_eq_true_of_le ha, cond_true, pm_nth_eq, hX]
    rfl
  unfold pm_gAld pw_i
  dsimp only
  rw [hrow]
  show cond (Nat.beq 0 0 || Nat.beq 0 0) (cond (decide (Int32.ofInt j < 0)) none (match pm_nth l (Int32.ofInt j).toNatClampNeg with
        | some (.int x) => pm_fn (pc + len) fun q => ih d h m q ls (.int x :: r)
        | _ => none)) none = _
  rw [decide_eq_false (pw_neg h0 (by omega)), pw_clamp h0 (by omega), pm_nth_eq, List.getElem?_eq_getElem hlt, hy]
  show pm_fn (pc + len) (fun q => ih d h m q ls (.int (Int32.ofInt y) :: r)) = _
  rw [pm_fn_eq]
theorem pw_xlen {a n : Nat} {l : List Value} (he : pm_ent m = some (na, nl, own, rt, C)) (hq : pm_get C pc = some (.arraylength, len)) (hX : X[a]? = some (0, l)) (ha : a < 16) (hn : l.length = n) (hc : pc + len = pc') (H : pw X d h m pc' ls (pw_i (n : Int) :: r) Q) : pw X d h m pc ls (.ref a :: r) Q := by
  subst hn
  refine pw_alen he hq (t := 0) (l := l) ?_ rfl hc H
  unfold pm_row
  rw [show Nat.blt a 16 = true from Nat.ble_eq_true_of_le ha, cond_true, pm_nth_eq, hX]
  rfl
theorem pw_str0 {ix f : Nat} {ih : pm_I} (hl : pm_get (pm_lnk own) ix = some (15, f, 0, 0)) : pm_dsp X (.invokevirtual ix) ih d h m own pc len ls st = pm_str X f (fun h' st' => cond (pm_cat8 st') (pm_fn (pc + 3) fun q => ih d h' m q ls st') none) h st := by
  show pm_gInv X 1 ix ih d h m own pc len ls st = _
  unfold pm_gInv
  rw [hl]
  rfl
theorem pw_sxk {p : Nat} (hX : pw_Xk X) (h1 : 4 ≤ p) (h2 : p < 12) : ∃ l, pm_sx X p = some l ∧ l.length ≤ 60 ∧ pw_ints l := by
  obtain ⟨l, e1, e2, e3⟩ := hX.2.2.2 p h1 h2
  refine ⟨l, ?_, e2, e3⟩
  unfold pm_sx
  rw [show (Nat.ble 4 p && Nat.blt p 12) = true by rw [Nat.ble_eq_true_of_le h1, show Nat.blt p 12 = true from Nat.ble_eq_true_of_le h2]; rfl, cond_true, pm_nth_eq, e1]
  rfl
theorem pw_slen {ix p : Nat} {l : List Value} (he : pm_ent m = some (na, nl, own, rt, C)) (hq : pm_get C pc = some (.invokevirtual ix, len)) (hl : pm_get (pm_lnk own) ix = some (15, 7, 0, 0)) (hs : pm_sx X p = some l) (h8 : pm_cat8 (pw_i 0 :: r) = true) (H : pw X d h m (pc + 3) ls (pw_i (l.length : Int) :: r) Q) : pw X d h m pc ls (.ref p :: r) Q := by
  refine pw_ld he hq (fun ih => ?_) H
  refine (pw_str0 (len := len) hl).trans ?_
  show (match pm_sx X p with
    | some l => pm_fn (pm_len l) fun n => cond (pm_cat8 (.int (Int32.ofNat n) :: r)) (pm_fn (pc + 3) fun q => ih d h m q ls (.int (Int32.ofNat n) :: r)) none
    | none => none) = _
  rw [hs]
  show (pm_fn (pm_len l) fun n => cond (pm_cat8 (.int (Int32.ofNat n) :: r)) (pm_fn (pc + 3) fun q => ih d h m q ls (.int (Int32.ofNat n) :: r)) none) = _
  rw [pm_fn_eq, pm_len_eq]
  have h8' : pm_cat8 (.int (Int32.ofNat l.length) :: r) = true := h8
  rw [h8', cond_true, pm_fn_eq]
  rfl
theorem pw_and255 (x : Int32) : ∃ b : Int, 0 ≤ b ∧ b ≤ 255 ∧ Value.int (x &&& 255) = pw_i b := by
  obtain ⟨j, hj, e⟩ := pk_andE x (m := 255) 8 rfl
  refine ⟨j, by omega, by omega, ?_⟩
  rw [e]
  rfl
theorem pw_schr {ix p : Nat} {l : List Value} {j : Int} (he : pm_ent m = some (na, nl, own, rt, C)) (hq : pm_get C pc = some (.invokevirtual ix, len)) (hl : pm_get (pm_lnk own) ix = some (15, 8, 0, 0)) (hs : pm_sx X p = some l) (hi : pw_ints l) (hn : l.length ≤ 60) (h0 : 0 ≤ j) (h1 : j < l.length) (h8 : pm_cat8 (pw_i 0 :: r) = true) (H : ∀ x : Int, 0 ≤ x → x ≤ 255 → pw X d h m (pc + 3) ls (pw_i x :: r) Q) : pw X d h m pc ls (pw_i j :: .ref p :: r) Q := by
  have hlt : j.toNat < l.length := by omega
  obtain ⟨y, hy⟩ := hi j.toNat _ (List.getElem?_eq_getElem hlt)
  obtain ⟨b, b1, b2, b3⟩ := pw_and255 y
  refine pw_ld he hq (st' := .int (y &&& 255) :: r) (pc' := pc + 3) (fun ih => ?_) (by rw [b3]; exact H b b1 b2)
  refine (pw_str0 (len := len) hl).trans ?_
  show (match pm_sx X p with
    | some l => cond (decide (Int32.ofInt j < 0)) none (match pm_nth l (Int32.ofInt j).toNatClampNeg with
      | some (.int x) => cond (pm_cat8 (.int (x &&& 255) :: r)) (pm_fn (pc + 3) fun q => ih d h m q ls (.int (x &&& 255) :: r)) none
      | _ => none)
    | none => none) = _
  rw [hs]
  show cond (decide (Int32.ofInt j < 0)) none (match pm_nth l (Int32.ofInt j).toNatClampNeg with
      | some (.int x) => cond (pm_cat8 (.int (x &&& 255) :: r)) (pm_fn (pc + 3) fun q => ih d h m q ls (.int (x &&& 255) :: r)) none
      | _ => none) = _
  rw [decide_eq_false (pw_neg h0 (by omega)), cond_false, pw_clamp h0 (by omega), pm_nth_eq, List.getElem?_eq_getElem hlt, hy]
  show cond (pm_cat8 (.int (y &&& 255) :: r)) (pm_fn (pc + 3) fun q => ih d h m q ls (.int (y &&& 255) :: r)) none = _
  have h8' : pm_cat8 (.int (y &&& 255) :: r) = true := h8
  rw [h8', cond_true, pm_fn_eq]
theorem pw_sidx {ix p : Nat} {l : List Value} {z : Int} (he : pm_ent m = some (na, nl, own, rt, C)) (hq : pm_get C pc = some (.invokevirtual ix, len)) (hl : pm_get (pm_lnk own) ix = some (15, 9, 0, 0)) (hs : pm_sx X p = some l) (h8 : pm_cat8 (pw_i 0 :: r) = true) (H : ∀ x : Int, -2147483648 ≤ x → x ≤ 2147483647 → pw X d h m (pc + 3) ls (pw_i x :: r) Q) : pw X d h m pc ls (pw_i z :: .ref p :: r) Q := by
  refine pw_ld he hq (fun ih => ?_) (pw_nmx (x := if Int32.ofInt z < 0 ∨ (255 : Int32) < Int32.ofInt z then -1 else pm_ixF (Int32.ofInt z).toInt8.toInt32 l 0) H)
  refine (pw_str0 (len := len) hl).trans ?_
  show (match pm_sx X p with
    | some l => cond (pm_cat8 (.int (if Int32.ofInt z < 0 ∨ (255 : Int32) < Int32.ofInt z then -1 else pm_ixF (Int32.ofInt z).toInt8.toInt32 l 0) :: r)) (pm_fn (pc + 3) fun q => ih d h m q ls (.int (if Int32.ofInt z < 0 ∨ (255 : Int32) < Int32.ofInt z then -1 else pm_ixF (Int32.ofInt z).toInt8.toInt32 l 0) :: r)) none
    | none => none) = _
  rw [hs]
  show cond (pm_cat8 (.int (if Int32.ofInt z < 0 ∨ (255 : Int32) < Int32.ofInt z then -1 else pm_ixF (Int32.ofInt z).toInt8.toInt32 l 0) :: r)) (pm_fn (pc + 3) fun q => ih d h m q ls (.int (if Int32.ofInt z < 0 ∨ (255 : Int32) < Int32.ofInt z then -1 else pm_ixF (Int32.ofInt z).toInt8.toInt32 l 0) :: r)) none = _
  have h8' : pm_cat8 (.int (if Int32.ofInt z < 0 ∨ (255 : Int32) < Int32.ofInt z then -1 else pm_ixF (Int32.ofInt z).toInt8.toInt32 l 0) :: r) = true := h8
  rw [h8', cond_true, pm_fn_eq]
end Pt
end
section
/-! longs that are counted: pw_l a -/
def pw_gm (h : pm_H) (c k : Nat) : Int := (pw_gl h c k).toInt
theorem pw_lToInt {a : Int} (h1 : -4611686018427387904 ≤ a) (h2 : a ≤ 4611686018427387904) : (Int64.ofInt a).toInt = a := Int64.toInt_ofInt_of_le (by omega) (by omega)
theorem pw_l0 {a : Int} (h1 : -4611686018427387904 ≤ a) (h2 : a ≤ 4611686018427387904) (h3 : a ≠ 0) : Int64.ofInt a ≠ 0 := by
  intro e
  have := congrArg Int64.toInt e
  rw [pw_lToInt h1 h2] at this
  have e0 : (0 : Int64).toInt = 0 := rfl
  omega
theorem pw_i2lE {a : Int} (h1 : -2147483648 ≤ a) (h2 : a ≤ 2147483647) : (Int32.ofInt a).toInt64 = Int64.ofInt a := by
  apply Int64.toInt_inj.mp
  rw [Int32.toInt_toInt64, pw_toInt h1 h2, pw_lToInt (by omega) (by omega)]
theorem pw_l2iE (a : Int) : (Int64.ofInt a).toInt32 = Int32.ofInt a := by
  apply Int32.toInt_inj.mp
  simp
theorem pw_remE {x y : Int64} (hy : y ≠ 0) : (x - x / y * y).toInt = x.toInt.tmod y.toInt := by
  have hy0 : y.toInt ≠ 0 := fun e => hy (Int64.toInt_inj.mp (by rw [e]; rfl))
  have e1 : x - x / y * y = Int64.ofInt (x.toInt - (x.toInt.tdiv y.toInt) * y.toInt) := by
    rw [Int64.ofInt_sub, Int64.ofInt_mul, Int64.ofInt_toInt, Int64.ofInt_toInt]
    congr 2
    apply Int64.toInt_inj.mp
    rw [Int64.toInt_div, Int64.toInt_ofInt]
  have e2 : x.toInt - (x.toInt.tdiv y.toInt) * y.toInt = x.toInt.tmod y.toInt := by
    have := Int.tmod_add_mul_tdiv x.toInt y.toInt
    have e3 : x.toInt.tdiv y.toInt * y.toInt = y.toInt * x.toInt.tdiv y.toInt := Int.mul_comm _ _
    omega
  rw [e1, e2]
  have hx1 := x.le_toInt
  have hx2 := x.toInt_lt
  have hlt : (x.toInt.tmod y.toInt).natAbs ≤ x.toInt.natAbs := by
    rw [Int.natAbs_tmod]
    exact Nat.mod_le _ _
  have hlt2 : (x.toInt.tmod y.toInt).natAbs < y.toInt.natAbs := by
    rw [Int.natAbs_tmod]
    exact Nat.mod_lt _ (by omega)
  have hy1 := y.le_toInt
  have hy2 := y.toInt_lt
  exact Int64.toInt_ofInt_of_le (by omega) (by omega)
theorem pw_remLt {x y : Int64} (hy : y ≠ 0) : (x - x / y * y).toInt.natAbs < y.toInt.natAbs := by
  have hy0 : y.toInt ≠ 0 := fun e => hy (Int64.toInt_inj.mp (by rw [e]; rfl))
  rw [pw_remE hy, Int.natAbs_tmod]
  exact Nat.mod_lt _ (by omega)
section Pl
variable {X : List (Nat × List Value)} {d : Nat} {h : pm_H} {m pc pc' len na nl own rt : Nat} {C : pm_T (Instr × Nat)} {ls ls' : pm_L} {st st' r : List Value} {Q : pm_H → (Option Value ⊕ Unit) → Prop} {i : Instr}
theorem pw_ladd {a b : Int} (he : pm_ent m = some (na, nl, own, rt, C)) (hq : pm_get C pc = some (.ladd, len)) (hc : pc + len = pc') (H : pw X d h m pc' ls (.long (Int64.ofInt (a + b)) :: r) Q) : pw X d h m pc ls (.long (Int64.ofInt b) :: .long (Int64.ofInt a) :: r) Q := by
  subst hc
  refine pw_ld he hq (st' := .long (Int64.ofInt (a + b)) :: r) (pc' := pc + len) (fun ih => ?_) H
  rw [Int64.ofInt_add]
  exact pm_fn_eq (pc + len) (fun q => ih d h m q ls (.long (Int64.ofInt a + Int64.ofInt b) :: r))
theorem pw_lsub {a b : Int} (he : pm_ent m = some (na, nl, own, rt, C)) (hq : pm_get C pc = some (.lsub, len)) (hc : pc + len = pc') (H : pw X d h m pc' ls (.long (Int64.ofInt (a - b)) :: r) Q) : pw X d h m pc ls (.long (Int64.ofInt b) :: .long (Int64.ofInt a) :: r) Q := by
  subst hc
  refine pw_ld he hq (st' := .long (Int64.ofInt (a - b)) :: r) (pc' := pc + len) (fun ih => ?_) H
  rw [Int64.ofInt_sub]
  exact pm_fn_eq (pc + len) (fun q => ih d h m q ls (.long (Int64.ofInt a - Int64.ofInt b) :: r))
theorem pw_lmul {a b : Int} (he : pm_ent m = some (na, nl, own, rt, C)) (hq : pm_get C pc = some (.lmul, len)) (hc : pc + len = pc') (H : pw X d h m pc' ls (.long (Int64.ofInt (a * b)) :: r) Q) : pw X d h m pc ls (.long (Int64.ofInt b) :: .long (Int64.ofInt a) :: r) Q := by
  subst hc
  refine pw_ld he hq (st' := .long (Int64.ofInt (a * b)) :: r) (pc' := pc + len) (fun ih => ?_) H
  rw [Int64.ofInt_mul]
  exact pm_fn_eq (pc + len) (fun q => ih d h m q ls (.long (Int64.ofInt a * Int64.ofInt b) :: r))
theorem pw_i2l {a : Int} (he : pm_ent m = some (na, nl, own, rt, C)) (hq : pm_get C pc = some (.i2l, len)) (hc : pc + len = pc') (h1 : -2147483648 ≤ a) (h2 : a ≤ 2147483647) (H : pw X d h m pc' ls (.long (Int64.ofInt a) :: r) Q) : pw X d h m pc ls (pw_i a :: r) Q := by
  subst hc
  refine pw_ld he hq (st' := .long (Int64.ofInt a) :: r) (pc' := pc + len) (fun ih => ?_) H
  rw [← pw_i2lE h1 h2]
  exact pm_fn_eq (pc + len) (fun q => ih d h m q ls (.long (Int32.ofInt a).toInt64 :: r))
theorem pw_l2iC {a : Int} (he : pm_ent m = some (na, nl, own, rt, C)) (hq : pm_get C pc = some (.l2i, len)) (hc : pc + len = pc') (H : pw X d h m pc' ls (pw_i a :: r) Q) : pw X d h m pc ls (.long (Int64.ofInt a) :: r) Q := by
  subst hc
  refine pw_ld he hq (st' := pw_i a :: r) (pc' := pc + len) (fun ih => ?_) H
  unfold pw_i
  rw [← pw_l2iE a]
  exact pm_fn_eq (pc + len) (fun q => ih d h m q ls (.int (Int64.ofInt a).toInt32 :: r))
theorem pw_lcmpC {a b : Int} (he : pm_ent m = some (na, nl, own, rt, C)) (hq : pm_get C pc = some (.lcmp, len)) (hc : pc + len = pc') (h1 : -4611686018427387904 ≤ a) (h2 : a ≤ 4611686018427387904) (h3 : -4611686018427387904 ≤ b) (h4 : b ≤ 4611686018427387904) (H : ∀ c : Int, (c = -1 ∧ a < b) ∨ (c = 0 ∧ a = b) ∨ (c = 1 ∧ b < a) → pw X d h m pc' ls (pw_i c :: r) Q) : pw X d h m pc ls (.long (Int64.ofInt b) :: .long (Int64.ofInt a) :: r) Q := by
  refine pw_lcmp he hq hc (fun c hc => H c ?_)
  rw [Int64.lt_iff_toInt_lt, Int64.lt_iff_toInt_lt, ← Int64.toInt_inj, pw_lToInt h1 h2, pw_lToInt h3 h4] at hc
  exact hc
theorem pw_getM {ix c ci k t a : Nat} {sps : List pw_F} {lo hi : Int} (I : pw_I h) (he : pm_ent m = some (na, nl, own, rt, C)) (hq : pm_get C pc = some (.getfield ix, len)) (hl : pm_get (pm_lnk own) ix = some (0, ci, k, t)) (hs : pw_T[c]? = some (.inr (ci, sps))) (hk : sps[k]? = some (4, lo, hi)) (ha : 16 + c = a) (hc : pc + len = pc') (H : lo ≤ pw_gm h c k → pw_gm h c k ≤ hi → pw X d h m pc' ls (.long (Int64.ofInt (pw_gm h c k)) :: r) Q) : pw X d h m pc ls (.ref a :: r) Q := by
  obtain ⟨fs, v, h1, h2, h3, b, rfl, h4, h5, h6, h7⟩ := pw_fld I hs hk
  have e : pw_gm h c k = b := by
    unfold pw_gm pw_gl
    rw [h3]
    exact pw_lToInt h6 h7
  rw [e] at H
  exact pw_get0 he hq hl h1 h2 ha hc (H h4 h5)
theorem pw_putM {ix c ci k a : Nat} {sps : List pw_F} {lo hi b : Int} (I : pw_I h) (he : pm_ent m = some (na, nl, own, rt, C)) (hq : pm_get C pc = some (.putfield ix, len)) (hl : pm_get (pm_lnk own) ix = some (0, ci, k, 2)) (hs : pw_T[c]? = some (.inr (ci, sps))) (hk : sps[k]? = some (4, lo, hi)) (h1 : lo ≤ b) (h2 : b ≤ hi) (h3 : -4611686018427387904 ≤ b) (h4 : b ≤ 4611686018427387904) (ha : 16 + c = a) (hc : pc + len = pc')
    (H : pw_I (pw_w h c k (.long (Int64.ofInt b))) → pw_E [c] h (pw_w h c k (.long (Int64.ofInt b))) → pw X d (pw_w h c k (.long (Int64.ofInt b))) m pc' ls r Q) (hp : pw_np c k = true := by rfl) : pw X d h m pc ls (.long (Int64.ofInt b) :: .ref a :: r) Q := pw_put0 I he hq hl hs hk ⟨b, rfl, h1, h2, h3, h4⟩ rfl rfl ha hc H hp
end Pl
theorem pw_gm_ne {h : pm_H} {c k c' k' : Nat} {v : Value} (hn : ¬ (c = c' ∧ k = k')) : pw_gm (pw_w h c k v) c' k' = pw_gm h c' k' := by
  unfold pw_gm pw_gl
  rw [pw_at_ne hn]
theorem pw_gm_eq {h : pm_H} {c ci k : Nat} {sps : List pw_F} {sp : pw_F} {b : Int} (I : pw_I h) (hs : pw_T[c]? = some (.inr (ci, sps))) (hk : sps[k]? = some sp) (h1 : -4611686018427387904 ≤ b) (h2 : b ≤ 4611686018427387904) : pw_gm (pw_w h c k (.long (Int64.ofInt b))) c k = b := by
  obtain ⟨fs, v, e1, e2, e3, -⟩ := pw_fld I hs hk
  unfold pw_gm pw_gl
  rw [pw_at_w (by rw [e3]; rfl), if_pos ⟨rfl, rfl⟩]
  exact pw_lToInt h1 h2
theorem pw_Egm {h h' : pm_H} {c : Nat} {W : List Nat} {s : pw_S} (I : pw_I h) (E : pw_E W h h') (hs : pw_T[c]? = some s) (hn : W.contains c = false) (k : Nat) : pw_gm h' c k = pw_gm h c k := by
  obtain ⟨q, e1, -⟩ := I.1 c s hs
  unfold pw_gm pw_gl
  rw [E.at (List.getElem?_eq_some_iff.mp e1).1 hn]
theorem pw_mulB {a b A B : Int} (h1 : 0 ≤ a) (h2 : a ≤ A) (h3 : 0 ≤ b) (h4 : b ≤ B) : 0 ≤ a * b ∧ a * b ≤ A * B ∧ (1 ≤ a → 1 ≤ b → 1 ≤ a * b) := by
  refine ⟨Int.mul_nonneg h1 h3, Int.mul_le_mul h2 h4 h3 (by omega), fun g1 g2 => ?_⟩
  have := Int.mul_le_mul g1 g2 (by omega) h1
  omega
end
section
/-! short forms (wip/tool/speed.py) -/
theorem pw_dp {a b d : Nat} (h : b ≤ d) (q : a + 1 ≤ b) : a ≤ d - 1 := Nat.le_sub_of_add_le (Nat.le_trans q h)
section Pk
variable {X : List (Nat × List Value)} {d : Nat} {h : pm_H} {m pc pc' len na nl own rt : Nat} {C : pm_T (Instr × Nat)} {ls : pm_L} {r : List Value} {Q : pm_H → (Option Value ⊕ Unit) → Prop} {i : Instr}
theorem pw_getI2 {ix c ci k t a : Nat} {sps : List pw_F} {lo hi : Int} (I : pw_I h) (he : pm_ent m = some (na, nl, own, rt, C)) (hq : pm_get C pc = some (.getfield ix, len)) (hl : pm_get (pm_lnk own) ix = some (0, ci, k, t)) (hs : pw_T[c]? = some (.inr (ci, sps))) (hk : sps[k]? = some (0, lo, hi)) (ha : 16 + c = a) (hc : pc + len = pc') (H : lo ≤ pw_g h c k → pw_g h c k ≤ hi → pw X d h m pc' ls (pw_i (pw_g h c k) :: r) Q) : pw X d h m pc ls (.ref a :: r) Q :=
  pw_getI I he hq hl hs hk ha hc (fun a b _ _ => H a b)
theorem pw_ald2 {c t t' n a : Nat} {lo hi : Int} {j : Int} (I : pw_I h) (he : pm_ent m = some (na, nl, own, rt, C)) (hq : pm_get C pc = some (i, len)) (hdi : pm_dsp X i = pm_gAld X t t') (hs : pw_T[c]? = some (.inl (t, n, lo, hi))) (ht : t < 3) (ha : 16 + c = a) (hn : n ≤ 2147483647) (h0 : 0 ≤ j) (h1 : j < n) (hc : pc + len = pc') (H : lo ≤ pw_g h c j.toNat → pw_g h c j.toNat ≤ hi → pw X d h m pc' ls (pw_i (pw_g h c j.toNat) :: r) Q) : pw X d h m pc ls (pw_i j :: .ref a :: r) Q :=
  pw_ald I he hq hdi hs ht ha hn h0 h1 hc (fun a b _ _ => H a b)
end Pk
end
