/-! a helper's frame: its run -/
theorem pm_call_hnd {ih : pm_I} {d : Nat} {h : pm_H} {m pc : Nat} {ls : pm_L} {m' : Nat} {As rest : List Value} {o : pm_H × (Option Value ⊕ Unit)} (hg : pm_call ih d h m pc ls m' As rest true = some o) : pm_call ih d h m pc ls m' As rest false = some o ∨ ∃ d' e' h1 u, d = d' + 1 ∧ pm_ent m' = some e' ∧ (pm_lay As e'.2.1).length = e'.2.1 ∧ ih d' h m' 0 (pm_lay As e'.2.1) [] = some (h1, .inr u) ∧ o = (h1, .inl (some (.int 1))) := by
  unfold pm_call at hg ⊢
  cases d with
  | zero => cases hg
  | succ d' =>
    dsimp only at hg ⊢
    cases he : pm_ent m' with
    | none => rw [he] at hg; cases hg
    | some e' =>
      rw [he] at hg
      dsimp only at hg ⊢
      cases hb : Nat.beq (pm_len (pm_lay As e'.2.1)) e'.2.1 with
      | false => rw [hb] at hg; cases hg
      | true =>
        rw [hb, cond_true] at hg
        rw [cond_true]
        rw [pm_len_eq] at hb
        cases hr : ih d' h m' 0 (pm_lay As e'.2.1) [] with
        | none => rw [hr] at hg; cases hg
        | some w =>
          obtain ⟨h1, v⟩ := w
          cases v with
          | inl v => rw [hr] at hg; exact Or.inl hg
          | inr u =>
            rw [hr] at hg
            refine Or.inr ⟨d', e', h1, u, rfl, rfl, Nat.eq_of_beq_eq_true hb, hr, ?_⟩
            exact (Option.some.inj hg).symm
set_option maxHeartbeats 2000000 in
theorem pm_FH {l : Launch} (hlt : l.stackTraces = false) {X : List (Nat × List Value)} (hX : pm_X0 X) {D : va_G} {cA : Nat → ClassId} {A : Nat → Prop} {ad : Nat → Nat} : ∀ (n : Nat) {p : Program} {e : Env} {R : Room} {s : State} {mid : MethodId} {args : Array Value} {below : List Frame} {meth : Method} {c : Code} {H : Heap} {locs : List Loc} {cells slots : Nat} {Q : State → Prop} {m : Nat} {E : pm_M} {y : pm_Hd} {hb sb : Nat} {h : pm_H} {d pc : Nat} {ls : pm_L} {st : List Value} {o : pm_H × (Option Value ⊕ Unit)},
    (d + 10 ≤ R.frames ∧ 100 * d + 200 ≤ R.locals) → E.2.2.1 = 13 → m ≠ 309 → (∀ pc ix len, pm_get E.2.2.2.2 pc ≠ some (.invokestatic ix, len)) → pm_Fr p s mid args meth c D cA A ad X m E y → pm_At s D cA A ad m hb sb 0 h H locs cells slots → (o.1.length + 1 ≤ R.cells + hb ∧ pm_slt o.1 + 6 ≤ R.slots + sb) →
    (∀ H1 locs1 cells1 slots1 pc1 ls1 st1, pm_At s D cA A ad m hb sb 0 o.1 H1 locs1 cells1 slots1 → pm_End y E o.2 pc1 st1 → (∀ z, o.2 = .inr z → pm_scH o.1 = true) → pm_J p l e R s mid args below meth c H1 locs1 cells1 slots1 Q ad E.2.1 pc1 ls1 st1) →
    (o.2 = .inl (some (.int 1)) → ∀ (pc1 ix : Nat) (ls1 : pm_L) (rest1 : List Value) (H1 Hm : Heap) (locs1 : List Loc) (cells1 slots1 : Nat) (q : Addr) (ce : Cell) (LS : Array Slot), decode (pm_byt y.2.1) pc1 = .ok (.invokevirtual ix, 3) → pm_get E.2.2.2.2 pc1 = some (.invokevirtual ix, 3) → pm_lr ad E.2.1 ls1 LS → pm_scH o.1 = true → pm_rel D cA A ad o.1 Hm → Hm.size ≤ H1.size → (∀ q : Nat, q < Hm.size → H1[q]? = Hm[q]?) → va_S A s.heap H1 locs1 → H1[q]? = some ce → ce.vm = .none → s.vm.findClass pm_nse = some ce.cls → cells1 + hb = o.1.length + 1 → slots1 + sb = pm_slt o.1 + 6 → vx_W p l e R s mid args below meth c H1 locs1 cells1 slots1 Q (F0 mid pc1 LS rest1) q) →
    pm_x X n d h m pc ls st = some o → pm_J p l e R s mid args below meth c H locs cells slots Q ad E.2.1 pc ls st
  | 0, _, _, _, _, _, _, _, _, _, _, _, _, _, _, _, _, _, _, _, _, _, _, _, _, o, _, _, _, _, _, _, _, _, _, hr => nomatch (show (none : pm_R) = some o from hr)
  | n + 1, p, e, R, s, mid, args, below, meth, c, H, locs, cells, slots, Q, m, E, y, hb, sb, h, d, pc, ls, st, o, hR, hown, hm309, hns, F, hA, hfin, hend, hcat, hr => by
    have he := F.2.2.2.2.2.2.2.1
    have hy := F.2.2.2.2.2.2.2.2.1
    have hr : pm_F X (pm_x X n) d h m pc ls st = some o := hr
    unfold pm_F at hr
    rw [he] at hr
    dsimp only at hr
    split at hr
    · cases hr
    · rename_i q hq
      obtain ⟨i, len⟩ := q
      obtain ⟨k1, k2, k3⟩ := pm_code he hy hq
      have hroom : ∀ (h1 : pm_H) (q : Nat) (ls : pm_L) (st : List Value), pm_x X n d h1 m q ls st = some o → h1.length + 0 ≤ R.cells + hb ∧ pm_slt h1 + 6 * 0 ≤ R.slots + sb := by
        intro h1 q ls st hz
        have hm := pm_mono X n _ _ _ _ _ _ _ hz
        have m1 := hm.1
        have m2 := hm.2
        obtain ⟨f1, f2⟩ := hfin
        exact ⟨by omega, by omega⟩
      have hK : ∀ h1 H1 locs1 cells1 slots1 q ls st, pm_At s D cA A ad m hb sb 0 h1 H1 locs1 cells1 slots1 → pm_x X n d h1 m q ls st = some o → pm_J p l e R s mid args below meth c H1 locs1 cells1 slots1 Q ad E.2.1 q ls st :=
        fun h1 H1 locs1 cells1 slots1 q ls st hA1 hz => pm_FH hlt hX n hR hown hm309 hns F hA1 hfin hend hcat hz
      refine pm_one F hX hA k1 k2 k3 hroom hK (fun e1 e2 e3 => hend H locs cells slots pc ls st (by rw [e1]; exact hA) e2 (fun z hz => by rw [e1]; exact e3 z hz)) (fun how ix hi hlen hg => ?_) hr
      have hF : pm_Fill l X := pm_fill hX
      subst hlen
      unfold pm_gInv at hg
      split at hg
      · rename_i kind m' na ci hl
        have hd2 : how = 2 → decode (pm_byt y.2.1) pc = .ok (.invokestatic ix, 3) := by
          rintro rfl
          rcases hi with ⟨q, -⟩ | ⟨-, rfl⟩ | ⟨q, -⟩
          · cases q
          · exact k1
          · cases q
        have hd3 : how = 3 → decode (pm_byt y.2.1) pc = .ok (.invokespecial ix, 3) := by
          rintro rfl
          rcases hi with ⟨q, -⟩ | ⟨q, -⟩ | ⟨-, rfl⟩
          · cases q
          · cases q
          · exact k1
        have hd1 : how = 1 → decode (pm_byt y.2.1) pc = .ok (.invokevirtual ix, 3) := by
          rintro rfl
          rcases hi with ⟨-, rfl⟩ | ⟨q, -⟩ | ⟨q, -⟩
          · exact k1
          · cases q
          · cases q
        have hhow : how = 1 ∨ how = 2 ∨ how = 3 := by
          rcases hi with ⟨q, -⟩ | ⟨q, -⟩ | ⟨q, -⟩
          · exact Or.inl q
          · exact Or.inr (Or.inl q)
          · exact Or.inr (Or.inr q)
        cases hk : Nat.beq kind 12 with
        | true =>
          rw [hk, cond_true] at hg
          replace hg := pm_cond_true hg
          obtain ⟨hb1, hg⟩ := hg
          have hk := Nat.eq_of_beq_eq_true hk
          subst hk
          have hb1 := Nat.eq_of_beq_eq_true hb1
          refine pm_jPrim F hA hl hb1 ⟨hd2, hd3⟩ (Or.inl hm309) hR hroom (fun z k v r q g1 g2 g3 g4 g5 g6 g7 => ?_) hK hg
          subst g1; subst g7
          exact pm_jFill hF F hA hl (hd2 hb1) hR hroom g2 g3 g4 g5 hK g6
        | false =>
          rw [hk, cond_false] at hg
          rcases Bool.eq_false_or_eq_true (Nat.beq kind 15) with hk15 | hk15
          · rw [hk15, cond_true] at hg
            replace hg := pm_cond_true hg
            obtain ⟨hb1, hg⟩ := hg
            have hk15 := Nat.eq_of_beq_eq_true hk15
            subst hk15
            exact pm_jStr F hA hl (hd1 (Nat.eq_of_beq_eq_true hb1)) hR hroom hK hg
          rw [hk15, cond_false] at hg
          split at hg
          · rename_i As rest hpop
            replace hg := pm_cond_true hg
            obtain ⟨hc8, hg⟩ := hg
            cases hkh : Nat.beq kind how with
            | true =>
              rw [hkh, cond_true] at hg
              have hkh := Nat.eq_of_beq_eq_true hkh
              subst hkh
              have hM : ∀ d' m' y' e' As h1 v, pm_get pm_hds m' = some y' → pm_ent m' = some e' → pm_get pm_kdt m' = some kind → As.length = e'.1 → (pm_lay As e'.2.1).length = e'.2.1 → pm_x X n d' h m' 0 (pm_lay As e'.2.1) [] = some (h1, .inl v) → pm_Mt l D cA A ad X y' e' d' h As h1 v := by
                intro d' m' y' e' As h1 v g1 g2 g3 g4 g5 g6
                obtain ⟨y3, e3, ps, r1, r2, r3⟩ := pm_head g3
                have ey : y3 = y' := Option.some.inj (r1.symm.trans g1)
                have ee : e3 = e' := Option.some.inj (r2.symm.trans g2)
                subst ey; subst ee
                obtain ⟨w1, w2, w3, w4, w5, w6, -⟩ := pm_hd_ok r3 hhow
                have hmn := pm_mono X n _ _ _ _ _ _ _ g6
                refine pm_MtOf (m := m') (rm := pm_rm d' (h1.length - h.length) (pm_slt h1 - pm_slt h)) rfl rfl rfl rfl g2 g1 w6 w3 w4 g5 (fun {p e s mid args below meth c Q} F9 hA9 hend9 => ?_)
                exact pm_FL hX n (Or.inr ⟨hF, Nat.le_refl _, Nat.le_refl _⟩) (pm_own g3 g2 hhow) F9 hA9 ⟨by have := hmn.1; show h1.length ≤ (h1.length - h.length) + h.length; omega, by have := hmn.2; show pm_slt h1 ≤ (pm_slt h1 - pm_slt h) + pm_slt h; omega⟩ (fun H1 locs1 cells1 slots1 pc1 ls1 st1 q1 q2 _ => hend9 H1 locs1 cells1 slots1 pc1 ls1 st1 q1 q2) g6
              have hmono : ∀ d' h0 m0 q ls st h1 v, pm_x X n d' h0 m0 q ls st = some (h1, v) → pm_le h0 h1 := fun d' h0 m0 q ls st h1 v hz => pm_mono X n _ _ _ _ _ _ _ hz
              rcases hhow with rfl | rfl | rfl
              · obtain ⟨a, r, fs, rfl, hcell, hg⟩ := pm_gC1 hg
                have e309 : Nat.beq m 309 = false := by
                  cases hz : Nat.beq m 309 with
                  | true => exact absurd (Nat.eq_of_beq_eq_true hz) hm309
                  | false => rfl
                rw [hown, e309] at hg
                have hg : pm_call (pm_x X n) d h m pc ls m' (.ref a :: r) rest true = some o := hg
                rcases pm_call_hnd hg with hg | ⟨d', e', h1, u, rfl, g1, g2, g3, rfl⟩
                rotate_left
                · have hmn := pm_mono X n _ _ _ _ _ _ _ g3
                  have m1 : h.length ≤ h1.length := hmn.1
                  have m2 : pm_slt h ≤ pm_slt h1 := hmn.2
                  have a4 : cells + hb = h.length + 0 := hA.2.2.2.1
                  have a5 : slots + sb = pm_slt h + 6 * 0 := hA.2.2.2.2
                  have hq1 : i = .invokevirtual ix := by
                    rcases hi with ⟨-, q⟩ | ⟨q, -⟩ | ⟨q, -⟩
                    · exact q
                    · cases q
                    · cases q
                  subst hq1
                  refine pm_jThrown hlt hX F hown hA hl k1 hpop hc8 ⟨a, r, fs, rfl, hcell⟩ ⟨by omega, by omega⟩ hfin g1 g2 g3 (fun H1 Hm locs1 q ce LS9 z1 z2 z3 z4 z5 z6 z7 z8 z9 => ?_)
                  exact hcat rfl pc ix ls _ H1 Hm locs1 (cells + (h1.length - h.length + 1)) (slots + (pm_slt h1 - pm_slt h + 6)) q ce LS9 k1 hq z1 z2 z3 z4 z5 z6 z7 z8 z9 (by show cells + (h1.length - h.length + 1) + hb = h1.length + 1; omega) (by show slots + (pm_slt h1 - pm_slt h + 6) + sb = pm_slt h1 + 6; omega)
                exact pm_jCall F hA hl (Or.inl rfl) ⟨hd1, hd2, hd3⟩ hpop hc8 (fun _ => ⟨a, r, fs, rfl, hcell⟩) (fun q => by cases q) hR hroom hmono hM hK hg
              · have hg : pm_call (pm_x X n) d h m pc ls m' As rest false = some o := hg
                exact pm_jCall F hA hl (Or.inr (Or.inl rfl)) ⟨hd1, hd2, hd3⟩ hpop hc8 (fun q => by cases q) (fun q => by cases q) hR hroom hmono hM hK hg
              · obtain ⟨a, r, rfl, hg⟩ := pm_gC3 hg
                exact pm_jCall F hA hl (Or.inr (Or.inr rfl)) ⟨hd1, hd2, hd3⟩ hpop hc8 (fun q => by cases q) (fun _ => ⟨a, r, rfl⟩) hR hroom hmono hM hK hg
            | false =>
              rw [hkh, cond_false] at hg
              replace hg := pm_cond_true hg
              obtain ⟨hb2, -⟩ := hg
              rw [Bool.and_eq_true, Bool.and_eq_true] at hb2
              have hh2 := Nat.eq_of_beq_eq_true hb2.2.1
              subst hh2
              exfalso
              rcases hi with ⟨q, -⟩ | ⟨-, q⟩ | ⟨q, -⟩
              · cases q
              · subst q
                exact hns pc ix 3 hq
              · cases q
          · cases hg
      · cases hg
