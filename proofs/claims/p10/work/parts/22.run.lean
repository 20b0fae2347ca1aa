/-! soundness of a frame, the run: by the number of steps -/
theorem pm_gC1 {ih : pm_I} {d : Nat} {h : pm_H} {m own pc : Nat} {ls : pm_L} {m' ci : Nat} {As rest : List Value} {o : pm_H × (Option Value ⊕ Unit)} (hg : pm_gC 1 ih d h m own pc ls m' ci As rest = some o) : ∃ a r fs, As = .ref a :: r ∧ pm_cell h a = some (.inr (ci, fs)) ∧ pm_call ih d h m pc ls m' As rest (Nat.beq own 13 && !Nat.beq m 309) = some o := by
  have hg : (match (generalizing := false) As with
    | .ref a :: _ => match pm_cell h a with
      | some (.inr (cj, _)) => cond (Nat.beq cj ci) (pm_call ih d h m pc ls m' As rest (Nat.beq own 13 && !Nat.beq m 309)) none
      | _ => none
    | _ => none) = some o := hg
  split at hg
  · rename_i a r
    split at hg
    · rename_i cj fs hcell
      replace hg := pm_cond_true hg
      obtain ⟨hcj, hg⟩ := hg
      have hcj := Nat.eq_of_beq_eq_true hcj
      subst hcj
      exact ⟨_, _, _, rfl, hcell, hg⟩
    · cases hg
  · cases hg
theorem pm_gC3 {ih : pm_I} {d : Nat} {h : pm_H} {m own pc : Nat} {ls : pm_L} {m' ci : Nat} {As rest : List Value} {o : pm_H × (Option Value ⊕ Unit)} (hg : pm_gC 3 ih d h m own pc ls m' ci As rest = some o) : ∃ a r, As = .ref a :: r ∧ pm_call ih d h m pc ls m' As rest false = some o := by
  have hg : (match (generalizing := false) As with
    | .ref _ :: _ => pm_call ih d h m pc ls m' As rest false
    | _ => none) = some o := hg
  split at hg
  · rename_i a r
    exact ⟨_, _, rfl, hg⟩
  · cases hg
set_option maxHeartbeats 2000000 in
theorem pm_FL {l : Launch} {X : List (Nat × List Value)} (hX : pm_X0 X) {D : va_G} {cA : Nat → ClassId} {A : Nat → Prop} {ad : Nat → Nat} : ∀ (n : Nat) {p : Program} {e : Env} {R : Room} {s : State} {mid : MethodId} {args : Array Value} {below : List Frame} {meth : Method} {c : Code} {H : Heap} {locs : List Loc} {cells slots : Nat} {Q : State → Prop} {m : Nat} {E : pm_M} {y : pm_Hd} {hb sb : Nat} {h : pm_H} {d pc : Nat} {ls : pm_L} {st : List Value} {o : pm_H × (Option Value ⊕ Unit)},
    (m = 324 ∨ (pm_Fill l X ∧ d + 10 ≤ R.frames ∧ 100 * d + 200 ≤ R.locals)) → E.2.2.1 ≠ 13 → pm_Fr p s mid args meth c D cA A ad X m E y → pm_At s D cA A ad m hb sb 0 h H locs cells slots → (o.1.length ≤ R.cells + hb ∧ pm_slt o.1 ≤ R.slots + sb) →
    (∀ H1 locs1 cells1 slots1 pc1 ls1 st1, pm_At s D cA A ad m hb sb 0 o.1 H1 locs1 cells1 slots1 → pm_End y E o.2 pc1 st1 → (∀ z, o.2 = .inr z → pm_scH o.1 = true) → pm_J p l e R s mid args below meth c H1 locs1 cells1 slots1 Q ad E.2.1 pc1 ls1 st1) →
    pm_x X n d h m pc ls st = some o → pm_J p l e R s mid args below meth c H locs cells slots Q ad E.2.1 pc ls st
  | 0, _, _, _, _, _, _, _, _, _, _, _, _, _, _, _, _, _, _, _, _, _, _, _, _, o, _, _, _, _, _, _, hr => nomatch (show (none : pm_R) = some o from hr)
  | n + 1, p, e, R, s, mid, args, below, meth, c, H, locs, cells, slots, Q, m, E, y, hb, sb, h, d, pc, ls, st, o, hf, hown, F, hA, hfin, hend, hr => by
    have he := F.2.2.2.2.2.2.2.1
    have hy := F.2.2.2.2.2.2.2.2.1
    have hr : pm_F X (pm_x X n) d h m pc ls st = some o := hr
    unfold pm_F at hr
    rw [he] at hr
    dsimp only at hr
    have hm309 : m ≠ 309 := by
      rintro rfl
      have h9 := pm_o309
      rw [he] at h9
      exact hown (Option.some.inj h9)
    split at hr
    · cases hr
    · rename_i q hq
      obtain ⟨i, len⟩ := q
      obtain ⟨k1, k2, k3⟩ := pm_code he hy hq
      have hroom : ∀ (h1 : pm_H) (q : Nat) (ls : pm_L) (st : List Value), pm_x X n d h1 m q ls st = some o → h1.length + 0 ≤ R.cells + hb ∧ pm_slt h1 + 6 * 0 ≤ R.slots + sb := by
        intro h1 q ls st hz
        have hm := pm_mono X n _ _ _ _ _ _ _ hz
        have m1 := hm.1
        have m2 := hm.2
        obtain ⟨f1, f2⟩ := hfin
        exact ⟨by omega, by omega⟩
      have hK : ∀ h1 H1 locs1 cells1 slots1 q ls st, pm_At s D cA A ad m hb sb 0 h1 H1 locs1 cells1 slots1 → pm_x X n d h1 m q ls st = some o → pm_J p l e R s mid args below meth c H1 locs1 cells1 slots1 Q ad E.2.1 q ls st :=
        fun h1 H1 locs1 cells1 slots1 q ls st hA1 hz => pm_FL hX n hf hown F hA1 hfin hend hz
      refine pm_one F hX hA k1 k2 k3 hroom hK (fun e1 e2 e3 => hend H locs cells slots pc ls st (by rw [e1]; exact hA) e2 (fun z hz => by rw [e1]; exact e3 z hz)) (fun how ix hi hlen hg => ?_) hr
      have hF : pm_Fill l X ∧ d + 10 ≤ R.frames ∧ 100 * d + 200 ≤ R.locals := by
        rcases hf with rfl | hf
        · exfalso
          have ee : E = (2, 4, 14, 4, pmc_324) := Option.some.inj (he.symm.trans pm_e324)
          subst ee
          obtain ⟨c9, hc9, hm9⟩ := pm_get_mem hq
          have h9 := List.all_eq_true.mp (List.all_eq_true.mp pm_no_inv c9 hc9) _ hm9
          rcases hi with ⟨-, rfl⟩ | ⟨-, rfl⟩ | ⟨-, rfl⟩ <;> cases h9
        · exact hf
      obtain ⟨hF, hR⟩ := hF
      subst hlen
      unfold pm_gInv at hg
      split at hg
      · rename_i kind m' na ci hl
        have hd2 : how = 2 → decode (pm_byt y.2.1) pc = .ok (.invokestatic ix, 3) := by
          rintro rfl
          rcases hi with ⟨q, -⟩ | ⟨-, rfl⟩ | ⟨q, -⟩
          · cases q
          · exact k1
          · cases q
        have hd3 : how = 3 → decode (pm_byt y.2.1) pc = .ok (.invokespecial ix, 3) := by
          rintro rfl
          rcases hi with ⟨q, -⟩ | ⟨q, -⟩ | ⟨-, rfl⟩
          · cases q
          · cases q
          · exact k1
        have hd1 : how = 1 → decode (pm_byt y.2.1) pc = .ok (.invokevirtual ix, 3) := by
          rintro rfl
          rcases hi with ⟨-, rfl⟩ | ⟨q, -⟩ | ⟨q, -⟩
          · exact k1
          · cases q
          · cases q
        have hhow : how = 1 ∨ how = 2 ∨ how = 3 := by
          rcases hi with ⟨q, -⟩ | ⟨q, -⟩ | ⟨q, -⟩
          · exact Or.inl q
          · exact Or.inr (Or.inl q)
          · exact Or.inr (Or.inr q)
        cases hk : Nat.beq kind 12 with
        | true =>
          rw [hk, cond_true] at hg
          replace hg := pm_cond_true hg
          obtain ⟨hb1, hg⟩ := hg
          have hk := Nat.eq_of_beq_eq_true hk
          subst hk
          have hb1 := Nat.eq_of_beq_eq_true hb1
          refine pm_jPrim F hA hl hb1 ⟨hd2, hd3⟩ (Or.inl hm309) hR hroom (fun z k v r q g1 g2 g3 g4 g5 g6 g7 => ?_) hK hg
          subst g1; subst g7
          exact pm_jFill hF F hA hl (hd2 hb1) hR hroom g2 g3 g4 g5 hK g6
        | false =>
          rw [hk, cond_false] at hg
          rcases Bool.eq_false_or_eq_true (Nat.beq kind 15) with hk15 | hk15
          · rw [hk15, cond_true] at hg
            replace hg := pm_cond_true hg
            obtain ⟨hb1, hg⟩ := hg
            have hk15 := Nat.eq_of_beq_eq_true hk15
            subst hk15
            exact pm_jStr F hA hl (hd1 (Nat.eq_of_beq_eq_true hb1)) hR hroom hK hg
          rw [hk15, cond_false] at hg
          split at hg
          · rename_i As rest hpop
            replace hg := pm_cond_true hg
            obtain ⟨hc8, hg⟩ := hg
            cases hkh : Nat.beq kind how with
            | true =>
              rw [hkh, cond_true] at hg
              have hkh := Nat.eq_of_beq_eq_true hkh
              subst hkh
              have hown2 : Nat.beq E.2.2.1 13 = false := by
                cases hz : Nat.beq E.2.2.1 13 with
                | true => exact absurd (Nat.eq_of_beq_eq_true hz) hown
                | false => rfl
              have hM : ∀ d' m' y' e' As h1 v, pm_get pm_hds m' = some y' → pm_ent m' = some e' → pm_get pm_kdt m' = some kind → As.length = e'.1 → (pm_lay As e'.2.1).length = e'.2.1 → pm_x X n d' h m' 0 (pm_lay As e'.2.1) [] = some (h1, .inl v) → pm_Mt l D cA A ad X y' e' d' h As h1 v := by
                intro d' m' y' e' As h1 v g1 g2 g3 g4 g5 g6
                obtain ⟨y3, e3, ps, r1, r2, r3⟩ := pm_head g3
                have ey : y3 = y' := Option.some.inj (r1.symm.trans g1)
                have ee : e3 = e' := Option.some.inj (r2.symm.trans g2)
                subst ey; subst ee
                obtain ⟨w1, w2, w3, w4, w5, w6, -⟩ := pm_hd_ok r3 hhow
                have hmn := pm_mono X n _ _ _ _ _ _ _ g6
                refine pm_MtOf (m := m') (rm := pm_rm d' (h1.length - h.length) (pm_slt h1 - pm_slt h)) rfl rfl rfl rfl g2 g1 w6 w3 w4 g5 (fun {p e s mid args below meth c Q} F9 hA9 hend9 => ?_)
                exact pm_FL hX n (Or.inr ⟨hF, Nat.le_refl _, Nat.le_refl _⟩) (pm_own g3 g2 hhow) F9 hA9 ⟨by have := hmn.1; show h1.length ≤ (h1.length - h.length) + h.length; omega, by have := hmn.2; show pm_slt h1 ≤ (pm_slt h1 - pm_slt h) + pm_slt h; omega⟩ (fun H1 locs1 cells1 slots1 pc1 ls1 st1 q1 q2 _ => hend9 H1 locs1 cells1 slots1 pc1 ls1 st1 q1 q2) g6
              have hmono : ∀ d' h0 m0 q ls st h1 v, pm_x X n d' h0 m0 q ls st = some (h1, v) → pm_le h0 h1 := fun d' h0 m0 q ls st h1 v hz => pm_mono X n _ _ _ _ _ _ _ hz
              rcases hhow with rfl | rfl | rfl
              · obtain ⟨a, r, fs, rfl, hcell, hg⟩ := pm_gC1 hg
                rw [hown2, Bool.false_and] at hg
                exact pm_jCall F hA hl (Or.inl rfl) ⟨hd1, hd2, hd3⟩ hpop hc8 (fun _ => ⟨a, r, fs, rfl, hcell⟩) (fun q => by cases q) hR hroom hmono hM hK hg
              · have hg : pm_call (pm_x X n) d h m pc ls m' As rest false = some o := hg
                exact pm_jCall F hA hl (Or.inr (Or.inl rfl)) ⟨hd1, hd2, hd3⟩ hpop hc8 (fun q => by cases q) (fun q => by cases q) hR hroom hmono hM hK hg
              · obtain ⟨a, r, rfl, hg⟩ := pm_gC3 hg
                exact pm_jCall F hA hl (Or.inr (Or.inr rfl)) ⟨hd1, hd2, hd3⟩ hpop hc8 (fun q => by cases q) (fun _ => ⟨a, r, rfl⟩) hR hroom hmono hM hK hg
            | false =>
              rw [hkh, cond_false] at hg
              replace hg := pm_cond_true hg
              obtain ⟨hb2, -⟩ := hg
              rw [Bool.and_eq_true, Bool.and_eq_true] at hb2
              exact absurd (Nat.eq_of_beq_eq_true hb2.2.2) hown
          · cases hg
      · cases hg
