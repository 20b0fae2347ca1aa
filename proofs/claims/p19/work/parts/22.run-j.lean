section
/-! soundness of a frame, the run: by the number of steps -/
theorem pm_gC1 {ih : pm_I} {d : Nat} {h : pm_H} {m own pc : Nat} {ls : pm_L} {m' ci : Nat} {As rest : List Value} {o : pm_H × (Option Value ⊕ Unit)} (hg : pm_gC 1 ih d h m own pc ls m' ci As rest = some o) : ∃ a r fs, As = .ref a :: r ∧ pm_cell h a = some (.inr (ci, fs)) ∧ pm_call ih d h m pc ls m' As rest (Nat.beq own 13 && !Nat.beq m 309) = some o := by
  have hg : (match (generalizing := false) As with
    | .ref a :: _ => match pm_cell h a with
      | some (.inr (cj, _)) => cond (Nat.beq cj ci) (pm_call ih d h m pc ls m' As rest (Nat.beq own 13 && !Nat.beq m 309)) none
      | _ => none
    | _ => none) = some o := hg
  split at hg
  · rename_i a r
    split at hg
    · rename_i cj fs hcell
      replace hg := pm_cond_true hg
      obtain ⟨hcj, hg⟩ := hg
      have hcj := Nat.eq_of_beq_eq_true hcj
      subst hcj
      exact ⟨_, _, _, rfl, hcell, hg⟩
    · cases hg
  · cases hg
theorem pm_gC3 {ih : pm_I} {d : Nat} {h : pm_H} {m own pc : Nat} {ls : pm_L} {m' ci : Nat} {As rest : List Value} {o : pm_H × (Option Value ⊕ Unit)} (hg : pm_gC 3 ih d h m own pc ls m' ci As rest = some o) : ∃ a r, As = .ref a :: r ∧ pm_call ih d h m pc ls m' As rest false = some o := by
  have hg : (match (generalizing := false) As with
    | .ref _ :: _ => pm_call ih d h m pc ls m' As rest false
    | _ => none) = some o := hg
  split at hg
  · rename_i a r
    exact ⟨_, _, rfl, hg⟩
  · cases hg
set_option maxHeartbeats 2000000 in
theorem pm_FL {l : Launch} {X : List (Nat × List Value)} (hX : pm_X0 X) {D : va_G} {cA : Nat → ClassId} {A : Nat → Prop} {ad : Nat → Nat} : ∀ (n : Nat) {p : Program} {e : Env} {R : Room} {s : State} {mid : MethodId} {args : Array Value} {below : List Frame} {meth : Method} {c : Code} {H : Heap} {locs : List Loc} {cells slots : Nat} {Q : State → Prop} {m : Nat} {E : pm_M} {y : pm_Hd} {hb sb : Nat} {h : pm_H} {d pc : Nat} {ls : pm_L} {st : List Value} {o : pm_H × (Option Value ⊕ Unit)},
    (m = 324 ∨ (pm_Fill l X ∧ d + 10 ≤ R.frames ∧ 100 * d + 200 ≤ R.locals)) → E.2.2.1 ≠ 13 → pm_Fr p s mid args meth c D cA A ad X m E y → pm_At s D cA A ad m hb sb 0 h H locs cells slots → (o.1.length ≤ R.cells + hb ∧ pm_slt o.1 ≤ R.slots + sb) →
    (∀ H1 locs1 cells1 slots1 pc1 ls1 st1, pm_At s D cA A ad m hb sb 0 o.1 H1 locs1 cells1 slots1 → pm_End y E o.2 pc1 st1 → (∀ z, o.2 = .inr z → pm_scH o.1 = true) → pm_J p l e R s mid args below meth c H1 locs1 cells1 slots1 Q ad E.2.1 pc1 ls1 st1) →
    pm_x X n d h m pc ls st = some o → pm_J p l e R s mid args below meth c H locs cells slots Q ad E.2.1 pc ls st
  | 0, _, _, _, _, _, _, _, _, _, _, _, _, _, _, _, _, _, _, _, _, _, _, _, _, o, _, _, _, _, _, _, hr => nomatch (show (none : pm_R) = some o from hr)
  | n + 1, p, e, R, s, mid, args, below, meth, c, H, locs, cells, slots, Q, m, E, y, hb, sb, h, d, pc, ls, st, o, hf, hown, F, hA, hfin, hend, hr => by
    have he := F.2.2.2.2.2.2.2.1
    have hy := F.2.2.2.2.2.2.2.2.1
    have hr : pm_F X (pm_x X n) d h m pc ls st = some o := hr
    unfold pm_F at hr
    rw [he] at hr
    dsimp only at hr
    have hm309 : m ≠ 309 := by
      rintro rfl
      have h9 := pm_o309
      rw [he] at h9
      exact hown (Option.some.inj h9)
    split at hr
    · cases hr
    · rename_i q hq
      obtain ⟨i, len⟩ := q
      obtain ⟨k1, k2, k3⟩ := pm_code he hy hq
      have hroom : ∀ (h1 : pm_H) (q : Nat) (ls : pm_L) (st : List Value), pm_x X n d h1 m q ls st = some o → h1.length + 0 ≤ R.cells + hb ∧ pm_slt h1 + 6 * 0 ≤ R.slots + sb := by
        intro h1 q ls st hz
        have hm := pm_mono X n _ _ _ _ _ _ _ hz
        have m1 := hm.1
        have m2 := hm.2
        obtain ⟨f1, f2⟩ := hfin
        exact ⟨by omega, by omega⟩
      have hK : ∀ h1 H1 locs1 cells1 slots1 q ls st, pm_At s D cA A ad m hb sb 0 h1 H1 locs1 cells1 slots1 → pm_x X n d h1 m q ls st = some o → pm_J p l e R s mid args below meth c H1 locs1 cells1 slots1 Q ad E.2.1 q ls st :=
        fun h1 H1 locs1 cells1 slots1 q ls st hA1 hz => pm_FL hX n hf hown F hA1 hfin hend hz
      refine pm_one F hX hA k1 k2 k3 hroom hK (fun e1 e2 e3 => hend H locs cells slots pc ls st (by rw [e1]; exact hA) e2 (fun z hz => by rw [e1]; exact e3 z hz)) (fun how ix hi hlen hg => ?_) hr
      have hF : pm_Fill l X ∧ d + 10 ≤ R.frames ∧ 100 * d + 200 ≤ R.locals := by
        rcases hf with rfl | hf
        · exfalso
          have ee : E = (2, 4, 14, 4, pmc_324) := Option.some.inj (he.symm.trans pm_e324)
          subst ee
          obtain ⟨c9, hc9, hm9⟩ := pm_get_mem hq
          have h9 := List.all_eq_true.mp (List.all_eq_true.mp pm_no_inv c9 hc9) _ hm9
          rcases hi with ⟨-, rfl⟩ | ⟨-, rfl⟩ | ⟨-, rfl⟩ <;> cases h9
        · exact hf
      obtain ⟨hF, hR⟩ := hF
      subst hlen
      unfold pm_gInv at hg
      split at hg
      · rename_i kind m' na ci hl
        have hd2 : how = 2 → decode (pm_byt y.2.1) pc = .ok (.invokestatic ix, 3) := by
          rintro rfl
          rcases hi with ⟨q, -⟩ | ⟨-, rfl⟩ | ⟨q, -⟩
          · cases q
          · exact k1
          · cases q
        have hd3 : how = 3 → decode (pm_byt y.2.1) pc = .ok (.invokespecial ix, 3) := by
          rintro rfl
          rcases hi with ⟨q, -⟩ | ⟨q, -⟩ | ⟨-, rfl⟩
          · cases q
          · cases q
          · exact k1
        have hd1 : how = 1 → decode (pm_byt y.2.1) pc = .ok (.invokevirtual ix, 3) := by
          rintro rfl
          rcases hi with ⟨-, rfl⟩ | ⟨q, -⟩ | ⟨q, -⟩
          · exact k1
          · cases q
          · cases q
        have hhow : how = 1 ∨ how = 2 ∨ how = 3 := by
          rcases hi with ⟨q, -⟩ | ⟨q, -⟩ | ⟨q, -⟩
          · exact Or.inl q
          · exact Or.inr (Or.inl q)
          · exact Or.inr (Or.inr q)
        cases hk : Nat.beq kind 12 with
        | true =>
          rw [hk, cond_true] at hg
          replace hg := pm_cond_true hg
          obtain ⟨hb1, hg⟩ := hg
          have hk := Nat.eq_of_beq_eq_true hk
          subst hk
          have hb1 := Nat.eq_of_beq_eq_true hb1
          refine pm_jPrim F hA hl hb1 ⟨hd2, hd3⟩ (Or.inl hm309) hR hroom (fun z k v r q g1 g2 g3 g4 g5 g6 g7 => ?_) hK hg
          subst g1; subst g7
          exact pm_jFill hF F hA hl (hd2 hb1) hR hroom g2 g3 g4 g5 hK g6
        | false =>
          rw [hk, cond_false] at hg
          rcases Bool.eq_false_or_eq_true (Nat.beq kind 15) with hk15 | hk15
          · rw [hk15, cond_true] at hg
            replace hg := pm_cond_true hg
            obtain ⟨hb1, hg⟩ := hg
            have hk15 := Nat.eq_of_beq_eq_true hk15
            subst hk15
            exact pm_jStr F hA hl (hd1 (Nat.eq_of_beq_eq_true hb1)) hR hroom hK hg
          rw [hk15, cond_false] at hg
          split at hg
          · rename_i As rest hpop
            replace hg := pm_cond_true hg
            obtain ⟨hc8, hg⟩ := hg
            cases hkh : Nat.beq kind how with
            | true =>
              rw [hkh, cond_true] at hg
              have hkh := Nat.eq_of_beq_eq_true hkh
              subst hkh
              have hown2 : Nat.beq E.2.2.1 13 = false := by
                cases hz : Nat.beq E.2.2.1 13 with
                | true => exact absurd (Nat.eq_of_beq_eq_true hz) hown
                | false => rfl
              have hM : ∀ d' m' y' e' As h1 v, pm_get pm_hds m' = some y' → pm_ent m' = some e' → pm_get pm_kdt m' = some kind → As.length = e'.1 → (pm_lay As e'.2.1).length = e'.2.1 → pm_x X n d' h m' 0 (pm_lay As e'.2.1) [] = some (h1, .inl v) → pm_Mt l D cA A ad X y' e' d' h As h1 v := by
                intro d' m' y' e' As h1 v g1 g2 g3 g4 g5 g6
                obtain ⟨y3, e3, ps, r1, r2, r3⟩ := pm_head g3
                have ey : y3 = y' := Option.some.inj (r1.symm.trans g1)
                have ee : e3 = e' := Option.some.inj (r2.symm.trans g2)
                subst ey; subst ee
                obtain ⟨w1, w2, w3, w4, w5, w6, -⟩ := pm_hd_ok r3 hhow
                have hmn := pm_mono X n _ _ _ _ _ _ _ g6
                refine pm_MtOf (m := m') (rm := pm_rm d' (h1.length - h.length) (pm_slt h1 - pm_slt h)) rfl rfl rfl rfl g2 g1 w6 w3 w4 g5 (fun {p e s mid args below meth c Q} F9 hA9 hend9 => ?_)
                exact pm_FL hX n (Or.inr ⟨hF, Nat.le_refl _, Nat.le_refl _⟩) (pm_own g3 g2 hhow) F9 hA9 ⟨by have := hmn.1; show h1.length ≤ (h1.length - h.length) + h.length; omega, by have := hmn.2; show pm_slt h1 ≤ (pm_slt h1 - pm_slt h) + pm_slt h; omega⟩ (fun H1 locs1 cells1 slots1 pc1 ls1 st1 q1 q2 _ => hend9 H1 locs1 cells1 slots1 pc1 ls1 st1 q1 q2) g6
              have hmono : ∀ d' h0 m0 q ls st h1 v, pm_x X n d' h0 m0 q ls st = some (h1, v) → pm_le h0 h1 := fun d' h0 m0 q ls st h1 v hz => pm_mono X n _ _ _ _ _ _ _ hz
              rcases hhow with rfl | rfl | rfl
              · obtain ⟨a, r, fs, rfl, hcell, hg⟩ := pm_gC1 hg
                rw [hown2, Bool.false_and] at hg
                exact pm_jCall F hA hl (Or.inl rfl) ⟨hd1, hd2, hd3⟩ hpop hc8 (fun _ => ⟨a, r, fs, rfl, hcell⟩) (fun q => by cases q) hR hroom hmono hM hK hg
              · have hg : pm_call (pm_x X n) d h m pc ls m' As rest false = some o := hg
                exact pm_jCall F hA hl (Or.inr (Or.inl rfl)) ⟨hd1, hd2, hd3⟩ hpop hc8 (fun q => by cases q) (fun q => by cases q) hR hroom hmono hM hK hg
              · obtain ⟨a, r, rfl, hg⟩ := pm_gC3 hg
                exact pm_jCall F hA hl (Or.inr (Or.inr rfl)) ⟨hd1, hd2, hd3⟩ hpop hc8 (fun q => by cases q) (fun _ => ⟨a, r, rfl⟩) hR hroom hmono hM hK hg
            | false =>
              rw [hkh, cond_false] at hg
              replace hg := pm_cond_true hg
              obtain ⟨hb2, -⟩ := hg
              rw [Bool.and_eq_true, Bool.and_eq_true] at hb2
              exact absurd (Nat.eq_of_beq_eq_true hb2.2.2) hown
          · cases hg
      · cases hg
end
section
/-! Arrays.fill: its loop on the machine, its contract -/
theorem pm_x_at {X : List (Nat × List Value)} {n m pc : Nat} {E : pm_M} {i : Instr} {len d : Nat} {h : pm_H} {ls : pm_L} {st : List Value} (he : pm_ent m = some E) (hg : pm_get E.2.2.2.2 pc = some (i, len)) : pm_x X (n + 1) d h m pc ls st = pm_dsp X i (pm_x X n) d h m E.2.2.1 pc len ls st := by
  rw [pm_x_succ]
  unfold pm_F
  rw [he]
  dsimp only
  rw [hg]
theorem pm_rw {α : Type} {a b c : α} (h1 : a = b) (h2 : b = c) : a = c := h1.trans h2
abbrev pm_fls (k : Nat) (z : Int32) (j n : Int32) : pm_L := [some (.ref (16 + k)), some (.int z), some (.int j), some (.int n)]
theorem pm_fill_loop (X : List (Nat × List Value)) (d k : Nat) (z : Int32) (N : Nat) (hN : N ≤ 60000) : ∀ (r j : Nat) (h : pm_H) (v : List Value), j + r = N → h[k]? = some (.inl (0, v)) → v.length = N → (∀ i : Nat, i < j → v[i]? = some (.int z)) →
    ∃ n, pm_x X n d h 324 5 (pm_fls k z (Int32.ofNat j) (Int32.ofNat N)) [] = some (h.set k (.inl (0, List.replicate N (.int z))), .inl none)
  | 0, j, h, v, hj, hk, hv, hz => by
    have hj : j = N := by omega
    subst hj
    refine ⟨4, ?_⟩
    have hvr : v = List.replicate j (.int z) := by
      apply List.ext_getElem?
      intro i
      rw [List.getElem?_replicate]
      by_cases hi : i < j
      · rw [if_pos hi]; exact hz i hi
      · rw [if_neg hi]; exact List.getElem?_eq_none (by omega)
    have hset : h.set k (.inl (0, List.replicate j (.int z))) = h := by
      rw [← hvr]
      apply List.ext_getElem?
      intro i
      by_cases hi : k = i
      · subst hi
        rw [List.getElem?_set_self (List.getElem?_eq_some_iff.mp hk).1, hk]
      · rw [List.getElem?_set_ne hi]
    rw [hset]
    refine pm_rw (pm_x_at pm_e324 rfl) ?_
    show pm_fn (5 + 1) (fun q => pm_x X 3 d h 324 q (pm_fls k z (Int32.ofNat j) (Int32.ofNat j)) [.int (Int32.ofNat j)]) = _
    rw [pm_fn_eq]
    refine pm_rw (pm_x_at pm_e324 rfl) ?_
    show pm_fn (6 + 1) (fun q => pm_x X 2 d h 324 q (pm_fls k z (Int32.ofNat j) (Int32.ofNat j)) [.int (Int32.ofNat j), .int (Int32.ofNat j)]) = _
    rw [pm_fn_eq]
    refine pm_rw (pm_x_at pm_e324 rfl) ?_
    show pm_to ((7 : Int) + 13) (fun t => cond (decide (Int32.ofNat j ≤ Int32.ofNat j)) (pm_x X 1 d h 324 t (pm_fls k z (Int32.ofNat j) (Int32.ofNat j)) []) (pm_fn (7 + 3) fun q => pm_x X 1 d h 324 q (pm_fls k z (Int32.ofNat j) (Int32.ofNat j)) [])) = _
    rw [decide_eq_true (Int32.le_refl _)]
    show pm_fn 20 (fun t => pm_x X 1 d h 324 t (pm_fls k z (Int32.ofNat j) (Int32.ofNat j)) []) = _
    rw [pm_fn_eq]
    refine pm_rw (pm_x_at pm_e324 rfl) ?_
    rfl
  | r + 1, j, h, v, hj, hk, hv, hz => by
    have hkl := (List.getElem?_eq_some_iff.mp hk).1
    obtain ⟨n, hn⟩ := pm_fill_loop X d k z N hN r (j + 1) (h.set k (.inl (0, v.set j (.int z)))) (v.set j (.int z)) (by omega) (by rw [List.getElem?_set_self hkl]) (by rw [List.length_set]; exact hv) (fun i hi => by
      by_cases hq : j = i
      · subst hq
        rw [List.getElem?_set_self (by omega)]
      · rw [List.getElem?_set_ne hq]
        exact hz i (by omega))
    rw [List.set_set] at hn
    refine ⟨n + 9, ?_⟩
    have hjN : (Int32.ofNat j).toInt = j := Int32.toInt_ofNat_of_lt (by omega)
    have hNN : (Int32.ofNat N).toInt = N := Int32.toInt_ofNat_of_lt (by omega)
    have hlt : ¬ Int32.ofNat N ≤ Int32.ofNat j := by
      rw [Int32.le_iff_toInt_le, hjN, hNN]
      omega
    have hneg : ¬ Int32.ofNat j < 0 := by
      rw [Int32.lt_iff_toInt_lt, hjN]
      have : (0 : Int32).toInt = 0 := rfl
      rw [this]; omega
    have hclamp : (Int32.ofNat j).toNatClampNeg = j := by
      show (Int32.ofNat j).toInt.toNat = j
      rw [hjN]; rfl
    have hinc : Int32.ofNat j + Int32.ofInt 1 = Int32.ofNat (j + 1) := by
      rw [Int32.ofNat_add]; rfl
    refine pm_rw (pm_x_at pm_e324 rfl) ?_
    show pm_fn (5 + 1) (fun q => pm_x X (n + 8) d h 324 q (pm_fls k z (Int32.ofNat j) (Int32.ofNat N)) [.int (Int32.ofNat j)]) = _
    rw [pm_fn_eq]
    refine pm_rw (pm_x_at pm_e324 rfl) ?_
    show pm_fn (6 + 1) (fun q => pm_x X (n + 7) d h 324 q (pm_fls k z (Int32.ofNat j) (Int32.ofNat N)) [.int (Int32.ofNat N), .int (Int32.ofNat j)]) = _
    rw [pm_fn_eq]
    refine pm_rw (pm_x_at pm_e324 rfl) ?_
    show pm_to ((7 : Int) + 13) (fun t => cond (decide (Int32.ofNat N ≤ Int32.ofNat j)) (pm_x X (n + 6) d h 324 t (pm_fls k z (Int32.ofNat j) (Int32.ofNat N)) []) (pm_fn (7 + 3) fun q => pm_x X (n + 6) d h 324 q (pm_fls k z (Int32.ofNat j) (Int32.ofNat N)) [])) = _
    rw [decide_eq_false hlt]
    show pm_fn (7 + 3) (fun q => pm_x X (n + 6) d h 324 q (pm_fls k z (Int32.ofNat j) (Int32.ofNat N)) []) = _
    rw [pm_fn_eq]
    refine pm_rw (pm_x_at pm_e324 rfl) ?_
    show pm_fn (10 + 1) (fun q => pm_x X (n + 5) d h 324 q (pm_fls k z (Int32.ofNat j) (Int32.ofNat N)) [.ref (16 + k)]) = _
    rw [pm_fn_eq]
    refine pm_rw (pm_x_at pm_e324 rfl) ?_
    show pm_fn (11 + 1) (fun q => pm_x X (n + 4) d h 324 q (pm_fls k z (Int32.ofNat j) (Int32.ofNat N)) [.int (Int32.ofNat j), .ref (16 + k)]) = _
    rw [pm_fn_eq]
    refine pm_rw (pm_x_at pm_e324 rfl) ?_
    show pm_fn (12 + 1) (fun q => pm_x X (n + 3) d h 324 q (pm_fls k z (Int32.ofNat j) (Int32.ofNat N)) [.int z, .int (Int32.ofNat j), .ref (16 + k)]) = _
    rw [pm_fn_eq]
    refine pm_rw (pm_x_at pm_e324 rfl) ?_
    have hcell : pm_cell h (16 + k) = some (.inl (0, v)) := by
      unfold pm_cell
      have : Nat.blt (16 + k) 16 = false := by
        cases hb : Nat.blt (16 + k) 16 with
        | false => rfl
        | true => have := pm_blt hb; omega
      rw [this, cond_false, pm_nth_eq, Nat.add_sub_cancel_left]
      exact hk
    have hin : pm_in (Int32.ofNat j) (pm_len v) = true := by
      unfold pm_in
      rw [decide_eq_false hneg, cond_false, hclamp, pm_len_eq, hv]
      exact Nat.ble_eq_true_of_le (by omega)
    show pm_gIst 0 (fun x => x) (pm_x X (n + 2)) d h 324 14 13 1 (pm_fls k z (Int32.ofNat j) (Int32.ofNat N)) [.int z, .int (Int32.ofNat j), .ref (16 + k)] = _
    unfold pm_gIst
    dsimp only
    rw [hcell]
    dsimp only
    rw [hin]
    show pm_fi z (fun y => pm_fn (13 + 1) fun q => pm_x X (n + 2) d (pm_set h (16 + k - 16) (.inl (0, pm_set v (Int32.ofNat j).toNatClampNeg (.int y)))) 324 q (pm_fls k z (Int32.ofNat j) (Int32.ofNat N)) []) = _
    rw [pm_fi_eq, pm_fn_eq, hclamp, pm_set_eq, pm_set_eq, Nat.add_sub_cancel_left]
    refine pm_rw (pm_x_at pm_e324 rfl) ?_
    show pm_fi (Int32.ofNat j + Int32.ofInt 1) (fun y => pm_fn (14 + 3) fun q => pm_x X (n + 1) d (h.set k (.inl (0, v.set j (.int z)))) 324 q (pm_fls k z y (Int32.ofNat N)) []) = _
    rw [pm_fi_eq, pm_fn_eq, hinc]
    refine pm_rw (pm_x_at pm_e324 rfl) ?_
    show pm_fn 5 (fun t => pm_x X n d (h.set k (.inl (0, v.set j (.int z)))) 324 t (pm_fls k z (Int32.ofNat (j + 1)) (Int32.ofNat N)) []) = _
    rw [pm_fn_eq]
    exact hn
theorem pm_fill_run (X : List (Nat × List Value)) (d k : Nat) (z : Int32) (h : pm_H) (v : List Value) (hk : h[k]? = some (.inl (0, v))) (hv : v.length ≤ 60000) : ∃ n, pm_x X n d h 324 0 (pm_lay [.ref (16 + k), .int z] 4) [] = some (h.set k (.inl (0, List.replicate v.length (.int z))), .inl none) := by
  obtain ⟨n, hn⟩ := pm_fill_loop X d k z v.length hv v.length 0 h v (by omega) hk rfl (fun i hi => by omega)
  refine ⟨n + 5, ?_⟩
  show pm_x X (n + 5) d h 324 0 [some (.ref (16 + k)), some (.int z), none, none] [] = _
  refine pm_rw (pm_x_at pm_e324 rfl) ?_
  show pm_fn (0 + 1) (fun q => pm_x X (n + 4) d h 324 q [some (.ref (16 + k)), some (.int z), none, none] [.int (Int32.ofInt 0)]) = _
  rw [pm_fn_eq]
  refine pm_rw (pm_x_at pm_e324 rfl) ?_
  show pm_fi (Int32.ofInt 0) (fun y => pm_fn (1 + 1) fun q => pm_x X (n + 3) d h 324 q [some (.ref (16 + k)), some (.int z), some (.int y), none] []) = _
  rw [pm_fi_eq, pm_fn_eq]
  refine pm_rw (pm_x_at pm_e324 rfl) ?_
  show pm_fn (2 + 1) (fun q => pm_x X (n + 2) d h 324 q [some (.ref (16 + k)), some (.int z), some (.int (Int32.ofInt 0)), none] [.ref (16 + k)]) = _
  rw [pm_fn_eq]
  refine pm_rw (pm_x_at pm_e324 rfl) ?_
  show pm_gLen X (pm_x X (n + 1)) d h 324 14 3 1 [some (.ref (16 + k)), some (.int z), some (.int (Int32.ofInt 0)), none] [.ref (16 + k)] = _
  have hrow : pm_row X h (16 + k) = some (0, v) := by
    unfold pm_row
    have : Nat.blt (16 + k) 16 = false := by
      cases hb : Nat.blt (16 + k) 16 with
      | false => rfl
      | true => have := pm_blt hb; omega
    rw [this, cond_false, pm_nth_eq, Nat.add_sub_cancel_left, hk]
  unfold pm_gLen
  dsimp only
  rw [hrow]
  show pm_fn (pm_len v) (fun z' => pm_fn (3 + 1) fun q => pm_x X (n + 1) d h 324 q [some (.ref (16 + k)), some (.int z), some (.int (Int32.ofInt 0)), none] [.int (Int32.ofNat z')]) = _
  rw [pm_fn_eq, pm_fn_eq, pm_len_eq]
  refine pm_rw (pm_x_at pm_e324 rfl) ?_
  show pm_fi (Int32.ofNat v.length) (fun y => pm_fn (4 + 1) fun q => pm_x X n d h 324 q [some (.ref (16 + k)), some (.int z), some (.int (Int32.ofInt 0)), some (.int y)] []) = _
  rw [pm_fi_eq, pm_fn_eq]
  exact hn
/-- the contract of Arrays.fill holds -/
theorem pm_fill {l : Launch} {X : List (Nat × List Value)} (hX : pm_X0 X) : pm_Fill l X := by
  intro D cA A ad y e h k v z hy he hk hv
  obtain ⟨n, hn⟩ := pm_fill_run X 0 k z h v hk hv
  have ee : e = (2, 4, 14, 4, pmc_324) := Option.some.inj (he.symm.trans pm_e324)
  have q3 : pm_get pm_kdt 324 = some 2 := by decide +kernel
  obtain ⟨y3, e3, ps, r1, r2, r3⟩ := pm_head q3
  have ey : y3 = y := Option.some.inj (r1.symm.trans hy)
  have ee3 : e3 = e := Option.some.inj (r2.symm.trans he)
  subst ey; subst ee3
  obtain ⟨w1, w2, w3, w4, w5, w6, -⟩ := pm_hd_ok r3 (Or.inr (Or.inl rfl))
  have hle := pm_mono X n _ _ _ _ _ _ _ hn
  refine pm_MtOf (m := 324) rfl rfl rfl rfl he hy w6 w3 w4 (by rw [ee]; rfl) (fun {p e s mid args below meth c Q} F9 hA9 hend9 => ?_)
  rw [← show (pm_lay [.ref (16 + k), .int z] 4) = pm_lay [.ref (16 + k), .int z] e3.2.1 by rw [ee]]
  exact pm_FL hX n (Or.inl rfl) (by rw [ee]; decide) F9 hA9 ⟨by have := hle.1; show _ ≤ (_ - h.length) + h.length; dsimp only at this ⊢; omega, by have := hle.2; show _ ≤ (_ - pm_slt h) + pm_slt h; dsimp only at this ⊢; omega⟩ (fun H1 locs1 cells1 slots1 pc1 ls1 st1 q1 q2 _ => hend9 H1 locs1 cells1 slots1 pc1 ls1 st1 q1 q2) hn
end
section
/-! a method whose run ends with a throw -/
abbrev pm_nse : String := "java/util/NoSuchElementException"
abbrev pm_nsn : List String := ["java/lang/RuntimeException", "java/lang/Exception"]
theorem pm_thw : (vx_at0 (pm_nm 11) 184 pm_nse pm_nsn).all (fun w => vx_ot w && (goodWord w || (match w with
  | .declares _ => true
  | .castable _ _ => true
  | _ => false)) && decide (w ∈ tables_1)) = true := by decide +kernel
theorem pm_th_at {args : Array Value} {s : State} (hw : ∀ w ∈ pm_W0, w.before args s = true) (hN : ∀ w ∈ pm_NW, va_Nw w s) : ∀ w ∈ vx_at0 (pm_nm 11) 184 pm_nse pm_nsn, w.before args s = true := by
  intro w h
  have h1 := List.all_eq_true.mp pm_thw w h
  rw [Bool.and_eq_true, Bool.and_eq_true, decide_eq_true_eq, Bool.or_eq_true] at h1
  obtain ⟨⟨-, h2⟩, h3⟩ := h1
  rcases h2 with h2 | h2
  · exact hw w (pm_W0_of h3 h2)
  · split at h2
    · exact va_Nw.use rfl (hN _ (List.mem_filter.mpr ⟨h3, rfl⟩))
    · exact va_Nw.use rfl (hN _ (List.mem_filter.mpr ⟨h3, rfl⟩))
    · cases h2
theorem pm_th_ot : ∀ w ∈ vx_at0 (pm_nm 11) 184 pm_nse pm_nsn, vx_ot w = true := by
  intro w h
  have h1 := List.all_eq_true.mp pm_thw w h
  rw [Bool.and_eq_true, Bool.and_eq_true] at h1
  exact h1.1.1
/-- what a throw leaves: the picture in a heap that the throw has only grown -/
def pm_XC (D : va_G) (cA : Nat → ClassId) (A : Nat → Prop) (ad : Nat → Nat) (h1 : pm_H) : String → State → State → Prop := fun E st t => E = pm_nse ∧ pm_scH h1 = true ∧ ∃ H : Heap, pm_rel D cA A ad h1 H ∧ H.size ≤ t.heap.size ∧ (∀ q : Nat, q < H.size → t.heap[q]? = H[q]?) ∧ va_F A st t
/-- from the frame to the contract of a method that throws -/
theorem pm_MtX {l : Launch} (hlt : l.stackTraces = false) {X : List (Nat × List Value)} (hX : pm_X0 X) {D : va_G} {cA : Nat → ClassId} {A : Nat → Prop} {ad : Nat → Nat} {m n d : Nat} {E : pm_M} {y : pm_Hd} {h h1 : pm_H} {As : List Value} {u : Unit} (he : pm_ent m = some E) (hy : pm_get pm_hds m = some y) (hpl : Jvm.plainName y.1.cls = true) (hcl : y.1.cls = pm_nm E.2.2.1) (hown : E.2.2.1 ≠ 13) (hlay : (pm_lay As E.2.1).length = E.2.1)
    (hrun : pm_x X n d h m 0 (pm_lay As E.2.1) [] = some (h1, .inr u)) {Qc : Array Value → State → Outcome → State → Prop} :
    vx_Met l y.1 (pm_wsm y E) (pm_rm d (h1.length - h.length + 1) (pm_slt h1 - pm_slt h + 6)) (pm_Pc D cA A ad X h As) Qc (pm_XC D cA A ad h1) (h1.length - h.length + 1) (pm_slt h1 - pm_slt h + 6) A := by
  refine vx_ofW (cc := pm_byt y.2.1) (maxL := E.2.1) (ret := y.2.2) hpl rfl ?_
  intro p e s mid args below meth c s₁ B hml htab hv
  obtain ⟨rfl, hCx, hrel, hAs⟩ := hv
  have hts := atoms_spec (ws := pm_wsm y E) B.pre
  have hownc : s.vm.findClass y.1.cls = some mid.cls := findClass_of_methodNamed B.named
  have hlocks := B.notSynchronized
  have hin : meth.name = y.1.name := (name_of_methodNamed B.named B.method).1
  rw [lg_entry_eq]
  rw [hcl] at hownc
  have hw0 : ∀ w ∈ pm_W0, w.before (As.map (pm_rv ad)).toArray s = true := fun w hw => hts w (List.mem_cons_of_mem _ hw)
  have F : pm_Fr p s mid (As.map (pm_rv ad)).toArray meth c D cA A ad X m E y := ⟨B.exec, B.bytes, hml, hownc, hw0, hCx, hin, he, hy, hAs⟩
  have hA0 : pm_At s D cA A ad m h.length (pm_slt h) 0 h s.heap [] 0 0 := ⟨hrel, va_S.rf, Or.inr ⟨rfl, rfl⟩, by omega, by omega⟩
  have hle := pm_mono X n _ _ _ _ _ _ _ hrun
  have l1 : h.length ≤ h1.length := hle.1
  have l2 : pm_slt h ≤ pm_slt h1 := hle.2
  refine pm_FL hX n (R := pm_rm d (h1.length - h.length + 1) (pm_slt h1 - pm_slt h + 6)) (o := (h1, .inr u)) (Or.inr ⟨pm_fill hX, Nat.le_refl _, Nat.le_refl _⟩) hown F hA0 ⟨by show h1.length ≤ (h1.length - h.length + 1) + h.length; omega, by show pm_slt h1 ≤ (pm_slt h1 - pm_slt h + 6) + pm_slt h; omega⟩ (fun H1 locs1 cells1 slots1 pc1 ls1 st1 hA1 hE hsc => ?_) hrun _ (pm_entry hlay)
  intro LS hl
  obtain ⟨hst, ix, b, z, w, d0, hg, h11, d3, d4, d7⟩ := hE
  subst hst
  obtain ⟨i, hi⟩ := pm_link hg
  have hi : decide (tables_1[i]? = some (.classLink (pm_nm E.2.2.1) ix pm_nse)) = true := hi
  rw [decide_eq_true_eq] at hi
  have hk := hw0 _ (pm_W0_at i hi rfl)
  rw [h11] at hk hownc
  obtain ⟨hrel1, hS1, -, a4, a5⟩ := hA1
  have a4 : cells1 + h.length = h1.length + 0 := a4
  have a5 : slots1 + pm_slt h = pm_slt h1 + 6 * 0 := a5
  refine vx_throw0 (mc := h1.length - h.length + 1) (ms := pm_slt h1 - pm_slt h + 6) (A := A) B.exec B.bytes hlt (own := pm_nm 11) (cls := pm_nse) (names := pm_nsn) (ik := ix) (ic := 184) hownc (by decide +kernel) (by decide +kernel) hk (hw0 _ (pm_W0_of (by decide +kernel) rfl)) (pm_th_at hw0 hCx.2.1) ?_ hCx.2.2.2.2.2.2.1 hCx.2.2.2.2.2.2.2.1 hS1 (hl.1.trans hml.symm) d0 d3 d4 d7 (fun x hx => (htab x hx).elim) ?_ ?_ ?_ ?_ hlocks ?_ hS1.2.2 ?_ ?_
  · intro w hw9
    rcases List.mem_cons.mp hw9 with rfl | hw9
    · rfl
    · rcases List.mem_cons.mp hw9 with rfl | hw9
      · rfl
      · exact pm_th_ot w hw9
  · show 2 + 3 < d + 10
    omega
  · show 0 + (13 * (2 + 1) + 42) ≤ 100 * d + 200
    omega
  · show cells1 + 1 ≤ h1.length - h.length + 1
    omega
  · show slots1 + 6 ≤ pm_slt h1 - pm_slt h + 6
    omega
  · intro t ht hz hq
    have hF1 := hS1
    exact ⟨rfl, hsc u rfl, H1, hrel1, hz, hq, Nat.le_trans hS1.1 hz, fun q g1 g2 => (hq q (Nat.lt_of_lt_of_le g1 hS1.1)).trans (hS1.2.1 q g1 g2)⟩
  · omega
  · omega
end
section
/-! behind a caught exception: the heap has a cell that the picture lacks; the places to come get other addresses -/
def pm_sw (ad : Nat → Nat) (n z : Nat) : Nat → Nat := fun a => if a < n then ad a else z + (a - n)
theorem pm_sw_lt {ad : Nat → Nat} {n z a : Nat} (h : a < n) : pm_sw ad n z a = ad a := if_pos h
theorem pm_sw_ge (ad : Nat → Nat) (n z j : Nat) : pm_sw ad n z (n + j) = z + j := by
  unfold pm_sw
  rw [if_neg (by omega)]
  omega
theorem pm_rv_sw {ad ad' : Nat → Nat} {n : Nat} (hs : ∀ a, a < n → ad' a = ad a) {v : Value} (h : pm_scv n v = true) : pm_rv ad' v = pm_rv ad v := by
  cases v with
  | ref a =>
    have h : Nat.blt a n = true := h
    show Value.ref (ad' a) = .ref (ad a)
    rw [hs a (pm_blt h)]
  | int x => rfl
  | long x => rfl
  | float x => rfl
  | double x => rfl
  | null => rfl
  | retAddr x => rfl
theorem pm_rvs_sw {ad ad' : Nat → Nat} {n : Nat} (hs : ∀ a, a < n → ad' a = ad a) {vs : List Value} (h : pm_all (pm_scv n) vs = true) : vs.map (pm_rv ad') = vs.map (pm_rv ad) := by
  rw [pm_all_eq, List.all_eq_true] at h
  exact List.map_congr_left fun v hv => pm_rv_sw hs (h v hv)
theorem pm_qv_sw {ad ad' : Nat → Nat} {n : Nat} (hs : ∀ a, a < n → ad' a = ad a) {v : Value} (h : pm_scv n v = true) : pm_qv ad' v = pm_qv ad v := by
  cases v with
  | ref a =>
    have h : Nat.blt a n = true := h
    show some (ad' a) = some (ad a)
    rw [hs a (pm_blt h)]
  | int x => rfl
  | long x => rfl
  | float x => rfl
  | double x => rfl
  | null => rfl
  | retAddr x => rfl
theorem pm_re_sw {ad ad' : Nat → Nat} {cA : Nat → ClassId} {n : Nat} (hs : ∀ a, a < n → ad' a = ad a) {c : pm_C} (h : pm_scc n c = true) : pm_re ad' cA c = pm_re ad cA c := by
  cases c with
  | inl q =>
    obtain ⟨t, l⟩ := q
    show Sum.inl (cA t, l.length, pm_ct ad' t l) = Sum.inl (cA t, l.length, pm_ct ad t l)
    have h : cond (Nat.blt t 5) true (pm_all (pm_scv n) l) = true := h
    cases ht : Nat.blt t 5 with
    | true =>
      have ht := pm_blt ht
      by_cases h3 : t = 3
      · subst h3
        rw [pm_ct3, pm_ct3]
      · rw [pm_ctI _ _ h3 ht, pm_ctI _ _ h3 ht]
    | false =>
      rw [ht, cond_false, pm_all_eq, List.all_eq_true] at h
      have h5 : 5 ≤ t := by
        cases Nat.lt_or_ge t 5 with
        | inl g => rw [show Nat.blt t 5 = true from Nat.ble_eq_true_of_le g] at ht; cases ht
        | inr g => exact g
      rw [pm_ctQ _ _ h5, pm_ctQ _ _ h5]
      have e : (fun j => pm_qv ad' (l.getD j .null)) = fun j => pm_qv ad (l.getD j .null) := by
        funext j
        rw [List.getD_eq_getElem?_getD]
        cases hj : l[j]? with
        | none => rfl
        | some v => exact pm_qv_sw hs (h v (List.mem_of_getElem? hj))
      rw [e]
  | inr q =>
    obtain ⟨ci, fs⟩ := q
    show Sum.inr (ci, fs.map (pm_rv ad')) = Sum.inr (ci, fs.map (pm_rv ad))
    rw [pm_rvs_sw hs h]
theorem pm_ws_sw {ad ad' : Nat → Nat} {cA : Nat → ClassId} {h : pm_H} (hs : ∀ a, a < 16 + h.length → ad' a = ad a) (hsc : pm_scH h = true) : pm_ws ad' cA h = pm_ws ad cA h := by
  unfold pm_scH at hsc
  rw [pm_all_eq, List.all_eq_true, pm_len_eq] at hsc
  apply List.ext_getElem?
  intro k
  rw [pm_ws_get, pm_ws_get]
  cases hk : h[k]? with
  | none => rfl
  | some c =>
    show some (ad' (16 + k), pm_re ad' cA c) = some (ad (16 + k), pm_re ad cA c)
    rw [hs (16 + k) (by have := (List.getElem?_eq_some_iff.mp hk).1; omega), pm_re_sw hs (hsc c (List.mem_of_getElem? hk))]
theorem pm_rel.grown {D : va_G} {cA : Nat → ClassId} {A : Nat → Prop} {ad : Nat → Nat} {h : pm_H} {H H1 : Heap} (hrel : pm_rel D cA A ad h H) (hsc : pm_scH h = true) (hq : ∀ q : Nat, q < H.size → H1[q]? = H[q]?) : pm_rel D cA A (pm_sw ad (16 + h.length) H1.size) h H1 := by
  obtain ⟨h1, h2, h3⟩ := hrel
  have e := pm_ws_sw (cA := cA) (ad := ad) (ad' := pm_sw ad (16 + h.length) H1.size) (fun a ha => pm_sw_lt ha) hsc
  refine ⟨?_, by rw [e]; exact h2, fun j => pm_sw_ge _ _ _ _⟩
  rw [e]
  exact h1.kept fun k q hk => hq _ (vx_lt h1 hk)
theorem pm_strs_lt : pm_strs.all (fun q => Nat.blt q.2.2.2 16) = true := by decide +kernel
theorem pm_Cx.sw {D : va_G} {cA : Nat → ClassId} {A : Nat → Prop} {ad ad' : Nat → Nat} {X : List (Nat × List Value)} {U : State} (h : pm_Cx D cA A ad X U) (hs : ∀ a, a < 16 → ad' a = ad a) : pm_Cx D cA A ad' X U := by
  obtain ⟨h1, h2, h3, h4, h5, h6, h7, h8, h9⟩ := h
  refine ⟨h1, h2, h3, fun a l ha hl => ?_, fun a ha hb => ?_, fun q hq => ?_, h7, h8, h9.1, fun a l g1 g2 g3 => by rw [hs a (by omega)]; exact h9.2 a l g1 g2 g3⟩
  · have := h4 a l ha hl
    unfold pm_ex at this ⊢
    rw [hs a ha]
    exact this
  · rw [hs a (by omega)]
    exact h5 a ha hb
  · rw [hs _ (pm_blt (List.all_eq_true.mp pm_strs_lt q hq))]
    exact h6 q hq
end
section
/-! the law's helpers: a call that may throw, caught here -/
/-- a helper: its handler's place, the local that it stores to, the store's length -/
def pm_hpt : List (Nat × Nat × Nat × Nat) := [(310, 17, 6, 2), (311, 16, 6, 2), (312, 16, 6, 2), (313, 14, 5, 2), (314, 16, 6, 2), (315, 16, 6, 2), (316, 14, 5, 2), (317, 16, 6, 2), (318, 12, 4, 2), (319, 12, 4, 2), (320, 11, 3, 1), (321, 14, 5, 2), (322, 16, 6, 2), (323, 14, 5, 2)]
noncomputable def pm_hpk (q : Nat × Nat × Nat × Nat) : Bool := match pm_ent q.1, pm_get pm_hds q.1 with
  | some e, some y => (match tables_1[y.2.1]? with
    | some (.codeWith y2 _ l2 r2 hh) => decide (y2 = y.1) && (Nat.beq l2 e.2.1 && (decide (r2 = y.2.2) && (decide (y.2.2 = some .int) && decide (hh = [(0, q.2.1 - 3, q.2.1, 13)]))))
    | _ => false) && ((match pm_get e.2.2.2.2 q.2.1 with
    | some (.astore k, 2) => Nat.beq k q.2.2.1 && Nat.beq q.2.2.2 2
    | some (.astore_n k, 1) => Nat.beq k.val q.2.2.1 && Nat.beq q.2.2.2 1
    | _ => false) && (decide (pm_get e.2.2.2.2 (q.2.1 + q.2.2.2) = some (.iconst 1, 1)) && (decide (pm_get e.2.2.2.2 (q.2.1 + q.2.2.2 + 1) = some (.ireturn, 1)) && (Nat.blt q.2.2.1 e.2.1 && (Nat.beq e.2.2.1 13 && (Nat.beq e.2.2.2.1 0 && (Nat.ble e.2.1 80 && (Nat.beq y.2.1 99999 == false && (decide (y.1.cls = "RiverWageLaw") && decide ((parseMethodDescriptor y.1.desc).map (fun d => d.parameters.length) = some e.1))))))))))
  | _, _ => false
theorem pm_hpks : pm_hpt.all pm_hpk = true := by decide +kernel
theorem pm_hpa : pm_kdt.all (fun c => c.all (fun q => !Nat.beq q.2 14 || pm_hpt.any (fun r => Nat.beq r.1 q.1))) = true := by decide +kernel
theorem pm_hpw : pm_hpt.all (fun q => match pm_get pm_hds q.1 with
  | some y => decide (Cond.static y.1 ∈ tables_1)
  | none => false) = true := by decide +kernel
theorem pm_hpl : Cond.classLink "RiverWageLaw" 13 pm_nse ∈ tables_1 ∧ Cond.castable pm_nse pm_nse ∈ tables_1 ∧ Cond.initialized "RiverWageLaw" ∈ lw_tbl := by decide +kernel
end
section
/-! the helpers' call that throws -/
theorem pm_no_nest : tables_1.all (fun w => match w with
  | .methodLinkNest o _ _ _ => decide (o ≠ "RiverWageLaw")
  | _ => true) = true := by decide +kernel
section PmX
variable {p : Program} {l : Launch} {e : Env} {R : Room} {s : State} {mid : MethodId} {args : Array Value} {below : List Frame} {meth : Method} {c : Code} {H : Heap} {locs : List Loc} {cells slots : Nat} {Q : State → Prop}
variable {D : va_G} {cA : Nat → ClassId} {A : Nat → Prop} {ad : Nat → Nat} {X : List (Nat × List Value)} {m : Nat} {E : pm_M} {y : pm_Hd} {hb sb : Nat} {h : pm_H}
variable {d pc n : Nat} {ls : pm_L} {st : List Value}
/-- a virtual call that throws: the thrown thing lies over the frame -/
theorem pm_jThrown {ix m' na ci d' : Nat} {As rest : List Value} {h1 : pm_H} {u : Unit} (hlt : l.stackTraces = false) (hX : pm_X0 X) (F : pm_Fr p s mid args meth c D cA A ad X m E y) (hE13 : E.2.2.1 = 13) (hA : pm_At s D cA A ad m hb sb 0 h H locs cells slots)
    (hg : pm_get (pm_lnk E.2.2.1) ix = some (1, m', na, ci)) (hd1 : decode (pm_byt y.2.1) pc = .ok (.invokevirtual ix, 3)) (hpop : pm_pop na st [] = some (As, rest)) (hcat : pm_cat8 rest = true) (hrcv : ∃ a r fs, As = .ref a :: r ∧ pm_cell h a = some (.inr (ci, fs)))
    (hR : d' + 11 ≤ R.frames ∧ 100 * d' + 300 ≤ R.locals) (hf : h1.length + 1 ≤ R.cells + hb ∧ pm_slt h1 + 6 ≤ R.slots + sb) {e' : pm_M} (he' : pm_ent m' = some e') (hlay : (pm_lay As e'.2.1).length = e'.2.1) (hrun : pm_x X n d' h m' 0 (pm_lay As e'.2.1) [] = some (h1, .inr u))
    (kk : ∀ (H1 Hm : Heap) (locs1 : List Loc) (q : Addr) (ce : Cell) (LS : Array Slot), pm_lr ad E.2.1 ls LS → pm_scH h1 = true → pm_rel D cA A ad h1 Hm → Hm.size ≤ H1.size → (∀ q : Nat, q < Hm.size → H1[q]? = Hm[q]?) → va_S A s.heap H1 locs1 → H1[q]? = some ce → ce.vm = .none → s.vm.findClass pm_nse = some ce.cls →
      vx_W p l e R s mid args below meth c H1 locs1 (cells + (h1.length - h.length + 1)) (slots + (pm_slt h1 - pm_slt h + 6)) Q (F0 mid pc LS (rest.map (pm_rv ad))) q) :
    pm_J p l e R s mid args below meth c H locs cells slots Q ad E.2.1 pc ls st := by
  intro LS hl
  obtain ⟨y3, e3, q1, q2, q3, q4, q5, q6⟩ := pm_lkM hg (Or.inl rfl)
  have ee : e3 = e' := Option.some.inj (q2.symm.trans he')
  subst ee
  obtain ⟨y4, e4, ps, r1, r2, r3⟩ := pm_head q3
  have ey : y4 = y3 := Option.some.inj (r1.symm.trans q1)
  have ee : e4 = e3 := Option.some.inj (r2.symm.trans q2)
  subst ey; subst ee
  obtain ⟨w1, w2, w3, w4, w5, w6, w7, w8, w9, w10⟩ := pm_hd_ok r3 (Or.inl rfl)
  have hM := pm_MtX (D := D) (cA := cA) (A := A) (ad := ad) (Qc := fun _ _ _ _ => False) hlt hX q2 q1 w6 w3 (pm_own q3 q2 (Or.inl rfl)) hlay hrun
  have hle := pm_mono X n _ _ _ _ _ _ _ hrun
  have l1 : h.length ≤ h1.length := hle.1
  have l2 : pm_slt h ≤ pm_slt h1 := hle.2
  have hpre := pm_pre (As := As) F hA
  obtain ⟨hx, hbc, hml, hown, hw, hCx, hnm, he, hyy, hAs⟩ := F
  have hS : CallFix p mid c (pm_byt y.2.1) E.2.1 s args pm_W0 (pm_nm E.2.2.1) := ⟨hx, hbc, hml, hown, hw⟩
  have hG : GoodIn pm_W0 (pm_wsm y4 e4) := pm_good fun w hw9 => by
    rcases List.mem_cons.mp hw9 with rfl | hw9
    · exact w1
    · exact hw9
  obtain ⟨a, r, fs, rfl, hc⟩ := hrcv
  obtain ⟨v1, v2, v3⟩ := w8 rfl
  obtain ⟨hst, hlen⟩ := pm_pop_some hpop
  obtain ⟨k0, rfl, -, hk0⟩ := pm_cell_some hc
  obtain ⟨rr, hrr, -⟩ := hA.1.1 k0 _ (pm_ws_at hk0)
  have hnmc : rr.1 = y4.1.cls := by rw [pm_cl_nm hrr, w3, q5 (Or.inl rfl)]
  have hrec := va_recv hCx.1 hA.1.1 hrr (pm_ws_at hk0)
  rw [hnmc] at hrec
  have hn : (r.map (pm_rv ad)).length = e4.1 - 1 := by
    have : r.length + 1 = na := hlen
    rw [List.length_map]; omega
  have hdesc : (parseMethodDescriptor y4.1.desc).map (fun d => d.parameters.length) = some (e4.1 - 1) := by
    cases hpd : parseMethodDescriptor y4.1.desc with
    | none => rw [hpd] at v3; cases v3
    | some sg =>
      rw [hpd] at v3
      have : sg.parameters.length + 1 = e4.1 := Option.some.inj v3
      show some sg.parameters.length = some (e4.1 - 1)
      rw [← this]; rfl
  have hst2 : (F0 mid pc LS (st.map (pm_rv ad))).stack = (r.map (pm_rv ad)).reverse ++ .ref (ad (16 + k0)) :: rest.map (pm_rv ad) := by
    show st.map (pm_rv ad) = _
    rw [hst, List.map_append, List.map_reverse, List.map_cons, List.reverse_cons, List.append_assoc]
    rfl
  have hW8 : 2 * (F0 mid pc LS (st.map (pm_rv ad))).monitorRoom + ((rest.map (pm_rv ad)).map fun v => v.category).sum ≤ 8 := lv_room (pm_cat8_rv hcat)
  have hlk : Cond.methodLink (pm_nm E.2.2.1) ix y4.1 ∈ tables_1 := by
    rcases q6 with q6 | q6
    · exact q6
    · exfalso
      have h9 := List.all_eq_true.mp pm_no_nest _ q6
      rw [hE13] at h9
      cases h9
  have a4 : cells + hb = h.length + 0 := hA.2.2.2.1
  have a5 : slots + sb = pm_slt h + 6 * 0 := hA.2.2.2.2
  have hRR : (pm_rm d' (h1.length - h.length + 1) (pm_slt h1 - pm_slt h + 6)).frames + 1 ≤ R.frames ∧ 8 + (e4.2.1 + 11) + (pm_rm d' (h1.length - h.length + 1) (pm_slt h1 - pm_slt h + 6)).locals ≤ R.locals := ⟨hR.1, by show 8 + (e4.2.1 + 11) + (100 * d' + 200) ≤ R.locals; omega⟩
  have hV := vx_runV (l := l) (e := e) (below := below) (meth := meth) (locs := locs) (cells := cells) (slots := slots) hS hM ⟨callB_of (e4.1 - 1) hw hG rfl rfl rfl (hw _ w2) (hw _ (pm_W0_of hlk rfl)) ⟨w7.1, w7.2, hdesc⟩ hRR, hw _ v1, hw _ v2⟩ ⟨pm_Pc_blind, hrec, hpre⟩ rfl hn hl.1 hst2 hW8 hd1 ⟨by omega, by omega⟩
  intro T hT X9
  rcases hV T hT X9 with ⟨v, st₀, t, T', L, h0, X', hL, e1, e2, hF, st⟩ | ⟨q, st₀, t, T', L, Ex, ce, h0, X', hL, e1, e2, ⟨rfl, hsc, Hm, hrel, hz, hq, hF⟩, hce, hcv, hcl, st⟩
  · exact hF.elim
  · obtain ⟨s1, s2, s3⟩ := hA.2.1
    obtain ⟨t2, b1, b2⟩ := kk T'.heap Hm (locs ++ L) q ce LS hl hsc hrel (by rw [e1]; exact hz) (fun q g => by rw [e1]; exact hq q g) ⟨by rw [e1]; have g9 := hF.1; rw [h0] at g9; omega, fun q g1 g2 => by
      rw [e1, hF.2 q (by rw [h0]; exact Nat.lt_of_lt_of_le g1 s1) g2, h0]
      exact s2 q g1 g2, fun q hq => by
      rcases List.mem_append.mp hq with g | g
      · exact s3 q g
      · exact hL q g⟩ (by rw [e1]; exact hce) hcv hcl T' rfl X'
    exact ⟨t2, st.trans b1, b2⟩
end PmX
end
section
/-! a helper's frame: its run -/
theorem pm_call_hnd {ih : pm_I} {d : Nat} {h : pm_H} {m pc : Nat} {ls : pm_L} {m' : Nat} {As rest : List Value} {o : pm_H × (Option Value ⊕ Unit)} (hg : pm_call ih d h m pc ls m' As rest true = some o) : pm_call ih d h m pc ls m' As rest false = some o ∨ ∃ d' e' h1 u, d = d' + 1 ∧ pm_ent m' = some e' ∧ (pm_lay As e'.2.1).length = e'.2.1 ∧ ih d' h m' 0 (pm_lay As e'.2.1) [] = some (h1, .inr u) ∧ o = (h1, .inl (some (.int 1))) := by
  unfold pm_call at hg ⊢
  cases d with
  | zero => cases hg
  | succ d' =>
    dsimp only at hg ⊢
    cases he : pm_ent m' with
    | none => rw [he] at hg; cases hg
    | some e' =>
      rw [he] at hg
      dsimp only at hg ⊢
      cases hb : Nat.beq (pm_len (pm_lay As e'.2.1)) e'.2.1 with
      | false => rw [hb] at hg; cases hg
      | true =>
        rw [hb, cond_true] at hg
        rw [cond_true]
        rw [pm_len_eq] at hb
        cases hr : ih d' h m' 0 (pm_lay As e'.2.1) [] with
        | none => rw [hr] at hg; cases hg
        | some w =>
          obtain ⟨h1, v⟩ := w
          cases v with
          | inl v => rw [hr] at hg; exact Or.inl hg
          | inr u =>
            rw [hr] at hg
            refine Or.inr ⟨d', e', h1, u, rfl, rfl, Nat.eq_of_beq_eq_true hb, hr, ?_⟩
            exact (Option.some.inj hg).symm
set_option maxHeartbeats 2000000 in
theorem pm_FH {l : Launch} (hlt : l.stackTraces = false) {X : List (Nat × List Value)} (hX : pm_X0 X) {D : va_G} {cA : Nat → ClassId} {A : Nat → Prop} {ad : Nat → Nat} : ∀ (n : Nat) {p : Program} {e : Env} {R : Room} {s : State} {mid : MethodId} {args : Array Value} {below : List Frame} {meth : Method} {c : Code} {H : Heap} {locs : List Loc} {cells slots : Nat} {Q : State → Prop} {m : Nat} {E : pm_M} {y : pm_Hd} {hb sb : Nat} {h : pm_H} {d pc : Nat} {ls : pm_L} {st : List Value} {o : pm_H × (Option Value ⊕ Unit)},
    (d + 10 ≤ R.frames ∧ 100 * d + 200 ≤ R.locals) → E.2.2.1 = 13 → m ≠ 309 → (∀ pc ix len, pm_get E.2.2.2.2 pc ≠ some (.invokestatic ix, len)) → pm_Fr p s mid args meth c D cA A ad X m E y → pm_At s D cA A ad m hb sb 0 h H locs cells slots → (o.1.length + 1 ≤ R.cells + hb ∧ pm_slt o.1 + 6 ≤ R.slots + sb) →
    (∀ H1 locs1 cells1 slots1 pc1 ls1 st1, pm_At s D cA A ad m hb sb 0 o.1 H1 locs1 cells1 slots1 → pm_End y E o.2 pc1 st1 → (∀ z, o.2 = .inr z → pm_scH o.1 = true) → pm_J p l e R s mid args below meth c H1 locs1 cells1 slots1 Q ad E.2.1 pc1 ls1 st1) →
    (o.2 = .inl (some (.int 1)) → ∀ (pc1 ix : Nat) (ls1 : pm_L) (rest1 : List Value) (H1 Hm : Heap) (locs1 : List Loc) (cells1 slots1 : Nat) (q : Addr) (ce : Cell) (LS : Array Slot), decode (pm_byt y.2.1) pc1 = .ok (.invokevirtual ix, 3) → pm_get E.2.2.2.2 pc1 = some (.invokevirtual ix, 3) → pm_lr ad E.2.1 ls1 LS → pm_scH o.1 = true → pm_rel D cA A ad o.1 Hm → Hm.size ≤ H1.size → (∀ q : Nat, q < Hm.size → H1[q]? = Hm[q]?) → va_S A s.heap H1 locs1 → H1[q]? = some ce → ce.vm = .none → s.vm.findClass pm_nse = some ce.cls → cells1 + hb = o.1.length + 1 → slots1 + sb = pm_slt o.1 + 6 → vx_W p l e R s mid args below meth c H1 locs1 cells1 slots1 Q (F0 mid pc1 LS rest1) q) →
    pm_x X n d h m pc ls st = some o → pm_J p l e R s mid args below meth c H locs cells slots Q ad E.2.1 pc ls st
  | 0, _, _, _, _, _, _, _, _, _, _, _, _, _, _, _, _, _, _, _, _, _, _, _, _, o, _, _, _, _, _, _, _, _, _, hr => nomatch (show (none : pm_R) = some o from hr)
  | n + 1, p, e, R, s, mid, args, below, meth, c, H, locs, cells, slots, Q, m, E, y, hb, sb, h, d, pc, ls, st, o, hR, hown, hm309, hns, F, hA, hfin, hend, hcat, hr => by
    have he := F.2.2.2.2.2.2.2.1
    have hy := F.2.2.2.2.2.2.2.2.1
    have hr : pm_F X (pm_x X n) d h m pc ls st = some o := hr
    unfold pm_F at hr
    rw [he] at hr
    dsimp only at hr
    split at hr
    · cases hr
    · rename_i q hq
      obtain ⟨i, len⟩ := q
      obtain ⟨k1, k2, k3⟩ := pm_code he hy hq
      have hroom : ∀ (h1 : pm_H) (q : Nat) (ls : pm_L) (st : List Value), pm_x X n d h1 m q ls st = some o → h1.length + 0 ≤ R.cells + hb ∧ pm_slt h1 + 6 * 0 ≤ R.slots + sb := by
        intro h1 q ls st hz
        have hm := pm_mono X n _ _ _ _ _ _ _ hz
        have m1 := hm.1
        have m2 := hm.2
        obtain ⟨f1, f2⟩ := hfin
        exact ⟨by omega, by omega⟩
      have hK : ∀ h1 H1 locs1 cells1 slots1 q ls st, pm_At s D cA A ad m hb sb 0 h1 H1 locs1 cells1 slots1 → pm_x X n d h1 m q ls st = some o → pm_J p l e R s mid args below meth c H1 locs1 cells1 slots1 Q ad E.2.1 q ls st :=
        fun h1 H1 locs1 cells1 slots1 q ls st hA1 hz => pm_FH hlt hX n hR hown hm309 hns F hA1 hfin hend hcat hz
      refine pm_one F hX hA k1 k2 k3 hroom hK (fun e1 e2 e3 => hend H locs cells slots pc ls st (by rw [e1]; exact hA) e2 (fun z hz => by rw [e1]; exact e3 z hz)) (fun how ix hi hlen hg => ?_) hr
      have hF : pm_Fill l X := pm_fill hX
      subst hlen
      unfold pm_gInv at hg
      split at hg
      · rename_i kind m' na ci hl
        have hd2 : how = 2 → decode (pm_byt y.2.1) pc = .ok (.invokestatic ix, 3) := by
          rintro rfl
          rcases hi with ⟨q, -⟩ | ⟨-, rfl⟩ | ⟨q, -⟩
          · cases q
          · exact k1
          · cases q
        have hd3 : how = 3 → decode (pm_byt y.2.1) pc = .ok (.invokespecial ix, 3) := by
          rintro rfl
          rcases hi with ⟨q, -⟩ | ⟨q, -⟩ | ⟨-, rfl⟩
          · cases q
          · cases q
          · exact k1
        have hd1 : how = 1 → decode (pm_byt y.2.1) pc = .ok (.invokevirtual ix, 3) := by
          rintro rfl
          rcases hi with ⟨-, rfl⟩ | ⟨q, -⟩ | ⟨q, -⟩
          · exact k1
          · cases q
          · cases q
        have hhow : how = 1 ∨ how = 2 ∨ how = 3 := by
          rcases hi with ⟨q, -⟩ | ⟨q, -⟩ | ⟨q, -⟩
          · exact Or.inl q
          · exact Or.inr (Or.inl q)
          · exact Or.inr (Or.inr q)
        cases hk : Nat.beq kind 12 with
        | true =>
          rw [hk, cond_true] at hg
          replace hg := pm_cond_true hg
          obtain ⟨hb1, hg⟩ := hg
          have hk := Nat.eq_of_beq_eq_true hk
          subst hk
          have hb1 := Nat.eq_of_beq_eq_true hb1
          refine pm_jPrim F hA hl hb1 ⟨hd2, hd3⟩ (Or.inl hm309) hR hroom (fun z k v r q g1 g2 g3 g4 g5 g6 g7 => ?_) hK hg
          subst g1; subst g7
          exact pm_jFill hF F hA hl (hd2 hb1) hR hroom g2 g3 g4 g5 hK g6
        | false =>
          rw [hk, cond_false] at hg
          rcases Bool.eq_false_or_eq_true (Nat.beq kind 15) with hk15 | hk15
          · rw [hk15, cond_true] at hg
            replace hg := pm_cond_true hg
            obtain ⟨hb1, hg⟩ := hg
            have hk15 := Nat.eq_of_beq_eq_true hk15
            subst hk15
            exact pm_jStr F hA hl (hd1 (Nat.eq_of_beq_eq_true hb1)) hR hroom hK hg
          rw [hk15, cond_false] at hg
          split at hg
          · rename_i As rest hpop
            replace hg := pm_cond_true hg
            obtain ⟨hc8, hg⟩ := hg
            cases hkh : Nat.beq kind how with
            | true =>
              rw [hkh, cond_true] at hg
              have hkh := Nat.eq_of_beq_eq_true hkh
              subst hkh
              have hM : ∀ d' m' y' e' As h1 v, pm_get pm_hds m' = some y' → pm_ent m' = some e' → pm_get pm_kdt m' = some kind → As.length = e'.1 → (pm_lay As e'.2.1).length = e'.2.1 → pm_x X n d' h m' 0 (pm_lay As e'.2.1) [] = some (h1, .inl v) → pm_Mt l D cA A ad X y' e' d' h As h1 v := by
                intro d' m' y' e' As h1 v g1 g2 g3 g4 g5 g6
                obtain ⟨y3, e3, ps, r1, r2, r3⟩ := pm_head g3
                have ey : y3 = y' := Option.some.inj (r1.symm.trans g1)
                have ee : e3 = e' := Option.some.inj (r2.symm.trans g2)
                subst ey; subst ee
                obtain ⟨w1, w2, w3, w4, w5, w6, -⟩ := pm_hd_ok r3 hhow
                have hmn := pm_mono X n _ _ _ _ _ _ _ g6
                refine pm_MtOf (m := m') (rm := pm_rm d' (h1.length - h.length) (pm_slt h1 - pm_slt h)) rfl rfl rfl rfl g2 g1 w6 w3 w4 g5 (fun {p e s mid args below meth c Q} F9 hA9 hend9 => ?_)
                exact pm_FL hX n (Or.inr ⟨hF, Nat.le_refl _, Nat.le_refl _⟩) (pm_own g3 g2 hhow) F9 hA9 ⟨by have := hmn.1; show h1.length ≤ (h1.length - h.length) + h.length; omega, by have := hmn.2; show pm_slt h1 ≤ (pm_slt h1 - pm_slt h) + pm_slt h; omega⟩ (fun H1 locs1 cells1 slots1 pc1 ls1 st1 q1 q2 _ => hend9 H1 locs1 cells1 slots1 pc1 ls1 st1 q1 q2) g6
              have hmono : ∀ d' h0 m0 q ls st h1 v, pm_x X n d' h0 m0 q ls st = some (h1, v) → pm_le h0 h1 := fun d' h0 m0 q ls st h1 v hz => pm_mono X n _ _ _ _ _ _ _ hz
              rcases hhow with rfl | rfl | rfl
              · obtain ⟨a, r, fs, rfl, hcell, hg⟩ := pm_gC1 hg
                have e309 : Nat.beq m 309 = false := by
                  cases hz : Nat.beq m 309 with
                  | true => exact absurd (Nat.eq_of_beq_eq_true hz) hm309
                  | false => rfl
                rw [hown, e309] at hg
                have hg : pm_call (pm_x X n) d h m pc ls m' (.ref a :: r) rest true = some o := hg
                rcases pm_call_hnd hg with hg | ⟨d', e', h1, u, rfl, g1, g2, g3, rfl⟩
                rotate_left
                · have hmn := pm_mono X n _ _ _ _ _ _ _ g3
                  have m1 : h.length ≤ h1.length := hmn.1
                  have m2 : pm_slt h ≤ pm_slt h1 := hmn.2
                  have a4 : cells + hb = h.length + 0 := hA.2.2.2.1
                  have a5 : slots + sb = pm_slt h + 6 * 0 := hA.2.2.2.2
                  have hq1 : i = .invokevirtual ix := by
                    rcases hi with ⟨-, q⟩ | ⟨q, -⟩ | ⟨q, -⟩
                    · exact q
                    · cases q
                    · cases q
                  subst hq1
                  refine pm_jThrown hlt hX F hown hA hl k1 hpop hc8 ⟨a, r, fs, rfl, hcell⟩ ⟨by omega, by omega⟩ hfin g1 g2 g3 (fun H1 Hm locs1 q ce LS9 z1 z2 z3 z4 z5 z6 z7 z8 z9 => ?_)
                  exact hcat rfl pc ix ls _ H1 Hm locs1 (cells + (h1.length - h.length + 1)) (slots + (pm_slt h1 - pm_slt h + 6)) q ce LS9 k1 hq z1 z2 z3 z4 z5 z6 z7 z8 z9 (by show cells + (h1.length - h.length + 1) + hb = h1.length + 1; omega) (by show slots + (pm_slt h1 - pm_slt h + 6) + sb = pm_slt h1 + 6; omega)
                exact pm_jCall F hA hl (Or.inl rfl) ⟨hd1, hd2, hd3⟩ hpop hc8 (fun _ => ⟨a, r, fs, rfl, hcell⟩) (fun q => by cases q) hR hroom hmono hM hK hg
              · have hg : pm_call (pm_x X n) d h m pc ls m' As rest false = some o := hg
                exact pm_jCall F hA hl (Or.inr (Or.inl rfl)) ⟨hd1, hd2, hd3⟩ hpop hc8 (fun q => by cases q) (fun q => by cases q) hR hroom hmono hM hK hg
              · obtain ⟨a, r, rfl, hg⟩ := pm_gC3 hg
                exact pm_jCall F hA hl (Or.inr (Or.inr rfl)) ⟨hd1, hd2, hd3⟩ hpop hc8 (fun q => by cases q) (fun _ => ⟨a, r, rfl⟩) hR hroom hmono hM hK hg
            | false =>
              rw [hkh, cond_false] at hg
              replace hg := pm_cond_true hg
              obtain ⟨hb2, -⟩ := hg
              rw [Bool.and_eq_true, Bool.and_eq_true] at hb2
              have hh2 := Nat.eq_of_beq_eq_true hb2.2.1
              subst hh2
              exfalso
              rcases hi with ⟨q, -⟩ | ⟨-, q⟩ | ⟨q, -⟩
              · cases q
              · subst q
                exact hns pc ix 3 hq
              · cases q
          · cases hg
      · cases hg
end
section
/-! a helper's data, read out -/
theorem pm_hpv : pm_hpt.all (fun q => match pm_ent q.1 with
  | some e => e.2.2.2.2.all (fun c => c.all (fun r => match r.2.1 with
    | .invokevirtual _ => Nat.blt r.1 (q.2.1 - 3)
    | .invokestatic _ => false
    | _ => true))
  | none => false) = true := by decide +kernel
theorem pm_hpd {m : Nat} {E : pm_M} {y : pm_Hd} (hk : pm_get pm_kdt m = some 14) (he : pm_ent m = some E) (hy : pm_get pm_hds m = some y) : ∃ hp k ln : Nat, ∃ b : ByteArray, tables_1[y.2.1]? = some (.codeWith y.1 b E.2.1 y.2.2 [(0, hp - 3, hp, 13)]) ∧ pm_byt y.2.1 = b ∧ y.2.2 = some .int ∧
    ((ln = 2 ∧ pm_get E.2.2.2.2 hp = some (.astore k, 2)) ∨ (ln = 1 ∧ ∃ k', k'.val = k ∧ pm_get E.2.2.2.2 hp = some (.astore_n k', 1))) ∧ pm_get E.2.2.2.2 (hp + ln) = some (.iconst 1, 1) ∧ pm_get E.2.2.2.2 (hp + ln + 1) = some (.ireturn, 1) ∧ k < E.2.1 ∧ E.2.2.1 = 13 ∧ E.2.2.2.1 = 0 ∧ E.2.1 ≤ 80 ∧ y.1.cls = "RiverWageLaw" ∧ (parseMethodDescriptor y.1.desc).map (fun d => d.parameters.length) = some E.1 ∧ (∀ pc ix len, pm_get E.2.2.2.2 pc = some (.invokevirtual ix, len) → pc < hp - 3) ∧ (∀ pc ix len, pm_get E.2.2.2.2 pc ≠ some (.invokestatic ix, len)) ∧ Cond.static y.1 ∈ tables_1 := by
  obtain ⟨c, hc, hm⟩ := pm_get_mem hk
  have h1 := List.all_eq_true.mp (List.all_eq_true.mp pm_hpa c hc) _ hm
  have h1 : (false || pm_hpt.any (fun r => Nat.beq r.1 m)) = true := h1
  rw [Bool.false_or] at h1
  obtain ⟨r, hr, hrm⟩ := List.any_eq_true.mp h1
  have hrm := Nat.eq_of_beq_eq_true hrm
  have h2 := List.all_eq_true.mp pm_hpks r hr
  have h3 := List.all_eq_true.mp pm_hpv r hr
  have h4 := List.all_eq_true.mp pm_hpw r hr
  rw [hrm, he] at h3
  rw [hrm, hy] at h4
  dsimp only at h3 h4
  unfold pm_hpk at h2
  rw [hrm, he, hy] at h2
  simp only [Bool.and_eq_true, decide_eq_true_eq] at h2
  obtain ⟨g1, g2, g3, g4, g5, g6, g7, g8, g9, g10, g11⟩ := h2
  split at g1
  · rename_i y2 b l2 r2 hh hw
    simp only [Bool.and_eq_true, decide_eq_true_eq] at g1
    obtain ⟨q1, q2, q3, q4, q5⟩ := g1
    have q2 := Nat.eq_of_beq_eq_true q2
    subst q1; subst q2; subst q3; subst q5
    have hb : pm_byt y.2.1 = b := by
      unfold pm_byt
      cases hz : Nat.beq y.2.1 99999 with
      | true => rw [hz] at g9; cases g9
      | false => rw [cond_false, hw]
    refine ⟨r.2.1, r.2.2.1, r.2.2.2, b, hw, hb, q4, ?_, g3, g4, pm_blt g5, Nat.eq_of_beq_eq_true g6, Nat.eq_of_beq_eq_true g7, Nat.le_of_ble_eq_true g8, g10, g11, fun pc ix len hq => ?_, fun pc ix len hq => ?_, of_decide_eq_true h4⟩
    rotate_left
    · obtain ⟨c9, hc9, hm9⟩ := pm_get_mem hq
      have h9 := List.all_eq_true.mp (List.all_eq_true.mp h3 c9 hc9) _ hm9
      exact pm_blt h9
    · obtain ⟨c9, hc9, hm9⟩ := pm_get_mem hq
      have h9 := List.all_eq_true.mp (List.all_eq_true.mp h3 c9 hc9) _ hm9
      cases h9
    split at g2
    · rename_i k' hk'
      rw [Bool.and_eq_true] at g2
      have z1 := Nat.eq_of_beq_eq_true g2.1
      subst z1
      exact Or.inl ⟨Nat.eq_of_beq_eq_true g2.2, hk'⟩
    · rename_i k' hk'
      rw [Bool.and_eq_true] at g2
      exact Or.inr ⟨Nat.eq_of_beq_eq_true g2.2, k', Nat.eq_of_beq_eq_true g2.1, hk'⟩
    · cases g2
  · cases g1
end
section
/-! a helper's contract: it returns, whether its call threw or not -/
def pm_wsh (y : pm_Hd) (e : pm_M) (hp : Nat) : List Cond := Cond.codeWith y.1 (pm_byt y.2.1) e.2.1 y.2.2 [(0, hp - 3, hp, 13)] :: pm_W0
/-- its end: the places to come may have other addresses -/
def pm_Qh (D : va_G) (cA : Nat → ClassId) (A : Nat → Prop) (ad : Nat → Nat) (h1 : pm_H) (v : Option Value) : Array Value → State → Outcome → State → Prop := fun _ st oc t => (∃ r : Int32, v = some (.int r) ∧ oc = .returned (some (.int r))) ∧ (∃ ad' : Nat → Nat, (∀ a, a < 16 + h1.length → ad' a = ad a) ∧ pm_rel D cA A ad' h1 t.heap) ∧ va_F A st t
theorem pm_hpW {y : pm_Hd} {E : pm_M} {hp : Nat} {b : ByteArray} (h : tables_1[y.2.1]? = some (.codeWith y.1 b E.2.1 y.2.2 [(0, hp - 3, hp, 13)])) : Cond.codeWith y.1 b E.2.1 y.2.2 [(0, hp - 3, hp, 13)] ∈ pm_W0 := pm_W0_at _ h rfl
theorem pm_MtH {l : Launch} (hlt : l.stackTraces = false) {X : List (Nat × List Value)} (hX : pm_X0 X) {D : va_G} {cA : Nat → ClassId} {A : Nat → Prop} {ad : Nat → Nat} {m n d : Nat} {E : pm_M} {y : pm_Hd} {h h1 : pm_H} {As : List Value} {v : Option Value} (hk : pm_get pm_kdt m = some 14) (hm309 : m ≠ 309) (he : pm_ent m = some E) (hy : pm_get pm_hds m = some y) (hlay : (pm_lay As E.2.1).length = E.2.1)
    (hrun : pm_x X n d h m 0 (pm_lay As E.2.1) [] = some (h1, .inl v)) :
    ∃ hp : Nat, Cond.codeWith y.1 (pm_byt y.2.1) E.2.1 y.2.2 [(0, hp - 3, hp, 13)] ∈ pm_W0 ∧ Cond.static y.1 ∈ tables_1 ∧ y.1.cls = "RiverWageLaw" ∧ E.2.1 ≤ 80 ∧ (parseMethodDescriptor y.1.desc).map (fun d => d.parameters.length) = some E.1 ∧
    vx_Met l y.1 (pm_wsh y E hp) (pm_rm d (h1.length - h.length + 1) (pm_slt h1 - pm_slt h + 6)) (pm_Pc D cA A ad X h As) (pm_Qh D cA A ad h1 v) (fun _ _ _ => False) (h1.length - h.length + 1) (pm_slt h1 - pm_slt h + 6) A := by
  obtain ⟨hp, k, ln, b, t1, t2, t3, t4, t5, t6, t7, t8, t9, t10, t11, t12, t13, t14, t15⟩ := pm_hpd hk he hy
  subst t2
  refine ⟨hp, pm_hpW t1, t15, t11, t10, t12, ?_⟩
  refine vx_ofWH (cc := pm_byt y.2.1) (maxL := E.2.1) (ret := y.2.2) (by rw [t11]; decide) rfl ?_
  intro p e s mid args below meth c s₁ B hml hv
  obtain ⟨rfl, hCx, hrel, hAs⟩ := hv
  have hts := atoms_spec (ws := pm_wsh y E hp) B.pre
  have hownc : s.vm.findClass y.1.cls = some mid.cls := findClass_of_methodNamed B.named
  have hlocks := B.notSynchronized
  have hin : meth.name = y.1.name := (name_of_methodNamed B.named B.method).1
  have htab := vx_table (x := y.1) B (hts _ List.mem_cons_self)
  rw [lg_entry_eq]
  rw [t11] at hownc
  have hw0 : ∀ w ∈ pm_W0, w.before (As.map (pm_rv ad)).toArray s = true := fun w hw => hts w (List.mem_cons_of_mem _ hw)
  have F : pm_Fr p s mid (As.map (pm_rv ad)).toArray meth c D cA A ad X m E y := ⟨B.exec, B.bytes, hml, by rw [t8]; exact hownc, hw0, hCx, hin, he, hy, hAs⟩
  have hA0 : pm_At s D cA A ad m h.length (pm_slt h) 0 h s.heap [] 0 0 := ⟨hrel, va_S.rf, Or.inr ⟨rfl, rfl⟩, by omega, by omega⟩
  have hle := pm_mono X n _ _ _ _ _ _ _ hrun
  have l1 : h.length ≤ h1.length := hle.1
  have l2 : pm_slt h ≤ pm_slt h1 := hle.2
  refine pm_FH hlt hX n (R := pm_rm d (h1.length - h.length + 1) (pm_slt h1 - pm_slt h + 6)) (o := (h1, .inl v)) ⟨Nat.le_refl _, Nat.le_refl _⟩ t8 hm309 t14 F hA0 ⟨by show h1.length + 1 ≤ (h1.length - h.length + 1) + h.length; omega, by show pm_slt h1 + 6 ≤ (pm_slt h1 - pm_slt h + 6) + pm_slt h; omega⟩ (fun H1 locs1 cells1 slots1 pc1 ls1 st1 hA1 hE _ => ?_) (fun hv1 pc1 ix ls1 rest1 H1 Hm locs1 cells1 slots1 q ce LS z1 z2 z3 z4 z5 z6 z7 z8 z9 z10 z11 z12 z13 => ?_) hrun _ (pm_entry hlay)
  · intro LS hl
    obtain ⟨hrel1, hS1, -, a4, a5⟩ := hA1
    have a4 : cells1 + h.length = h1.length + 0 := a4
    have a5 : slots1 + pm_slt h = pm_slt h1 + 6 * 0 := a5
    have hret : meth.sig.returnType = some .int := by rw [← t3]; exact B.returns
    cases v with
    | none =>
      obtain ⟨-, -, e3⟩ := hE
      rw [t9] at e3
      cases e3
    | some v =>
      obtain ⟨e1, e2, e3⟩ := hE
      subst e1
      rw [t9] at e2
      cases v with
      | int r =>
        rcases e3 with ⟨-, q2⟩ | ⟨q1, -⟩ | ⟨q1, -⟩
        · refine vx_ret (W.widen (k := h1.length - h.length + 1) (n := pm_slt h1 - pm_slt h + 6) (by omega) (by omega) ?_)
          exact W.iret B.exec B.bytes hret (fun t ht hW => ⟨⟨r, rfl, rfl⟩, ⟨ad, fun _ _ => rfl, by rw [ht]; exact hrel1⟩, hS1.F ht⟩) hS1.2.2 q2
        · rw [t9] at q1; cases q1
        · rw [t9] at q1; cases q1
      | long x => cases e2
      | float x => cases e2
      | double x => cases e2
      | null => cases e2
      | ref x => cases e2
      | retAddr x => cases e2
  · have hv1 : v = some (.int 1) := Sum.inl.inj hv1
    have z12 : cells1 + h.length = h1.length + 1 := z12
    have z13 : slots1 + pm_slt h = pm_slt h1 + 6 := z13
    have hret : meth.sig.returnType = some .int := by rw [← t3]; exact B.returns
    have hpc : pc1 < hp - 3 := t13 _ _ _ z2
    refine vx_catch (own := "RiverWageLaw") (name := pm_nse) (E := pm_nse) hownc [] ⟨0, hp - 3, hp, 13⟩ [] (by rw [htab]; rfl) (fun z hz => nomatch hz) ?_ (show (13 : Nat) ≠ 0 by decide) (hw0 _ (pm_W0_of pm_hpl.1 rfl)) (va_Nw.use rfl (hCx.2.1 _ (List.mem_filter.mpr ⟨pm_hpl.2.1, rfl⟩))) z9 z10 z11 ?_
    · show (decide (0 ≤ pc1) && decide (pc1 < hp - 3)) = true
      rw [decide_eq_true (Nat.zero_le _), decide_eq_true hpc]; rfl
    · show W _ _ _ _ _ _ _ _ _ _ _ _ _ _ _ (F0 mid hp LS [.ref q])
      have hlh : lv_has LS E.2.1 (pm_prz ad ls1) := z3.has
      have c4 := pm_code he hy t5
      have c5 := pm_code he hy t6
      have hgo : ∀ LS' : Array Slot, W p l e (headSpec (pm_wsh y E hp) (pm_rm d (h1.length - h.length + 1) (pm_slt h1 - pm_slt h + 6))).room s mid (As.map (pm_rv ad)).toArray below meth c H1 locs1 cells1 slots1 (vx_MQ below (pm_Qh D cA A ad h1 v) (fun _ _ _ => False) (As.map (pm_rv ad)).toArray s (h1.length - h.length + 1) (pm_slt h1 - pm_slt h + 6) A) (F0 mid (hp + ln) LS' []) := by
        intro LS'
        refine lv_iconst B.exec B.bytes c4.1 rfl ?_
        have ec : cells1 = h1.length - h.length + 1 := by omega
        have es : slots1 = pm_slt h1 - pm_slt h + 6 := by omega
        subst ec; subst es
        refine vx_ret ?_
        exact W.iret B.exec B.bytes hret (fun t ht hW => ⟨⟨1, hv1, rfl⟩, ⟨pm_sw ad (16 + h1.length) H1.size, fun a ha => pm_sw_lt ha, by rw [ht]; exact z5.grown z4 z7⟩, z8.F ht⟩) z8.2.2 c5.1
      rcases t4 with ⟨rfl, t4⟩ | ⟨rfl, k', rfl, t4⟩
      · exact lv_astore B.exec B.bytes (pm_code he hy t4).1 hlh t7 rfl fun LS' _ => hgo LS'
      · exact lv_astore_n B.exec B.bytes (pm_code he hy t4).1 rfl hlh t7 rfl fun LS' _ => hgo LS'
end
