/-! Arrays.fill: its loop on the machine, its contract -/
theorem pm_x_at {X : List (Nat × List Value)} {n m pc : Nat} {E : pm_M} {i : Instr} {len d : Nat} {h : pm_H} {ls : pm_L} {st : List Value} (he : pm_ent m = some E) (hg : pm_get E.2.2.2.2 pc = some (i, len)) : pm_x X (n + 1) d h m pc ls st = pm_dsp X i (pm_x X n) d h m E.2.2.1 pc len ls st := by
  rw [pm_x_succ]
  unfold pm_F
  rw [he]
  dsimp only
  rw [hg]
theorem pm_rw {α : Type} {a b c : α} (h1 : a = b) (h2 : b = c) : a = c := h1.trans h2
abbrev pm_fls (k : Nat) (z : Int32) (j n : Int32) : pm_L := [some (.ref (16 + k)), some (.int z), some (.int j), some (.int n)]
theorem pm_fill_loop (X : List (Nat × List Value)) (d k : Nat) (z : Int32) (N : Nat) (hN : N ≤ 60000) : ∀ (r j : Nat) (h : pm_H) (v : List Value), j + r = N → h[k]? = some (.inl (0, v)) → v.length = N → (∀ i : Nat, i < j → v[i]? = some (.int z)) →
    ∃ n, pm_x X n d h 324 5 (pm_fls k z (Int32.ofNat j) (Int32.ofNat N)) [] = some (h.set k (.inl (0, List.replicate N (.int z))), .inl none)
  | 0, j, h, v, hj, hk, hv, hz => by
    have hj : j = N := by omega
    subst hj
    refine ⟨4, ?_⟩
    have hvr : v = List.replicate j (.int z) := by
      apply List.ext_getElem?
      intro i
      rw [List.getElem?_replicate]
      by_cases hi : i < j
      · rw [if_pos hi]; exact hz i hi
      · rw [if_neg hi]; exact List.getElem?_eq_none (by omega)
    have hset : h.set k (.inl (0, List.replicate j (.int z))) = h := by
      rw [← hvr]
      apply List.ext_getElem?
      intro i
      by_cases hi : k = i
      · subst hi
        rw [List.getElem?_set_self (List.getElem?_eq_some_iff.mp hk).1, hk]
      · rw [List.getElem?_set_ne hi]
    rw [hset]
    refine pm_rw (pm_x_at pm_e324 rfl) ?_
    show pm_fn (5 + 1) (fun q => pm_x X 3 d h 324 q (pm_fls k z (Int32.ofNat j) (Int32.ofNat j)) [.int (Int32.ofNat j)]) = _
    rw [pm_fn_eq]
    refine pm_rw (pm_x_at pm_e324 rfl) ?_
    show pm_fn (6 + 1) (fun q => pm_x X 2 d h 324 q (pm_fls k z (Int32.ofNat j) (Int32.ofNat j)) [.int (Int32.ofNat j), .int (Int32.ofNat j)]) = _
    rw [pm_fn_eq]
    refine pm_rw (pm_x_at pm_e324 rfl) ?_
    show pm_to ((7 : Int) + 13) (fun t => cond (decide (Int32.ofNat j ≤ Int32.ofNat j)) (pm_x X 1 d h 324 t (pm_fls k z (Int32.ofNat j) (Int32.ofNat j)) []) (pm_fn (7 + 3) fun q => pm_x X 1 d h 324 q (pm_fls k z (Int32.ofNat j) (Int32.ofNat j)) [])) = _
    rw [decide_eq_true (Int32.le_refl _)]
    show pm_fn 20 (fun t => pm_x X 1 d h 324 t (pm_fls k z (Int32.ofNat j) (Int32.ofNat j)) []) = _
    rw [pm_fn_eq]
    refine pm_rw (pm_x_at pm_e324 rfl) ?_
    rfl
  | r + 1, j, h, v, hj, hk, hv, hz => by
    have hkl := (List.getElem?_eq_some_iff.mp hk).1
    obtain ⟨n, hn⟩ := pm_fill_loop X d k z N hN r (j + 1) (h.set k (.inl (0, v.set j (.int z)))) (v.set j (.int z)) (by omega) (by rw [List.getElem?_set_self hkl]) (by rw [List.length_set]; exact hv) (fun i hi => by
      by_cases hq : j = i
      · subst hq
        rw [List.getElem?_set_self (by omega)]
      · rw [List.getElem?_set_ne hq]
        exact hz i (by omega))
    rw [List.set_set] at hn
    refine ⟨n + 9, ?_⟩
    have hjN : (Int32.ofNat j).toInt = j := Int32.toInt_ofNat_of_lt (by omega)
    have hNN : (Int32.ofNat N).toInt = N := Int32.toInt_ofNat_of_lt (by omega)
    have hlt : ¬ Int32.ofNat N ≤ Int32.ofNat j := by
      rw [Int32.le_iff_toInt_le, hjN, hNN]
      omega
    have hneg : ¬ Int32.ofNat j < 0 := by
      rw [Int32.lt_iff_toInt_lt, hjN]
      have : (0 : Int32).toInt = 0 := rfl
      rw [this]; omega
    have hclamp : (Int32.ofNat j).toNatClampNeg = j := by
      show (Int32.ofNat j).toInt.toNat = j
      rw [hjN]; rfl
    have hinc : Int32.ofNat j + Int32.ofInt 1 = Int32.ofNat (j + 1) := by
      rw [Int32.ofNat_add]; rfl
    refine pm_rw (pm_x_at pm_e324 rfl) ?_
    show pm_fn (5 + 1) (fun q => pm_x X (n + 8) d h 324 q (pm_fls k z (Int32.ofNat j) (Int32.ofNat N)) [.int (Int32.ofNat j)]) = _
    rw [pm_fn_eq]
    refine pm_rw (pm_x_at pm_e324 rfl) ?_
    show pm_fn (6 + 1) (fun q => pm_x X (n + 7) d h 324 q (pm_fls k z (Int32.ofNat j) (Int32.ofNat N)) [.int (Int32.ofNat N), .int (Int32.ofNat j)]) = _
    rw [pm_fn_eq]
    refine pm_rw (pm_x_at pm_e324 rfl) ?_
    show pm_to ((7 : Int) + 13) (fun t => cond (decide (Int32.ofNat N ≤ Int32.ofNat j)) (pm_x X (n + 6) d h 324 t (pm_fls k z (Int32.ofNat j) (Int32.ofNat N)) []) (pm_fn (7 + 3) fun q => pm_x X (n + 6) d h 324 q (pm_fls k z (Int32.ofNat j) (Int32.ofNat N)) [])) = _
    rw [decide_eq_false hlt]
    show pm_fn (7 + 3) (fun q => pm_x X (n + 6) d h 324 q (pm_fls k z (Int32.ofNat j) (Int32.ofNat N)) []) = _
    rw [pm_fn_eq]
    refine pm_rw (pm_x_at pm_e324 rfl) ?_
    show pm_fn (10 + 1) (fun q => pm_x X (n + 5) d h 324 q (pm_fls k z (Int32.ofNat j) (Int32.ofNat N)) [.ref (16 + k)]) = _
    rw [pm_fn_eq]
    refine pm_rw (pm_x_at pm_e324 rfl) ?_
    show pm_fn (11 + 1) (fun q => pm_x X (n + 4) d h 324 q (pm_fls k z (Int32.ofNat j) (Int32.ofNat N)) [.int (Int32.ofNat j), .ref (16 + k)]) = _
    rw [pm_fn_eq]
    refine pm_rw (pm_x_at pm_e324 rfl) ?_
    show pm_fn (12 + 1) (fun q => pm_x X (n + 3) d h 324 q (pm_fls k z (Int32.ofNat j) (Int32.ofNat N)) [.int z, .int (Int32.ofNat j), .ref (16 + k)]) = _
    rw [pm_fn_eq]
    refine pm_rw (pm_x_at pm_e324 rfl) ?_
    have hcell : pm_cell h (16 + k) = some (.inl (0, v)) := by
      unfold pm_cell
      have : Nat.blt (16 + k) 16 = false := by
        cases hb : Nat.blt (16 + k) 16 with
        | false => rfl
        | true => have := pm_blt hb; omega
      rw [this, cond_false, pm_nth_eq, Nat.add_sub_cancel_left]
      exact hk
    have hin : pm_in (Int32.ofNat j) (pm_len v) = true := by
      unfold pm_in
      rw [decide_eq_false hneg, cond_false, hclamp, pm_len_eq, hv]
      exact Nat.ble_eq_true_of_le (by omega)
    show pm_gIst 0 (fun x => x) (pm_x X (n + 2)) d h 324 14 13 1 (pm_fls k z (Int32.ofNat j) (Int32.ofNat N)) [.int z, .int (Int32.ofNat j), .ref (16 + k)] = _
    unfold pm_gIst
    dsimp only
    rw [hcell]
    dsimp only
    rw [hin]
    show pm_fi z (fun y => pm_fn (13 + 1) fun q => pm_x X (n + 2) d (pm_set h (16 + k - 16) (.inl (0, pm_set v (Int32.ofNat j).toNatClampNeg (.int y)))) 324 q (pm_fls k z (Int32.ofNat j) (Int32.ofNat N)) []) = _
    rw [pm_fi_eq, pm_fn_eq, hclamp, pm_set_eq, pm_set_eq, Nat.add_sub_cancel_left]
    refine pm_rw (pm_x_at pm_e324 rfl) ?_
    show pm_fi (Int32.ofNat j + Int32.ofInt 1) (fun y => pm_fn (14 + 3) fun q => pm_x X (n + 1) d (h.set k (.inl (0, v.set j (.int z)))) 324 q (pm_fls k z y (Int32.ofNat N)) []) = _
    rw [pm_fi_eq, pm_fn_eq, hinc]
    refine pm_rw (pm_x_at pm_e324 rfl) ?_
    show pm_fn 5 (fun t => pm_x X n d (h.set k (.inl (0, v.set j (.int z)))) 324 t (pm_fls k z (Int32.ofNat (j + 1)) (Int32.ofNat N)) []) = _
    rw [pm_fn_eq]
    exact hn
theorem pm_fill_run (X : List (Nat × List Value)) (d k : Nat) (z : Int32) (h : pm_H) (v : List Value) (hk : h[k]? = some (.inl (0, v))) (hv : v.length ≤ 60000) : ∃ n, pm_x X n d h 324 0 (pm_lay [.ref (16 + k), .int z] 4) [] = some (h.set k (.inl (0, List.replicate v.length (.int z))), .inl none) := by
  obtain ⟨n, hn⟩ := pm_fill_loop X d k z v.length hv v.length 0 h v (by omega) hk rfl (fun i hi => by omega)
  refine ⟨n + 5, ?_⟩
  show pm_x X (n + 5) d h 324 0 [some (.ref (16 + k)), some (.int z), none, none] [] = _
  refine pm_rw (pm_x_at pm_e324 rfl) ?_
  show pm_fn (0 + 1) (fun q => pm_x X (n + 4) d h 324 q [some (.ref (16 + k)), some (.int z), none, none] [.int (Int32.ofInt 0)]) = _
  rw [pm_fn_eq]
  refine pm_rw (pm_x_at pm_e324 rfl) ?_
  show pm_fi (Int32.ofInt 0) (fun y => pm_fn (1 + 1) fun q => pm_x X (n + 3) d h 324 q [some (.ref (16 + k)), some (.int z), some (.int y), none] []) = _
  rw [pm_fi_eq, pm_fn_eq]
  refine pm_rw (pm_x_at pm_e324 rfl) ?_
  show pm_fn (2 + 1) (fun q => pm_x X (n + 2) d h 324 q [some (.ref (16 + k)), some (.int z), some (.int (Int32.ofInt 0)), none] [.ref (16 + k)]) = _
  rw [pm_fn_eq]
  refine pm_rw (pm_x_at pm_e324 rfl) ?_
  show pm_gLen X (pm_x X (n + 1)) d h 324 14 3 1 [some (.ref (16 + k)), some (.int z), some (.int (Int32.ofInt 0)), none] [.ref (16 + k)] = _
  have hrow : pm_row X h (16 + k) = some (0, v) := by
    unfold pm_row
    have : Nat.blt (16 + k) 16 = false := by
      cases hb : Nat.blt (16 + k) 16 with
      | false => rfl
      | true => have := pm_blt hb; omega
    rw [this, cond_false, pm_nth_eq, Nat.add_sub_cancel_left, hk]
  unfold pm_gLen
  dsimp only
  rw [hrow]
  show pm_fn (pm_len v) (fun z' => pm_fn (3 + 1) fun q => pm_x X (n + 1) d h 324 q [some (.ref (16 + k)), some (.int z), some (.int (Int32.ofInt 0)), none] [.int (Int32.ofNat z')]) = _
  rw [pm_fn_eq, pm_fn_eq, pm_len_eq]
  refine pm_rw (pm_x_at pm_e324 rfl) ?_
  show pm_fi (Int32.ofNat v.length) (fun y => pm_fn (4 + 1) fun q => pm_x X n d h 324 q [some (.ref (16 + k)), some (.int z), some (.int (Int32.ofInt 0)), some (.int y)] []) = _
  rw [pm_fi_eq, pm_fn_eq]
  exact hn
/-- the contract of Arrays.fill holds -/
theorem pm_fill {l : Launch} {X : List (Nat × List Value)} (hX : pm_X0 X) : pm_Fill l X := by
  intro D cA A ad y e h k v z hy he hk hv
  obtain ⟨n, hn⟩ := pm_fill_run X 0 k z h v hk hv
  have ee : e = (2, 4, 14, 4, pmc_324) := Option.some.inj (he.symm.trans pm_e324)
  have q3 : pm_get pm_kdt 324 = some 2 := by decide +kernel
  obtain ⟨y3, e3, ps, r1, r2, r3⟩ := pm_head q3
  have ey : y3 = y := Option.some.inj (r1.symm.trans hy)
  have ee3 : e3 = e := Option.some.inj (r2.symm.trans he)
  subst ey; subst ee3
  obtain ⟨w1, w2, w3, w4, w5, w6, -⟩ := pm_hd_ok r3 (Or.inr (Or.inl rfl))
  have hle := pm_mono X n _ _ _ _ _ _ _ hn
  refine pm_MtOf (m := 324) rfl rfl rfl rfl he hy w6 w3 w4 (by rw [ee]; rfl) (fun {p e s mid args below meth c Q} F9 hA9 hend9 => ?_)
  rw [← show (pm_lay [.ref (16 + k), .int z] 4) = pm_lay [.ref (16 + k), .int z] e3.2.1 by rw [ee]]
  exact pm_FL hX n (Or.inl rfl) (by rw [ee]; decide) F9 hA9 ⟨by have := hle.1; show _ ≤ (_ - h.length) + h.length; dsimp only at this ⊢; omega, by have := hle.2; show _ ≤ (_ - pm_slt h) + pm_slt h; dsimp only at this ⊢; omega⟩ (fun H1 locs1 cells1 slots1 pc1 ls1 st1 q1 q2 _ => hend9 H1 locs1 cells1 slots1 pc1 ls1 st1 q1 q2) hn
