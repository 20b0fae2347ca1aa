/-! the law's helpers and what it compares, exactly (printed by wip/tool/mhelpx.py) -/
theorem pv_gm_eqA {h : pm_H} {c n k : Nat} {lo hi b : Int} (I : pw_I h) (hs : pw_T[c]? = some (.inl (3, n, lo, hi))) (hk : k < n) (h1 : -4611686018427387904 ≤ b) (h2 : b ≤ 4611686018427387904) : pw_gm (pw_w h c k (.long (Int64.ofInt b))) c k = b := by
  obtain ⟨l, e1, e2, -⟩ := pw_arr I hs
  unfold pw_gm pw_gl
  rw [pw_at_w (by unfold pw_at; rw [e1]; show (l[k]?).isSome = true; rw [List.getElem?_eq_getElem (by omega)]; rfl), if_pos ⟨rfl, rfl⟩]
  exact pw_lToInt h1 h2
theorem pv_c0 {a b : Int64} {c : Int} (h : (c = -1 ∧ a < b) ∨ (c = 0 ∧ a = b) ∨ (c = 1 ∧ b < a)) (e : a = b) : c = 0 := by
  subst e
  rcases h with ⟨-, q⟩ | ⟨q, -⟩ | ⟨-, q⟩
  · exact (Int64.lt_irrefl q).elim
  · exact q
  · exact (Int64.lt_irrefl q).elim
theorem pv_out {h h' : pm_H} {x k : Int} (e : pw_gm h' 169 0 = pw_gm h 169 0) (hc : k = 0 → pw_gm h 169 0 = x) : k = 0 → pw_gl h' 169 0 = Int64.ofInt x := by
  intro q
  rw [← hc q, ← e]
  unfold pw_gm
  rw [Int64.ofInt_toInt]
section Pm
variable {X : List (Nat × List Value)} {K : Nat} {h h' : pm_H} {pc pc' len na nl own rt : Nat} {C : pm_T (Instr × Nat)} {ls ls' : pm_L} {st st' r : List Value} {Q : pm_H → (Option Value ⊕ Unit) → Prop} {i : Instr}
theorem pwl_lald {c n a : Nat} {lo hi : Int} {j : Int} (I : pw_I h) (he : pm_ent 309 = some (na, nl, own, rt, C)) (hq : pm_get C pc = some (.laload, len)) (hs : pw_T[c]? = some (.inl (3, n, lo, hi))) (ha : 16 + c = a) (hn : n ≤ 2147483647) (h0 : 0 ≤ j) (h1 : j < n) (hc : pc + len = pc') (H : pwl X K h pc' ls (.long (pw_gl h c j.toNat) :: r) Q) : pwl X (K + 1) h pc ls (pw_i j :: .ref a :: r) Q := by
  subst hc
  obtain ⟨l, v, e1, e2, e3, w, rfl⟩ := pw_el I hs h0 h1
  have e : pw_gl h c j.toNat = w := by unfold pw_gl; rw [e3]; rfl
  rw [e] at H
  refine pwl_ld he hq (st' := .long w :: r) (pc' := pc + len) (fun ih => ?_) H
  show pm_gLald X ih 50 h 309 own pc len ls (pw_i j :: .ref a :: r) = _
  unfold pm_gLald pw_i
  dsimp only
  rw [pw_rowI e1 ha]
  show cond (Nat.beq 3 3) (cond (decide (Int32.ofInt j < 0)) none (match pm_nth l (Int32.ofInt j).toNatClampNeg with
        | some (.long x) => pm_fn (pc + len) fun q => ih 50 h 309 q ls (.long x :: r)
        | _ => none)) none = _
  rw [Nat.beq_refl, cond_true, decide_eq_false (pw_neg h0 (by omega)), cond_false, pw_clamp h0 (by omega), pm_nth_eq, e2]
  show pm_fn (pc + len) _ = _
  rw [pm_fn_eq]
theorem pwl_lcmp {a b : Int64} (he : pm_ent 309 = some (na, nl, own, rt, C)) (hq : pm_get C pc = some (.lcmp, len)) (hc : pc + len = pc') (H : ∀ c : Int, (c = -1 ∧ a < b) ∨ (c = 0 ∧ a = b) ∨ (c = 1 ∧ b < a) → pwl X K h pc' ls (pw_i c :: r) Q) : pwl X (K + 1) h pc ls (.long b :: .long a :: r) Q := by
  subst hc
  refine pwl_ld he hq (st' := Value.int (lg_cmp a b) :: r) (pc' := pc + len) (fun ih => ?_) ?_
  · exact pm_fn_eq (pc + len) (fun q => ih 50 h 309 q ls (Value.int (lg_cmp a b) :: r))
  · unfold lg_cmp
    by_cases h1 : a > b
    · rw [if_pos h1]
      exact H 1 (Or.inr (Or.inr ⟨rfl, h1⟩))
    · by_cases h2 : a = b
      · rw [if_neg h1, if_pos h2]
        exact H 0 (Or.inr (Or.inl ⟨rfl, h2⟩))
      · rw [if_neg h1, if_neg h2]
        exact H (-1) (Or.inl ⟨rfl, Int64.lt_of_le_of_ne (Int64.not_lt.mp h1) h2⟩)
end Pm
set_option maxHeartbeats 1000000 in
theorem cm_316_x {X : List (Nat × List Value)} {d : Nat} {h : pm_H} (hd : 5 ≤ d) (I : pw_I h) (b : Int) (hb1 : (-2147483648) ≤ b) (hb2 : b ≤ 2147483647) (e : Int) (he1 : (-2147483648) ≤ e) (he2 : e ≤ 2147483647) (wt : Int) (hwt1 : (-2147483648) ≤ wt) (hwt2 : wt ≤ 2147483647) : pw X d h 316 0 [some (.ref 16), some (pw_i b), some (pw_i e), some (pw_i wt), some (.ref 185), none] [] (fun h' v => pw_I h' ∧ pw_E [17, 18, 22, 169] h h' ∧ ∃ a : Int, v = .inl (some (pw_i a)) ∧ 0 ≤ a ∧ a ≤ 1 ∧ ((a = 1 ∧ (¬ (0 ≤ b ∧ b ≤ 11 ∧ 0 ≤ e ∧ e ≤ 11 ∧ b ≠ e ∧ 0 ≤ wt ∧ wt ≤ 1) ∨ ¬ pv_OK (pv_sde h b e))) ∨ (a = 0 ∧ ((0 ≤ b ∧ b ≤ 11 ∧ 0 ≤ e ∧ e ≤ 11 ∧ b ≠ e ∧ 0 ≤ wt ∧ wt ≤ 1) ∧ pv_OK (pv_sde h b e) ∧ (pw_gm h' 169 0) = pv_LW (pv_U (pv_sde h b e) (pv_chc h b e)) (pv_D (pv_sde h b e)) wt)))) := by
  have E : pm_ent 316 = some (5, 6, 13, 0, pmc_316) := rfl
  refine pw_ld E (pc' := 2) (st' := [.ref 185]) rfl (fun _ => rfl) ?_
  refine pw_ld E (pc' := 3) (st' := [pw_i 0, .ref 185]) rfl (fun _ => rfl) ?_
  refine pw_ld E (pc' := 4) (st' := [.ref 16, pw_i 0, .ref 185]) rfl (fun _ => rfl) ?_
  refine pw_ld E (pc' := 5) (st' := [pw_i b, .ref 16, pw_i 0, .ref 185]) rfl (fun _ => rfl) ?_
  refine pw_ld E (pc' := 6) (st' := [pw_i e, pw_i b, .ref 16, pw_i 0, .ref 185]) rfl (fun _ => rfl) ?_
  refine pw_ld E (pc' := 7) (st' := [pw_i wt, pw_i e, pw_i b, .ref 16, pw_i 0, .ref 185]) rfl (fun _ => rfl) ?_
  obtain ⟨fl, fh, -⟩ := pw_obj (c := 0) I rfl
  refine pw_callH (m' := 179) (As := [.ref 16, pw_i b, pw_i e, pw_i wt]) (rest := [pw_i 0, .ref 185]) (ls'' := [some (.ref 16), some (pw_i b), some (pw_i e), some (pw_i wt), none]) (by omega) E rfl (fun _ => pw_iVh rfl rfl rfl rfl (pw_cellI fh rfl)) (rfl : pm_ent 179 = some (4, 5, 11, 2, pmc_179)) rfl rfl (cm_179_s (by omega) I b (by omega) (by omega) e (by omega) (by omega) wt (by omega) (by omega)) ?_
  rintro h1 v1 ⟨I1, E1, ⟨rfl, ht⟩ | ⟨a, rfl, ha, hb, hr⟩⟩
  · exact Or.inl ⟨rfl, I1, (E1.wk (W' := [17, 18, 22, 169]) (by first | rfl | decide)), 1, rfl, by decide, by decide, Or.inl ⟨rfl, ht⟩⟩
  · refine Or.inr ⟨_, rfl, ?_⟩
    show pw X d h1 316 10 [some (.ref 16), some (pw_i b), some (pw_i e), some (pw_i wt), some (.ref 185), none] [.long (Int64.ofInt a), pw_i 0, .ref 185] _
    refine pw_last I1 E (c := 169) (pc' := 11) rfl rfl rfl (by decide) (by decide) (by decide) rfl ?_
    intro I2 E2
    have E3 := ((E1.wk (W' := [17, 18, 22, 169]) (by first | rfl | decide)) : pw_E [17, 18, 22, 169] h h1).tr (E2.wk (W' := [17, 18, 22, 169]) (by first | rfl | decide))
    refine pw_goto E (pc' := 18) rfl (by decide) ?_
    refine pw_ld E (pc' := 19) (st' := [pw_i 0]) rfl (fun _ => rfl) ?_
    refine pw_iret E rfl ?_
    have eo : pw_gm (pw_w h1 169 (Int.toNat 0) (.long (Int64.ofInt a))) 169 0 = a := pv_gm_eqA (k := 0) I1 rfl (by decide) (by omega) (by omega)
    refine ⟨I2, E3, 0, rfl, by decide, by decide, Or.inr ⟨rfl, ?_⟩⟩
    rw [eo]
    exact hr
set_option maxHeartbeats 1000000 in
theorem cm_197 {X : List (Nat × List Value)} {d : Nat} {h : pm_H} (hd : 1 ≤ d) (I : pw_I h) : pw X d h 197 0 [some (.ref 141)] [] (fun h' v => h = h' ∧ ∃ a : Int, v = .inl (some (pw_i a)) ∧ 0 ≤ a ∧ a ≤ 1 ∧ (a = pw_g h 125 0)) := by
  have E : pm_ent 197 = some (1, 1, 12, 0, pmc_197) := rfl
  refine pw_ld E (pc' := 1) (st' := [.ref 141]) rfl (fun _ => rfl) ?_
  refine pw_getI I E (c := 125) (k := 0) (pc' := 4) rfl rfl rfl rfl rfl rfl (fun ha hb hc hd => ?_)
  refine pw_iret E rfl ?_
  exact ⟨rfl, _, rfl, by omega, by omega, rfl⟩
