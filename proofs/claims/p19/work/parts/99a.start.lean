/-! the law's start and its loop (printed by wip/tool/mstart.py) -/
theorem pm_mF {X X' : List (Nat × List Value)} (hX : pm_leX X X') {ih ih' : pm_I} (hi : pm_lei ih ih') : pm_lei (pm_F X ih) (pm_F X' ih') := fun d h m pc ls st o hr => by
  unfold pm_F at hr ⊢
  split at hr
  · exact pm_nn hr
  · split at hr
    · exact pm_nn hr
    · exact pm_mDsp hX _ _ _ hi _ _ _ _ _ _ _ _ _ hr
theorem pw_X00 : pm_leX pw_X0 pw_X0 := ⟨fun _ _ => rfl, rfl⟩
theorem pw_fuelS : ∀ n, pm_lei (pm_x pw_X0 n) (pm_x pw_X0 (n + 1))
  | 0 => fun d h m pc ls st o hr => nomatch (show (none : pm_R) = some o from hr)
  | n + 1 => pm_mF pw_X00 (pw_fuelS n)
theorem pw_fuel {n : Nat} : ∀ k, pm_lei (pm_x pw_X0 n) (pm_x pw_X0 (n + k))
  | 0 => fun _ _ _ _ _ _ _ hr => hr
  | k + 1 => fun d h m pc ls st o hr => pw_fuelS (n + k) d h m pc ls st o (pw_fuel k d h m pc ls st o hr)
theorem pw_of_X0 {xs : List Int32} {n d : Nat} {h : pm_H} {m : Nat} {ls : pm_L} {h1 : pm_H} {v : Option Value ⊕ Unit} (hr : pm_x pw_X0 n d h m 0 ls [] = some (h1, v)) : pw (pm_ext xs) d h m 0 ls [] (fun h' v' => h' = h1 ∧ v' = v) := by
  refine ⟨n, (h1, v), ⟨rfl, rfl⟩, fun k hk => ?_⟩
  have := pw_fuel (n := n) (k - n) _ _ _ _ _ _ _ hr
  rw [show n + (k - n) = k by omega] at this
  exact pm_mX (pw_X0_le xs) k _ _ _ _ _ _ _ this
noncomputable def pw_neg1 (v : Value) : Bool := match v with
  | .int x => decide (x < 0)
  | _ => false
noncomputable def pw_negs (h : pm_H) (c n : Nat) : Bool := match pm_nth h c with
  | some (.inl q) => pm_all pw_neg1 q.2 && Nat.beq (pm_len q.2) n
  | _ => false
noncomputable def pw_slb (h : pm_H) : Nat := List.rec 0 (fun c _ ih => Nat.add (match c with
  | .inl q => pm_len q.2
  | .inr q => pm_len q.2) ih) h
theorem pw_slb_eq : ∀ h : pm_H, pw_slb h = pm_slt h
  | [] => rfl
  | c :: h => by
    show Nat.add (match c with
      | .inl q => pm_len q.2
      | .inr q => pm_len q.2) (pw_slb h) = (pm_sz c :: h.map pm_sz).sum
    rw [List.sum_cons, pw_slb_eq h]
    cases c with
    | inl q => show pm_len q.2 + pm_slt h = q.2.length + pm_slt h; rw [pm_len_eq]
    | inr q => show pm_len q.2 + pm_slt h = q.2.length + pm_slt h; rw [pm_len_eq]
theorem pw_negs_ok {h : pm_H} {c n : Nat} (hb : pw_negs h c n = true) : ∀ j : Nat, j < n → pw_g h c j < 0 := by
  intro j hj
  unfold pw_negs at hb
  split at hb
  · rename_i q hq
    rw [pm_nth_eq] at hq
    rw [Bool.and_eq_true, pm_all_eq, List.all_eq_true, pm_len_eq] at hb
    have hl := Nat.eq_of_beq_eq_true hb.2
    have hv := hb.1 q.2[j] (List.getElem_mem (by omega))
    unfold pw_g pw_at
    rw [hq]
    show pw_iv q.2[j]? < 0
    rw [List.getElem?_eq_getElem (by omega)]
    generalize q.2[j] = v at hv
    cases v with
    | int x =>
      have : x < 0 := of_decide_eq_true hv
      show x.toInt < 0
      exact Int32.lt_iff_toInt_lt.mp this
    | _ => cases hv
  · cases hb
noncomputable def pw_zer (v : Value) : Bool := match v with
  | .int x => decide (x = 0)
  | _ => false
noncomputable def pw_zers (h : pm_H) (c n : Nat) : Bool := match pm_nth h c with
  | some (.inl q) => pm_all pw_zer q.2 && Nat.beq (pm_len q.2) n
  | _ => false
theorem pw_zers_ok {h : pm_H} {c n : Nat} (hb : pw_zers h c n = true) : ∀ j : Nat, j < n → pw_g h c j = 0 := by
  intro j hj
  unfold pw_zers at hb
  split at hb
  · rename_i q hq
    rw [pm_nth_eq] at hq
    rw [Bool.and_eq_true, pm_all_eq, List.all_eq_true, pm_len_eq] at hb
    have hl := Nat.eq_of_beq_eq_true hb.2
    have hv := hb.1 q.2[j] (List.getElem_mem (by omega))
    unfold pw_g pw_at
    rw [hq]
    show pw_iv q.2[j]? = 0
    rw [List.getElem?_eq_getElem (by omega)]
    generalize q.2[j] = v at hv
    cases v with
    | int x =>
      have : x = 0 := of_decide_eq_true hv
      rw [this]
      rfl
    | _ => cases hv
  · cases hb
noncomputable def pw_zf (h : pm_H) (c k : Nat) : Bool := match pm_nth h c with
  | some (.inr q) => (match pm_nth q.2 k with
    | some v => pw_zer v
    | none => false)
  | _ => false
theorem pw_zf_ok {h : pm_H} {c k : Nat} (hb : pw_zf h c k = true) : pw_g h c k = 0 := by
  unfold pw_zf at hb
  split at hb
  · rename_i q hq
    rw [pm_nth_eq] at hq
    split at hb
    · rename_i v hv
      rw [pm_nth_eq] at hv
      unfold pw_g pw_at
      rw [hq]
      show pw_iv q.2[k]? = 0
      rw [hv]
      cases v with
      | int x =>
        have : x = 0 := of_decide_eq_true hb
        rw [this]
        rfl
      | _ => cases hb
    · cases hb
  · cases hb
noncomputable def pw_eqv (v0 : Int32) (v : Value) : Bool := match v with
  | .int x => decide (x = v0)
  | _ => false
noncomputable def pw_als (h : pm_H) (c n : Nat) (v0 : Int32) : Bool := match pm_nth h c with
  | some (.inl q) => pm_all (pw_eqv v0) q.2 && Nat.beq (pm_len q.2) n
  | _ => false
theorem pw_als_ok {h : pm_H} {c n : Nat} {v0 : Int32} (hb : pw_als h c n v0 = true) : ∀ j : Nat, j < n → pw_g h c j = v0.toInt := by
  intro j hj
  unfold pw_als at hb
  split at hb
  · rename_i q hq
    rw [pm_nth_eq] at hq
    rw [Bool.and_eq_true, pm_all_eq, List.all_eq_true, pm_len_eq] at hb
    have hl := Nat.eq_of_beq_eq_true hb.2
    have hv := hb.1 q.2[j] (List.getElem_mem (by omega))
    unfold pw_g pw_at
    rw [hq]
    show pw_iv q.2[j]? = v0.toInt
    rw [List.getElem?_eq_getElem (by omega)]
    generalize q.2[j] = v at hv
    cases v with
    | int x =>
      have : x = v0 := of_decide_eq_true hv
      rw [this]
      rfl
    | _ => cases hv
  · cases hb
noncomputable def pw_vf (h : pm_H) (c k : Nat) (v0 : Int32) : Bool := match pm_nth h c with
  | some (.inr q) => (match pm_nth q.2 k with
    | some v => pw_eqv v0 v
    | none => false)
  | _ => false
theorem pw_vf_ok {h : pm_H} {c k : Nat} {v0 : Int32} (hb : pw_vf h c k v0 = true) : pw_g h c k = v0.toInt := by
  unfold pw_vf at hb
  split at hb
  · rename_i q hq
    rw [pm_nth_eq] at hq
    split at hb
    · rename_i v hv
      rw [pm_nth_eq] at hv
      unfold pw_g pw_at
      rw [hq]
      show pw_iv q.2[k]? = v0.toInt
      rw [hv]
      cases v with
      | int x =>
        have : x = v0 := of_decide_eq_true hb
        rw [this]
        rfl
      | _ => cases hb
    · cases hb
  · cases hb
noncomputable def pw_st2 : Bool := match pm_x pw_X0 20000 49 [.inr (11, pw_tpl 11)] 118 0 (pm_lay [.ref 16] 2) [] with
  | some (h1, .inl none) => Nat.beq (pm_len h1) 125 && (match pm_x pw_X0 20000 49 (h1 ++ [.inr (12, pw_tpl 12)]) 200 0 (pm_lay [.ref 141] 2) [] with
    | some (h2, .inl none) => Nat.beq (pm_len h2) 169 && (pw_Ib (h2 ++ [.inl (3, [.long 0])]) && (pw_negs (h2 ++ [.inl (3, [.long 0])]) 145 20 && (pw_negs (h2 ++ [.inl (3, [.long 0])]) 157 4 && (pw_zers (h2 ++ [.inl (3, [.long 0])]) 2 24 && (pw_zers (h2 ++ [.inl (3, [.long 0])]) 131 24 && (pw_zers (h2 ++ [.inl (3, [.long 0])]) 3 24 && (pw_zers (h2 ++ [.inl (3, [.long 0])]) 135 24 && (pw_zers (h2 ++ [.inl (3, [.long 0])]) 4 24 && (pw_zers (h2 ++ [.inl (3, [.long 0])]) 132 24 && (pw_zers (h2 ++ [.inl (3, [.long 0])]) 5 24 && (pw_zers (h2 ++ [.inl (3, [.long 0])]) 133 24 && (pw_zers (h2 ++ [.inl (3, [.long 0])]) 6 24 && (pw_zers (h2 ++ [.inl (3, [.long 0])]) 134 24 && (pw_zers (h2 ++ [.inl (3, [.long 0])]) 8 24 && (pw_zers (h2 ++ [.inl (3, [.long 0])]) 136 24 && (pw_zers (h2 ++ [.inl (3, [.long 0])]) 9 24 && (pw_zers (h2 ++ [.inl (3, [.long 0])]) 137 24 && (pw_zers (h2 ++ [.inl (3, [.long 0])]) 14 288 && (pw_zers (h2 ++ [.inl (3, [.long 0])]) 162 288 && (pw_zers (h2 ++ [.inl (3, [.long 0])]) 15 288 && (pw_zers (h2 ++ [.inl (3, [.long 0])]) 163 288 && (pw_vf (h2 ++ [.inl (3, [.long 0])]) 0 6 5 && (pw_vf (h2 ++ [.inl (3, [.long 0])]) 125 15 5 && (pw_zers (h2 ++ [.inl (3, [.long 0])]) 166 4 && (pw_zers (h2 ++ [.inl (3, [.long 0])]) 167 4 && (pw_als (h2 ++ [.inl (3, [.long 0])]) 11 288 (-2) && (pw_zers (h2 ++ [.inl (3, [.long 0])]) 138 288 && (pw_zers (h2 ++ [.inl (3, [.long 0])]) 139 288 && (pw_zers (h2 ++ [.inl (3, [.long 0])]) 140 288 && (pw_als (h2 ++ [.inl (3, [.long 0])]) 13 288 (-2) && (pw_zers (h2 ++ [.inl (3, [.long 0])]) 141 288 && (pw_zf (h2 ++ [.inl (3, [.long 0])]) 100 3 && (pw_zf (h2 ++ [.inl (3, [.long 0])]) 125 41 && (pw_zf (h2 ++ [.inl (3, [.long 0])]) 105 2 && (pw_zf (h2 ++ [.inl (3, [.long 0])]) 105 3 && (pw_zf (h2 ++ [.inl (3, [.long 0])]) 110 2 && (pw_zf (h2 ++ [.inl (3, [.long 0])]) 110 3 && (pw_zf (h2 ++ [.inl (3, [.long 0])]) 115 2 && (pw_zf (h2 ++ [.inl (3, [.long 0])]) 115 3 && (pw_zf (h2 ++ [.inl (3, [.long 0])]) 120 2 && (pw_zf (h2 ++ [.inl (3, [.long 0])]) 120 3 && Nat.ble (pw_slb (h2 ++ [.inl (3, [.long 0])])) 100000)))))))))))))))))))))))))))))))))))))))))
    | _ => false)
  | _ => false
set_option maxRecDepth 100000 in
theorem pw_st2_ok : pw_st2 = true := by decide +kernel
theorem pw_start : ∃ h1 h2 : pm_H, pm_x pw_X0 20000 49 [.inr (11, pw_tpl 11)] 118 0 (pm_lay [.ref 16] 2) [] = some (h1, .inl none) ∧ h1.length = 125 ∧ pm_x pw_X0 20000 49 (h1 ++ [.inr (12, pw_tpl 12)]) 200 0 (pm_lay [.ref 141] 2) [] = some (h2, .inl none) ∧ h2.length = 169 ∧ pw_I (h2 ++ [.inl (3, [.long 0])]) ∧ pw_K (h2 ++ [.inl (3, [.long 0])]) ∧ pw_PR 2 131 24 (h2 ++ [.inl (3, [.long 0])]) ∧ pw_PR 3 135 24 (h2 ++ [.inl (3, [.long 0])]) ∧ pw_PR 4 132 24 (h2 ++ [.inl (3, [.long 0])]) ∧ pw_PR 5 133 24 (h2 ++ [.inl (3, [.long 0])]) ∧ pw_PR 6 134 24 (h2 ++ [.inl (3, [.long 0])]) ∧ pw_PR 8 136 24 (h2 ++ [.inl (3, [.long 0])]) ∧ pw_PR 9 137 24 (h2 ++ [.inl (3, [.long 0])]) ∧ pw_PR 14 162 288 (h2 ++ [.inl (3, [.long 0])]) ∧ pw_PR 15 163 288 (h2 ++ [.inl (3, [.long 0])]) ∧ pw_Tn (h2 ++ [.inl (3, [.long 0])]) ∧ pw_Lc (h2 ++ [.inl (3, [.long 0])]) ∧ pw_Shs (h2 ++ [.inl (3, [.long 0])]) ∧ pw_Rm (h2 ++ [.inl (3, [.long 0])]) ∧ pw_Ro (h2 ++ [.inl (3, [.long 0])]) ∧ pm_slt (h2 ++ [.inl (3, [.long 0])]) ≤ 100000 := by
  have h := pw_st2_ok
  unfold pw_st2 at h
  split at h
  · rename_i h1 hr1
    rw [Bool.and_eq_true, pm_len_eq] at h
    obtain ⟨l1, h⟩ := h
    split at h
    · rename_i h2 hr2
      rw [Bool.and_eq_true, Bool.and_eq_true, Bool.and_eq_true, Bool.and_eq_true, Bool.and_eq_true, Bool.and_eq_true, Bool.and_eq_true, Bool.and_eq_true, Bool.and_eq_true, Bool.and_eq_true, Bool.and_eq_true, Bool.and_eq_true, Bool.and_eq_true, Bool.and_eq_true, Bool.and_eq_true, Bool.and_eq_true, Bool.and_eq_true, Bool.and_eq_true, Bool.and_eq_true, Bool.and_eq_true, Bool.and_eq_true, Bool.and_eq_true, Bool.and_eq_true, Bool.and_eq_true, Bool.and_eq_true, Bool.and_eq_true, Bool.and_eq_true, Bool.and_eq_true, Bool.and_eq_true, Bool.and_eq_true, Bool.and_eq_true, Bool.and_eq_true, Bool.and_eq_true, Bool.and_eq_true, Bool.and_eq_true, Bool.and_eq_true, Bool.and_eq_true, Bool.and_eq_true, Bool.and_eq_true, Bool.and_eq_true, Bool.and_eq_true, Bool.and_eq_true, pm_len_eq] at h
      obtain ⟨l2, b1, b2, b3, z0, z1, z2, z3, z4, z5, z6, z7, z8, z9, z10, z11, z12, z13, z14, z15, z16, z17, z18, z19, z20, z21, z22, z23, z24, z25, z26, z27, z28, z29, z30, z31, z32, z33, z34, z35, z36, z37, b4⟩ := h
      have k1 := pw_negs_ok b2
      have k2 := pw_negs_ok b3
      refine ⟨h1, h2, hr1, Nat.eq_of_beq_eq_true l1, hr2, Nat.eq_of_beq_eq_true l2, pw_Ib_ok b1, ⟨fun l k hl hk => Or.inl (k1 _ (by omega)), fun i hi => Or.inl (k2 i hi)⟩, (fun j hj => (pw_zers_ok z0 j hj).trans (pw_zers_ok z1 j hj).symm), (fun j hj => (pw_zers_ok z2 j hj).trans (pw_zers_ok z3 j hj).symm), (fun j hj => (pw_zers_ok z4 j hj).trans (pw_zers_ok z5 j hj).symm), (fun j hj => (pw_zers_ok z6 j hj).trans (pw_zers_ok z7 j hj).symm), (fun j hj => (pw_zers_ok z8 j hj).trans (pw_zers_ok z9 j hj).symm), (fun j hj => (pw_zers_ok z10 j hj).trans (pw_zers_ok z11 j hj).symm), (fun j hj => (pw_zers_ok z12 j hj).trans (pw_zers_ok z13 j hj).symm), (fun j hj => (pw_zers_ok z14 j hj).trans (pw_zers_ok z15 j hj).symm), (fun j hj => (pw_zers_ok z16 j hj).trans (pw_zers_ok z17 j hj).symm), (pw_vf_ok z18).trans (pw_vf_ok z19).symm, ⟨fun c hc => Or.inl ⟨pw_zers_ok z23 c hc, pw_als_ok z22 c hc, pw_zers_ok z24 c hc, pw_zers_ok z25 c hc⟩, fun i hi hl => absurd (pw_zers_ok z20 i hi) hl⟩, ⟨fun c hc => Or.inl ⟨pw_zers_ok z27 c hc, pw_als_ok z26 c hc⟩, fun i hi hl => absurd (pw_zers_ok z20 i hi) hl⟩, ⟨(pw_zf_ok z28).trans (pw_zf_ok z29).symm, pw_i4 ⟨(pw_zf_ok z30).trans (pw_zers_ok z21 0 (by decide)).symm, (pw_zf_ok z31).trans (pw_zers_ok z20 0 (by decide)).symm⟩ ⟨(pw_zf_ok z32).trans (pw_zers_ok z21 1 (by decide)).symm, (pw_zf_ok z33).trans (pw_zers_ok z20 1 (by decide)).symm⟩ ⟨(pw_zf_ok z34).trans (pw_zers_ok z21 2 (by decide)).symm, (pw_zf_ok z35).trans (pw_zers_ok z20 2 (by decide)).symm⟩ ⟨(pw_zf_ok z36).trans (pw_zers_ok z21 3 (by decide)).symm, (pw_zf_ok z37).trans (pw_zers_ok z20 3 (by decide)).symm⟩⟩, fun j hj => absurd hj (by rw [pw_zf_ok z28]; omega), ?_⟩
      rw [← pw_slb_eq]
      exact Nat.le_of_ble_eq_true b4
    · cases h
  · cases h
theorem pw_iP {X : List (Nat × List Value)} {d : Nat} {h : pm_H} {m pc len own : Nat} {ls : pm_L} {st : List Value} {ix m' nb ci a : Nat} {As rest : List Value} {ih : pm_I} (hl : pm_get (pm_lnk own) ix = some (3, m', nb, ci)) (hp : pm_pop nb st [] = some (.ref a :: As, rest)) (h8 : pm_cat8 rest = true) : pm_dsp X (.invokespecial ix) ih d h m own pc len ls st = pm_call ih d h m pc ls m' (.ref a :: As) rest false := pw_inv (len := len) (Or.inr rfl) hl hp h8 (fun _ => ⟨_, _, rfl⟩)
section Pl
variable {X : List (Nat × List Value)} {K : Nat} {h : pm_H} {pc pc' len na nl own rt : Nat} {C : pm_T (Instr × Nat)} {ls : pm_L} {st r : List Value} {Q : pm_H → (Option Value ⊕ Unit) → Prop}
theorem pwl_new {ix ci n z y : Nat} {fs : List Value} (he : pm_ent 309 = some (na, nl, own, rt, C)) (hq : pm_get C pc = some (.new ix, len)) (hl : pm_get (pm_lnk own) ix = some (6, ci, n, z)) (hX : X[16 + ci]? = some (y, fs)) (hn : fs.length = n) (hc : pc + len = pc') (H : pwl X K (h ++ [.inr (ci, fs)]) pc' ls (.ref (16 + h.length) :: st) Q) : pwl X (K + 1) h pc ls st Q := by
  subst hc
  refine pwl_go he hq (fun ih => ?_) H
  show pm_gNew X ix ih 50 h 309 own pc len ls st = _
  unfold pm_gNew
  rw [hl]
  show (match pm_nth X (16 + ci) with
    | some (_, fs) => cond (Nat.beq (pm_len fs) n) (pm_fn (pm_len h) fun z => pm_fn (pc + len) fun q => ih 50 (h ++ [(Sum.inr (ci, fs) : pm_C)]) 309 q ls (.ref (16 + z) :: st)) none
    | none => none) = _
  rw [pm_nth_eq, hX]
  show cond (Nat.beq (pm_len fs) n) (pm_fn (pm_len h) fun z => pm_fn (pc + len) fun q => ih 50 (h ++ [(Sum.inr (ci, fs) : pm_C)]) 309 q ls (.ref (16 + z) :: st)) none = _
  rw [pm_len_eq, hn, Nat.beq_refl, cond_true, pm_fn_eq, pm_fn_eq, pm_len_eq]
theorem pwl_newl {n : Int} (he : pm_ent 309 = some (na, nl, own, rt, C)) (hq : pm_get C pc = some (.newarray .long, len)) (hc : pc + len = pc') (h0 : 0 ≤ n) (h1 : n ≤ 60000) (H : pwl X K (h ++ [.inl (3, List.replicate n.toNat (.long 0))]) pc' ls (.ref (16 + h.length) :: r) Q) : pwl X (K + 1) h pc ls (pw_i n :: r) Q := by
  subst hc
  refine pwl_go he hq (fun ih => ?_) H
  show cond (decide (Int32.ofInt n < 0)) none (cond (Nat.ble (Int32.ofInt n).toNatClampNeg 60000) (cond (Nat.blt 3 5) (pm_fn (pm_len h) fun z => pm_fn (pc + len) fun q => ih 50 (h ++ [.inl (3, pm_rep (Int32.ofInt n).toNatClampNeg (.long 0))]) 309 q ls (.ref (16 + z) :: r)) none) none) = _
  rw [decide_eq_false (pw_neg h0 (by omega)), cond_false, pw_clamp h0 (by omega), Nat.ble_eq_true_of_le (by omega), cond_true, pm_fn_eq, pm_fn_eq, pm_len_eq, pm_rep_eq]
  rfl
end Pl
theorem pw_tplX (xs : List Int32) : (∃ y, (pm_ext xs)[16 + 11]? = some (y, pw_tpl 11)) ∧ (∃ y, (pm_ext xs)[16 + 12]? = some (y, pw_tpl 12)) ∧ (pw_tpl 11).length = 20 ∧ (pw_tpl 12).length = 58 := ⟨⟨_, rfl⟩, ⟨_, rfl⟩, rfl, rfl⟩
set_option maxHeartbeats 4000000 in
theorem lw_begin {xs : List Int32} {K : Nat} {Q : pm_H → (Option Value ⊕ Unit) → Prop} (H : ∀ h : pm_H, pw_I h → pw_K h → pw_PR 2 131 24 h → pw_PR 3 135 24 h → pw_PR 4 132 24 h → pw_PR 5 133 24 h → pw_PR 6 134 24 h → pw_PR 8 136 24 h → pw_PR 9 137 24 h → pw_PR 14 162 288 h → pw_PR 15 163 288 h → pw_Tn h → pw_Lc h → pw_Shs h → pw_Rm h → pw_Ro h → h.length = 170 → pm_slt h ≤ 100000 → pwl (pm_ext xs) K h 20 [some (.ref 0), some (.ref 16), some (.ref 141), some (.ref 185), none, none, none, none] [] Q) : pwl (pm_ext xs) (K + 20) [] 0 (pm_lay [.ref 0] 8) [] Q := by
  have E : pm_ent 309 = some (1, 8, 13, 1, pmc_309) := rfl
  obtain ⟨⟨y1, e1⟩, ⟨y2, e2⟩, e3, e4⟩ := pw_tplX xs
  obtain ⟨h1, h2, r1, l1, r2, l2, I2, K2, T20, T21, T22, T23, T24, T25, T26, T27, T28, T29, T210, T211, T212, T213, S2⟩ := pw_start
  show pwl (pm_ext xs) (K + 20) [] 0 [some (.ref 0), none, none, none, none, none, none, none] [] Q
  refine pwl_new E (pc' := 3) rfl rfl e1 e3 rfl ?_
  show pwl (pm_ext xs) (K + 19) [.inr (11, pw_tpl 11)] 3 [some (.ref 0), none, none, none, none, none, none, none] [.ref 16] Q
  refine pwl_ld E (pc' := 4) (st' := [.ref 16, .ref 16]) rfl (fun _ => rfl) ?_
  refine pwl_call (m' := 118) (As := [.ref 16]) (rest := [.ref 16]) (ls'' := pm_lay [.ref 16] 2) E rfl (fun _ => pw_iP rfl rfl rfl) (rfl : pm_ent 118 = some (1, 2, 11, 4, pmc_118)) (by decide) rfl rfl (pw_of_X0 r1) ?_
  rintro g1 v1 ⟨rfl, rfl⟩
  refine ⟨_, rfl, ?_⟩
  show pwl (pm_ext xs) (K + 17) g1 7 [some (.ref 0), none, none, none, none, none, none, none] [.ref 16] Q
  refine pwl_astn E (pc' := 8) (ls' := [some (.ref 0), some (.ref 16), none, none, none, none, none, none]) rfl rfl rfl rfl ?_
  refine pwl_new E (pc' := 11) rfl rfl e2 e4 rfl ?_
  rw [l1]
  refine pwl_ld E (pc' := 12) (st' := [.ref 141, .ref 141]) rfl (fun _ => rfl) ?_
  refine pwl_call (m' := 200) (As := [.ref 141]) (rest := [.ref 141]) (ls'' := pm_lay [.ref 141] 2) E rfl (fun _ => pw_iP rfl rfl rfl) (rfl : pm_ent 200 = some (1, 2, 12, 4, pmc_200)) (by decide) rfl rfl (pw_of_X0 r2) ?_
  rintro g2 v2 ⟨rfl, rfl⟩
  refine ⟨_, rfl, ?_⟩
  show pwl (pm_ext xs) (K + 13) g2 15 [some (.ref 0), some (.ref 16), none, none, none, none, none, none] [.ref 141] Q
  refine pwl_astn E (pc' := 16) (ls' := [some (.ref 0), some (.ref 16), some (.ref 141), none, none, none, none, none]) rfl rfl rfl rfl ?_
  refine pwl_ld E (pc' := 17) (st' := [pw_i 1]) rfl (fun _ => rfl) ?_
  refine pwl_newl E (pc' := 19) rfl rfl (by decide) (by decide) ?_
  rw [l2]
  refine pwl_astn E (pc' := 20) (ls' := [some (.ref 0), some (.ref 16), some (.ref 141), some (.ref 185), none, none, none, none]) rfl rfl rfl rfl ?_
  refine pwl_mono (by omega) (H _ I2 K2 T20 T21 T22 T23 T24 T25 T26 T27 T28 T29 T210 T211 T212 T213 ?_ S2)
  rw [List.length_append, l2]
  rfl
set_option maxHeartbeats 4000000 in
set_option maxRecDepth 8000 in
theorem lw_loop {xs : List Int32} {Q : pm_H → (Option Value ⊕ Unit) → Prop} (hl : xs.length ≤ 3584) (hQ : ∀ h : pm_H, h.length ≤ 682 → pm_slt h ≤ 612000 → Q h (.inl (some (pw_i 1)))) : ∀ (r : Nat) (h : pm_H) (i : Int) (a5 a6 a7 : Option Value), pw_I h → pw_K h → pw_PR 2 131 24 h → pw_PR 3 135 24 h → pw_PR 4 132 24 h → pw_PR 5 133 24 h → pw_PR 6 134 24 h → pw_PR 8 136 24 h → pw_PR 9 137 24 h → pw_PR 14 162 288 h → pw_PR 15 163 288 h → pw_Tn h → pw_Lc h → pw_Shs h → pw_Rm h → pw_Ro h → 0 ≤ i → (xs.length : Int) - i < 7 * r + 7 → h.length + r ≤ 682 → pm_slt h + 1000 * r ≤ 612000 → (∀ n, pm_scl n a5 = true) → (∀ n, pm_scl n a6 = true) → (∀ n, pm_scl n a7 = true) → i ≤ 3600 → pwl (pm_ext xs) (170 * r + 170) h 23 [some (.ref 0), some (.ref 16), some (.ref 141), some (.ref 185), some (pw_i i), a5, a6, a7] [] Q := by
  have E : pm_ent 309 = some (1, 8, 13, 1, pmc_309) := rfl
  have hX0 : (pm_ext xs)[0]? = some (0, xs.map Value.int) := rfl
  have hX := pw_Xk0 xs
  have hR := pw_Xr0 xs
  intro r
  induction r with
  | zero =>
    intro h i a5 a6 a7 I hK hT0 hT1 hT2 hT3 hT4 hT5 hT6 hT7 hT8 hT9 hT10 hT11 hT12 hT13 h0 hi hl1 hs1 s5 s6 s7 h36
    refine pwl_mono (K := 150 + 20) (by omega) ?_
    refine pwl_ld E (pc' := 25) (st' := [pw_i i]) rfl (fun _ => rfl) ?_
    refine pwl_ld E (pc' := 26) (st' := [.ref 0, pw_i i]) rfl (fun _ => rfl) ?_
    refine pwl_xlen E (pc' := 27) rfl hX0 (by decide) (List.length_map _) rfl ?_
    refine pwl_bip E (pc' := 29) rfl rfl (by decide) ?_
    refine pwl_sub E (pc' := 30) rfl rfl ?_
    refine pwl_if2 E (pc' := 2374) rfl (by decide) (by omega) (by omega) (by omega) (by omega) ?_ ?_
    · intro _
      refine pwl_ld E (pc' := 2375) (st' := [pw_i 1]) rfl (fun _ => rfl) ?_
      exact pwl_zret E rfl (by decide) (hQ h (by omega) (by omega))
    · intro hc
      have hc : ¬ ((xs.length : Int) - 7 < i) := hc
      exfalso; omega
  | succ r ihr =>
    have hkr : 170 * r + 337 ≤ 170 * (r + 1) + 170 := by omega
    intro h i a5 a6 a7 I hK hT0 hT1 hT2 hT3 hT4 hT5 hT6 hT7 hT8 hT9 hT10 hT11 hT12 hT13 h0 hi hl1 hs1 s5 s6 s7 h36
    refine pwl_mono (K := 170 * r + 337) hkr ?_
    refine pwl_ld E (pc' := 25) (st' := [pw_i i]) rfl (fun _ => rfl) ?_
    refine pwl_ld E (pc' := 26) (st' := [.ref 0, pw_i i]) rfl (fun _ => rfl) ?_
    refine pwl_xlen E (pc' := 27) rfl hX0 (by decide) (List.length_map _) rfl ?_
    refine pwl_bip E (pc' := 29) rfl rfl (by decide) ?_
    refine pwl_sub E (pc' := 30) rfl rfl ?_
    refine pwl_if2 E (pc' := 2374) rfl (by decide) (by omega) (by omega) (by omega) (by omega) ?_ ?_
    · intro _
      refine pwl_ld E (pc' := 2375) (st' := [pw_i 1]) rfl (fun _ => rfl) ?_
      exact pwl_zret E rfl (by decide) (hQ h (by omega) (by omega))
    intro hc
    have hc : ¬ ((xs.length : Int) - 7 < i) := hc
    have hB : ∀ (h' : pm_H) (b5 b6 b7 : Option Value), pw_I h' → pw_K h' → pw_PR 2 131 24 h' → pw_PR 3 135 24 h' → pw_PR 4 132 24 h' → pw_PR 5 133 24 h' → pw_PR 6 134 24 h' → pw_PR 8 136 24 h' → pw_PR 9 137 24 h' → pw_PR 14 162 288 h' → pw_PR 15 163 288 h' → pw_Tn h' → pw_Lc h' → pw_Shs h' → pw_Rm h' → pw_Ro h' → h'.length ≤ h.length + 1 → pm_slt h' ≤ pm_slt h + 1000 → (∀ n, pm_scl n b5 = true) → (∀ n, pm_scl n b6 = true) → (∀ n, pm_scl n b7 = true) → pwl (pm_ext xs) (170 * r + 172) h' 2368 [some (.ref 0), some (.ref 16), some (.ref 141), some (.ref 185), some (pw_i i), b5, b6, b7] [] Q := by
      intro h' b5 b6 b7 I' K' T0' T1' T2' T3' T4' T5' T6' T7' T8' T9' T10' T11' T12' T13' l' z' t5 t6 t7
      refine pwl_inc E (pc' := 2371) (ls' := [some (.ref 0), some (.ref 16), some (.ref 141), some (.ref 185), some (pw_i (i + 7)), b5, b6, b7]) rfl rfl rfl rfl ?_
      refine pwl_goto E (pc' := 23) rfl (by decide) ?_
      exact ihr h' (i + 7) b5 b6 b7 I' K' T0' T1' T2' T3' T4' T5' T6' T7' T8' T9' T10' T11' T12' T13' (by omega) (by omega) (by omega) (by omega) t5 t6 t7 (by omega)
    refine pwl_ld E (pc' := 34) (st' := [.ref 0]) rfl (fun _ => rfl) ?_
    refine pwl_ld E (pc' := 36) (st' := [pw_i i, .ref 0]) rfl (fun _ => rfl) ?_
    refine pwl_sald E (pc' := 37) rfl hX0 hl (by omega) (by omega) rfl ?_
    refine pwl_bip E (pc' := 39) rfl rfl (by decide) ?_
    refine pwl_ii (f := fun x y => x &&& y) E (pc' := 40) rfl (fun _ => rfl) ?_
    intro c hca hcb
    rcases (by omega : c = 0 ∨ c = 1 ∨ c = 2 ∨ c = 3 ∨ c = 4 ∨ c = 5 ∨ c = 6 ∨ c = 7 ∨ c = 8 ∨ c = 9 ∨ c = 10 ∨ c = 11 ∨ c = 12 ∨ c = 13 ∨ c = 14 ∨ c = 15 ∨ c = 16 ∨ c = 17 ∨ c = 18 ∨ c = 19 ∨ c = 20 ∨ c = 21 ∨ c = 22 ∨ c = 23 ∨ c = 24 ∨ c = 25 ∨ c = 26 ∨ c = 27 ∨ c = 28 ∨ c = 29 ∨ c = 30 ∨ c = 31 ∨ c = 32 ∨ c = 33 ∨ c = 34 ∨ c = 35 ∨ c = 36 ∨ c = 37 ∨ c = 38 ∨ c = 39 ∨ c = 40 ∨ (c < 0 ∨ 40 < c)) with hs | hs | hs | hs | hs | hs | hs | hs | hs | hs | hs | hs | hs | hs | hs | hs | hs | hs | hs | hs | hs | hs | hs | hs | hs | hs | hs | hs | hs | hs | hs | hs | hs | hs | hs | hs | hs | hs | hs | hs | hs | hs
    · refine pwl_tswJ (o := 180) E (pc' := 220) rfl (by omega) (by omega) (by omega) (by rw [hs]; rfl) (by decide) ?_
      exact pwl_mono (by omega) (lc_0 (K := 170 * r + 172) hX0 hl hX hR I hK hT0 hT1 hT2 hT3 hT4 hT5 hT6 hT7 hT8 hT9 hT10 hT11 hT12 hT13 i (by omega) (by omega) a5 a6 a7 s5 s6 s7 hB)
    · refine pwl_tswJ (o := 269) E (pc' := 309) rfl (by omega) (by omega) (by omega) (by rw [hs]; rfl) (by decide) ?_
      exact pwl_mono (by omega) (lc_1 (K := 170 * r + 172) hX0 hl hX hR I hK hT0 hT1 hT2 hT3 hT4 hT5 hT6 hT7 hT8 hT9 hT10 hT11 hT12 hT13 i (by omega) (by omega) a5 a6 a7 s5 s6 s7 hB)
    · refine pwl_tswJ (o := 330) E (pc' := 370) rfl (by omega) (by omega) (by omega) (by rw [hs]; rfl) (by decide) ?_
      exact pwl_mono (by omega) (lc_2 (K := 170 * r + 172) hX0 hl hX hR I hK hT0 hT1 hT2 hT3 hT4 hT5 hT6 hT7 hT8 hT9 hT10 hT11 hT12 hT13 i (by omega) (by omega) a5 a6 a7 s5 s6 s7 hB)
    · refine pwl_tswJ (o := 391) E (pc' := 431) rfl (by omega) (by omega) (by omega) (by rw [hs]; rfl) (by decide) ?_
      exact pwl_mono (by omega) (lc_3 (K := 170 * r + 172) hX0 hl hX hR I hK hT0 hT1 hT2 hT3 hT4 hT5 hT6 hT7 hT8 hT9 hT10 hT11 hT12 hT13 i (by omega) (by omega) a5 a6 a7 s5 s6 s7 hB)
    · refine pwl_tswJ (o := 416) E (pc' := 456) rfl (by omega) (by omega) (by omega) (by rw [hs]; rfl) (by decide) ?_
      exact pwl_mono (by omega) (lc_4 (K := 170 * r + 172) hX0 hl hX hR I hK hT0 hT1 hT2 hT3 hT4 hT5 hT6 hT7 hT8 hT9 hT10 hT11 hT12 hT13 i (by omega) (by omega) a5 a6 a7 s5 s6 s7 hB)
    · refine pwl_tswJ (o := 477) E (pc' := 517) rfl (by omega) (by omega) (by omega) (by rw [hs]; rfl) (by decide) ?_
      exact pwl_mono (by omega) (lc_5 (K := 170 * r + 172) hX0 hl hX hR I hK hT0 hT1 hT2 hT3 hT4 hT5 hT6 hT7 hT8 hT9 hT10 hT11 hT12 hT13 i (by omega) (by omega) a5 a6 a7 s5 s6 s7 hB)
    · refine pwl_tswJ (o := 514) E (pc' := 554) rfl (by omega) (by omega) (by omega) (by rw [hs]; rfl) (by decide) ?_
      exact pwl_mono (by omega) (lc_6 (K := 170 * r + 172) hX0 hl hX hR I hK hT0 hT1 hT2 hT3 hT4 hT5 hT6 hT7 hT8 hT9 hT10 hT11 hT12 hT13 i (by omega) (by omega) a5 a6 a7 s5 s6 s7 hB)
    · refine pwl_tswJ (o := 578) E (pc' := 618) rfl (by omega) (by omega) (by omega) (by rw [hs]; rfl) (by decide) ?_
      exact pwl_mono (by omega) (lc_7 (K := 170 * r + 172) hX0 hl hX hR I hK hT0 hT1 hT2 hT3 hT4 hT5 hT6 hT7 hT8 hT9 hT10 hT11 hT12 hT13 i (by omega) (by omega) a5 a6 a7 s5 s6 s7 hB)
    · refine pwl_tswJ (o := 642) E (pc' := 682) rfl (by omega) (by omega) (by omega) (by rw [hs]; rfl) (by decide) ?_
      exact pwl_mono (by omega) (lc_8 (K := 170 * r + 172) hX0 hl hX hR I hK hT0 hT1 hT2 hT3 hT4 hT5 hT6 hT7 hT8 hT9 hT10 hT11 hT12 hT13 i (by omega) (by omega) a5 a6 a7 s5 s6 s7 hB)
    · refine pwl_tswJ (o := 706) E (pc' := 746) rfl (by omega) (by omega) (by omega) (by rw [hs]; rfl) (by decide) ?_
      exact pwl_mono (by omega) (lc_9 (K := 170 * r + 172) hX0 hl hX hR I hK hT0 hT1 hT2 hT3 hT4 hT5 hT6 hT7 hT8 hT9 hT10 hT11 hT12 hT13 i (by omega) (by omega) a5 a6 a7 s5 s6 s7 hB)
    · refine pwl_tswJ (o := 758) E (pc' := 798) rfl (by omega) (by omega) (by omega) (by rw [hs]; rfl) (by decide) ?_
      exact pwl_mono (by omega) (lc_10 (K := 170 * r + 172) hX0 hl hX hR I hK hT0 hT1 hT2 hT3 hT4 hT5 hT6 hT7 hT8 hT9 hT10 hT11 hT12 hT13 i (by omega) (by omega) a5 a6 a7 s5 s6 s7 hB)
    · refine pwl_tswJ (o := 795) E (pc' := 835) rfl (by omega) (by omega) (by omega) (by rw [hs]; rfl) (by decide) ?_
      exact pwl_mono (by omega) (lc_11 (K := 170 * r + 172) hX0 hl hX hR I hK hT0 hT1 hT2 hT3 hT4 hT5 hT6 hT7 hT8 hT9 hT10 hT11 hT12 hT13 i (by omega) (by omega) a5 a6 a7 s5 s6 s7 hB)
    · refine pwl_tswJ (o := 832) E (pc' := 872) rfl (by omega) (by omega) (by omega) (by rw [hs]; rfl) (by decide) ?_
      exact pwl_mono (by omega) (lc_12 (K := 170 * r + 172) hX0 hl hX hR I hK hT0 hT1 hT2 hT3 hT4 hT5 hT6 hT7 hT8 hT9 hT10 hT11 hT12 hT13 i (by omega) (by omega) a5 a6 a7 s5 s6 s7 hB)
    · refine pwl_tswJ (o := 912) E (pc' := 952) rfl (by omega) (by omega) (by omega) (by rw [hs]; rfl) (by decide) ?_
      exact pwl_mono (by omega) (lc_13 (K := 170 * r + 172) hX0 hl hX hR I hK hT0 hT1 hT2 hT3 hT4 hT5 hT6 hT7 hT8 hT9 hT10 hT11 hT12 hT13 i (by omega) (by omega) a5 a6 a7 s5 s6 s7 hB)
    · refine pwl_tswJ (o := 976) E (pc' := 1016) rfl (by omega) (by omega) (by omega) (by rw [hs]; rfl) (by decide) ?_
      exact pwl_mono (by omega) (lc_14 (K := 170 * r + 172) hX0 hl hX hR I hK hT0 hT1 hT2 hT3 hT4 hT5 hT6 hT7 hT8 hT9 hT10 hT11 hT12 hT13 i (by omega) (by omega) a5 a6 a7 s5 s6 s7 hB)
    · refine pwl_tswJ (o := 1025) E (pc' := 1065) rfl (by omega) (by omega) (by omega) (by rw [hs]; rfl) (by decide) ?_
      exact pwl_mono (by omega) (lc_15 (K := 170 * r + 172) hX0 hl hX hR I hK hT0 hT1 hT2 hT3 hT4 hT5 hT6 hT7 hT8 hT9 hT10 hT11 hT12 hT13 i (by omega) (by omega) a5 a6 a7 s5 s6 s7 hB)
    · refine pwl_tswJ (o := 1077) E (pc' := 1117) rfl (by omega) (by omega) (by omega) (by rw [hs]; rfl) (by decide) ?_
      exact pwl_mono (by omega) (lc_16 (K := 170 * r + 172) hX0 hl hX hR I hK hT0 hT1 hT2 hT3 hT4 hT5 hT6 hT7 hT8 hT9 hT10 hT11 hT12 hT13 i (by omega) (by omega) a5 a6 a7 s5 s6 s7 hB)
    · refine pwl_tswJ (o := 1114) E (pc' := 1154) rfl (by omega) (by omega) (by omega) (by rw [hs]; rfl) (by decide) ?_
      exact pwl_mono (by omega) (lc_17 (K := 170 * r + 172) hX0 hl hX hR I hK hT0 hT1 hT2 hT3 hT4 hT5 hT6 hT7 hT8 hT9 hT10 hT11 hT12 hT13 i (by omega) (by omega) a5 a6 a7 s5 s6 s7 hB)
    · refine pwl_tswJ (o := 1205) E (pc' := 1245) rfl (by omega) (by omega) (by omega) (by rw [hs]; rfl) (by decide) ?_
      exact pwl_mono (by omega) (lc_18 (K := 170 * r + 172) hX0 hl hX hR I hK hT0 hT1 hT2 hT3 hT4 hT5 hT6 hT7 hT8 hT9 hT10 hT11 hT12 hT13 i (by omega) (by omega) a5 a6 a7 s5 s6 s7 hB)
    · refine pwl_tswJ (o := 1352) E (pc' := 1392) rfl (by omega) (by omega) (by omega) (by rw [hs]; rfl) (by decide) ?_
      exact pwl_mono (by omega) (lc_19 (K := 170 * r + 172) hX0 hl hX hR I hK hT0 hT1 hT2 hT3 hT4 hT5 hT6 hT7 hT8 hT9 hT10 hT11 hT12 hT13 i (by omega) (by omega) a5 a6 a7 s5 s6 s7 hB)
    · refine pwl_tswJ (o := 1377) E (pc' := 1417) rfl (by omega) (by omega) (by omega) (by rw [hs]; rfl) (by decide) ?_
      exact pwl_mono (by omega) (lc_20 (K := 170 * r + 172) hX0 hl hX hR I hK hT0 hT1 hT2 hT3 hT4 hT5 hT6 hT7 hT8 hT9 hT10 hT11 hT12 hT13 i (by omega) (by omega) a5 a6 a7 s5 s6 s7 hB)
    · refine pwl_tswJ (o := 1438) E (pc' := 1478) rfl (by omega) (by omega) (by omega) (by rw [hs]; rfl) (by decide) ?_
      exact pwl_mono (by omega) (lc_21 (K := 170 * r + 172) hX0 hl hX hR I hK hT0 hT1 hT2 hT3 hT4 hT5 hT6 hT7 hT8 hT9 hT10 hT11 hT12 hT13 i (by omega) (by omega) a5 a6 a7 s5 s6 s7 hB)
    · refine pwl_tswJ (o := 1475) E (pc' := 1515) rfl (by omega) (by omega) (by omega) (by rw [hs]; rfl) (by decide) ?_
      exact pwl_mono (by omega) (lc_22 (K := 170 * r + 172) hX0 hl hX hR I hK hT0 hT1 hT2 hT3 hT4 hT5 hT6 hT7 hT8 hT9 hT10 hT11 hT12 hT13 i (by omega) (by omega) a5 a6 a7 s5 s6 s7 hB)
    · refine pwl_tswJ (o := 1500) E (pc' := 1540) rfl (by omega) (by omega) (by omega) (by rw [hs]; rfl) (by decide) ?_
      exact pwl_mono (by omega) (lc_23 (K := 170 * r + 172) hX0 hl hX hR I hK hT0 hT1 hT2 hT3 hT4 hT5 hT6 hT7 hT8 hT9 hT10 hT11 hT12 hT13 i (by omega) (by omega) a5 a6 a7 s5 s6 s7 hB)
    · refine pwl_tswJ (o := 1573) E (pc' := 1613) rfl (by omega) (by omega) (by omega) (by rw [hs]; rfl) (by decide) ?_
      exact pwl_mono (by omega) (lc_24 (K := 170 * r + 172) hX0 hl hX hR I hK hT0 hT1 hT2 hT3 hT4 hT5 hT6 hT7 hT8 hT9 hT10 hT11 hT12 hT13 i (by omega) (by omega) a5 a6 a7 s5 s6 s7 hB)
    · refine pwl_tswJ (o := 1638) E (pc' := 1678) rfl (by omega) (by omega) (by omega) (by rw [hs]; rfl) (by decide) ?_
      exact pwl_mono (by omega) (lc_25 (K := 170 * r + 172) hX0 hl hX hR I hK hT0 hT1 hT2 hT3 hT4 hT5 hT6 hT7 hT8 hT9 hT10 hT11 hT12 hT13 i (by omega) (by omega) a5 a6 a7 s5 s6 s7 hB)
    · refine pwl_tswJ (o := 1694) E (pc' := 1734) rfl (by omega) (by omega) (by omega) (by rw [hs]; rfl) (by decide) ?_
      exact pwl_mono (by omega) (lc_26 (K := 170 * r + 172) hX0 hl hX hR I hK hT0 hT1 hT2 hT3 hT4 hT5 hT6 hT7 hT8 hT9 hT10 hT11 hT12 hT13 i (by omega) (by omega) a5 a6 a7 s5 s6 s7 hB)
    · refine pwl_tswJ (o := 1719) E (pc' := 1759) rfl (by omega) (by omega) (by omega) (by rw [hs]; rfl) (by decide) ?_
      exact pwl_mono (by omega) (lc_27 (K := 170 * r + 172) hX0 hl hX hR I hK hT0 hT1 hT2 hT3 hT4 hT5 hT6 hT7 hT8 hT9 hT10 hT11 hT12 hT13 i (by omega) (by omega) a5 a6 a7 s5 s6 s7 hB)
    · refine pwl_tswJ (o := 1744) E (pc' := 1784) rfl (by omega) (by omega) (by omega) (by rw [hs]; rfl) (by decide) ?_
      exact pwl_mono (by omega) (lc_28 (K := 170 * r + 172) hX0 hl hX hR I hK hT0 hT1 hT2 hT3 hT4 hT5 hT6 hT7 hT8 hT9 hT10 hT11 hT12 hT13 i (by omega) (by omega) a5 a6 a7 s5 s6 s7 hB)
    · refine pwl_tswJ (o := 1781) E (pc' := 1821) rfl (by omega) (by omega) (by omega) (by rw [hs]; rfl) (by decide) ?_
      exact pwl_mono (by omega) (lc_29 (K := 170 * r + 172) hX0 hl hX hR I hK hT0 hT1 hT2 hT3 hT4 hT5 hT6 hT7 hT8 hT9 hT10 hT11 hT12 hT13 i (by omega) (by omega) a5 a6 a7 s5 s6 s7 hB)
    · refine pwl_tswJ (o := 1821) E (pc' := 1861) rfl (by omega) (by omega) (by omega) (by rw [hs]; rfl) (by decide) ?_
      exact pwl_mono (by omega) (lc_30 (K := 170 * r + 172) hX0 hl hX hR I hK hT0 hT1 hT2 hT3 hT4 hT5 hT6 hT7 hT8 hT9 hT10 hT11 hT12 hT13 i (by omega) (by omega) a5 a6 a7 s5 s6 s7 hB)
    · refine pwl_tswJ (o := 1849) E (pc' := 1889) rfl (by omega) (by omega) (by omega) (by rw [hs]; rfl) (by decide) ?_
      exact pwl_mono (by omega) (lc_31 (K := 170 * r + 172) hX0 hl hX hR I hK hT0 hT1 hT2 hT3 hT4 hT5 hT6 hT7 hT8 hT9 hT10 hT11 hT12 hT13 i (by omega) (by omega) a5 a6 a7 s5 s6 s7 hB)
    · refine pwl_tswJ (o := 1910) E (pc' := 1950) rfl (by omega) (by omega) (by omega) (by rw [hs]; rfl) (by decide) ?_
      exact pwl_mono (by omega) (lc_32 (K := 170 * r + 172) hX0 hl hX hR I hK hT0 hT1 hT2 hT3 hT4 hT5 hT6 hT7 hT8 hT9 hT10 hT11 hT12 hT13 i (by omega) (by omega) a5 a6 a7 s5 s6 s7 hB)
    · refine pwl_tswJ (o := 1962) E (pc' := 2002) rfl (by omega) (by omega) (by omega) (by rw [hs]; rfl) (by decide) ?_
      exact pwl_mono (by omega) (lc_33 (K := 170 * r + 172) hX0 hl hX hR I hK hT0 hT1 hT2 hT3 hT4 hT5 hT6 hT7 hT8 hT9 hT10 hT11 hT12 hT13 i (by omega) (by omega) a5 a6 a7 s5 s6 s7 hB)
    · refine pwl_tswJ (o := 2026) E (pc' := 2066) rfl (by omega) (by omega) (by omega) (by rw [hs]; rfl) (by decide) ?_
      exact pwl_mono (by omega) (lc_34 (K := 170 * r + 172) hX0 hl hX hR I hK hT0 hT1 hT2 hT3 hT4 hT5 hT6 hT7 hT8 hT9 hT10 hT11 hT12 hT13 i (by omega) (by omega) a5 a6 a7 s5 s6 s7 hB)
    · refine pwl_tswJ (o := 2087) E (pc' := 2127) rfl (by omega) (by omega) (by omega) (by rw [hs]; rfl) (by decide) ?_
      exact pwl_mono (by omega) (lc_35 (K := 170 * r + 172) hX0 hl hX hR I hK hT0 hT1 hT2 hT3 hT4 hT5 hT6 hT7 hT8 hT9 hT10 hT11 hT12 hT13 i (by omega) (by omega) a5 a6 a7 s5 s6 s7 hB)
    · refine pwl_tswJ (o := 2136) E (pc' := 2176) rfl (by omega) (by omega) (by omega) (by rw [hs]; rfl) (by decide) ?_
      exact pwl_mono (by omega) (lc_36 (K := 170 * r + 172) hX0 hl hX hR I hK hT0 hT1 hT2 hT3 hT4 hT5 hT6 hT7 hT8 hT9 hT10 hT11 hT12 hT13 i (by omega) (by omega) a5 a6 a7 s5 s6 s7 hB)
    · refine pwl_tswJ (o := 2173) E (pc' := 2213) rfl (by omega) (by omega) (by omega) (by rw [hs]; rfl) (by decide) ?_
      exact pwl_mono (by omega) (lc_37 (K := 170 * r + 172) hX0 hl hX hR I hK hT0 hT1 hT2 hT3 hT4 hT5 hT6 hT7 hT8 hT9 hT10 hT11 hT12 hT13 i (by omega) (by omega) a5 a6 a7 s5 s6 s7 hB)
    · refine pwl_tswJ (o := 2225) E (pc' := 2265) rfl (by omega) (by omega) (by omega) (by rw [hs]; rfl) (by decide) ?_
      exact pwl_mono (by omega) (lc_38 (K := 170 * r + 172) hX0 hl hX hR I hK hT0 hT1 hT2 hT3 hT4 hT5 hT6 hT7 hT8 hT9 hT10 hT11 hT12 hT13 i (by omega) (by omega) a5 a6 a7 s5 s6 s7 hB)
    · refine pwl_tswJ (o := 2250) E (pc' := 2290) rfl (by omega) (by omega) (by omega) (by rw [hs]; rfl) (by decide) ?_
      exact pwl_mono (by omega) (lc_39 (K := 170 * r + 172) hX0 hl hX hR I hK hT0 hT1 hT2 hT3 hT4 hT5 hT6 hT7 hT8 hT9 hT10 hT11 hT12 hT13 i (by omega) (by omega) a5 a6 a7 s5 s6 s7 hB)
    · refine pwl_tswJ (o := 2303) E (pc' := 2343) rfl (by omega) (by omega) (by omega) (by rw [hs]; rfl) (by decide) ?_
      exact pwl_mono (by omega) (lc_40 (K := 170 * r + 172) hX0 hl hX hR I hK hT0 hT1 hT2 hT3 hT4 hT5 hT6 hT7 hT8 hT9 hT10 hT11 hT12 hT13 i (by omega) (by omega) a5 a6 a7 s5 s6 s7 hB)
    · refine pwl_tswD E (pc' := 2368) rfl (by omega) (by omega) hs (by decide) ?_
      exact pwl_mono (by omega) (hB h a5 a6 a7 I hK hT0 hT1 hT2 hT3 hT4 hT5 hT6 hT7 hT8 hT9 hT10 hT11 hT12 hT13 (by omega) (by omega) s5 s6 s7)
theorem lw_run {xs : List Int32} (hl : xs.length ≤ 3584) : ∃ (k N : Nat) (H : pm_H), k ≤ 90000 ∧ pm_xk (pm_ext xs) N k 50 [] 309 0 (pm_lay [.ref 0] 8) [] = some (H, .inl (some (.int 1))) ∧ H.length ≤ 682 ∧ pm_slt H ≤ 612000 := by
  have E : pm_ent 309 = some (1, 8, 13, 1, pmc_309) := rfl
  have H : pwl (pm_ext xs) ((170 * 512 + 170 + 2) + 20) [] 0 (pm_lay [.ref 0] 8) [] (fun h v => v = .inl (some (pw_i 1)) ∧ h.length ≤ 682 ∧ pm_slt h ≤ 612000) := by
    refine lw_begin (fun h I K hT0 hT1 hT2 hT3 hT4 hT5 hT6 hT7 hT8 hT9 hT10 hT11 hT12 hT13 l z => ?_)
    refine pwl_ld E (pc' := 21) (st' := [pw_i 0]) rfl (fun _ => rfl) ?_
    refine pwl_ist E (pc' := 23) (ls' := [some (.ref 0), some (.ref 16), some (.ref 141), some (.ref 185), some (pw_i 0), none, none, none]) rfl rfl rfl rfl ?_
    exact lw_loop hl (fun h l1 z1 => ⟨rfl, l1, z1⟩) 512 h 0 none none none I K hT0 hT1 hT2 hT3 hT4 hT5 hT6 hT7 hT8 hT9 hT10 hT11 hT12 hT13 (by decide) (by omega) (by omega) (by omega) (fun _ => rfl) (fun _ => rfl) (fun _ => rfl) (by decide)
  obtain ⟨k, N0, ⟨h, v⟩, hk, ⟨rfl, hq1, hq2⟩, hn⟩ := H
  exact ⟨k, N0, h, by omega, hn N0 (Nat.le_refl _), hq1, hq2⟩
