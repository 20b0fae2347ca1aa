/-! differences of fractions (printed by wip/tool/mfrac.py) -/
theorem pv_LWsc {g x y wt : Int} (hg : 0 < g) : pv_LW (g * x) (g * y) wt = pv_LW x y wt := by
  unfold pv_LW
  obtain ⟨e1, e2⟩ := pw_lw_sc (x := x) (y := y) hg
  rw [e1, e2]
/-- a fraction less a whole number -/
theorem pv_apart {U D x wt : Int} (hD : 1 ≤ D) : pv_LW (Int.tdiv U (pw_gd U D) * 1 - x * Int.tdiv D (pw_gd U D)) (Int.tdiv D (pw_gd U D) * 1) wt = pv_LW (U - x * D) D wt := by
  obtain ⟨e1, e2, -⟩ := pw_lw (x := U) (y := D) (by omega)
  have gp := pw_gd_pos (x := U) (y := D) (by omega)
  generalize Int.tdiv U (pw_gd U D) = a at e1 ⊢
  generalize Int.tdiv D (pw_gd U D) = d at e2 ⊢
  generalize pw_gd U D = g at e1 e2 gp
  rw [← pv_LWsc (g := g) (by omega), Int.mul_one, Int.mul_one, Int.mul_sub, e1, e2, ← Int.mul_assoc, Int.mul_comm g x, Int.mul_assoc, e2]
/-- a fraction less another -/
theorem pv_less {U D U' D' wt : Int} (hD : 1 ≤ D) (hD' : 1 ≤ D') : pv_LW (Int.tdiv U (pw_gd U D) * Int.tdiv D' (pw_gd U' D') - Int.tdiv U' (pw_gd U' D') * Int.tdiv D (pw_gd U D)) (Int.tdiv D (pw_gd U D) * Int.tdiv D' (pw_gd U' D')) wt = pv_LW (U * D' - U' * D) (D * D') wt := by
  obtain ⟨e1, e2, -⟩ := pw_lw (x := U) (y := D) (by omega)
  have gp := pw_gd_pos (x := U) (y := D) (by omega)
  obtain ⟨f1, f2, -⟩ := pw_lw (x := U') (y := D') (by omega)
  have fp := pw_gd_pos (x := U') (y := D') (by omega)
  generalize Int.tdiv U (pw_gd U D) = a at e1 ⊢
  generalize Int.tdiv D (pw_gd U D) = d at e2 ⊢
  generalize pw_gd U D = g at e1 e2 gp
  generalize Int.tdiv U' (pw_gd U' D') = a' at f1 ⊢
  generalize Int.tdiv D' (pw_gd U' D') = d' at f2 ⊢
  generalize pw_gd U' D' = g' at f1 f2 fp
  have hp := pw_mulB (a := g) (b := g') (A := g) (B := g') (by omega) (Int.le_refl _) (by omega) (Int.le_refl _)
  have key : ∀ p q : Int, g * g' * (p * q) = (g * p) * (g' * q) := fun p q => by
    rw [Int.mul_assoc, ← Int.mul_assoc g' p q, Int.mul_comm g' p, Int.mul_assoc p g' q, ← Int.mul_assoc g p]
  have k1 := key a d'
  have k2 := key d a'
  have k3 := key d d'
  rw [e1, f2] at k1
  rw [e2, f1] at k2
  rw [e2, f2] at k3
  rw [← pv_LWsc (g := g * g') (by omega), Int.mul_sub, k1, Int.mul_comm a' d, k2, k3, Int.mul_comm D U']
theorem pv_tdsg {U D : Int} (hD : 1 ≤ D) : (Int.tdiv U (pw_gd U D) ≤ 0 ↔ U ≤ 0) ∧ (0 ≤ Int.tdiv U (pw_gd U D) ↔ 0 ≤ U) := by
  obtain ⟨e1, -, -⟩ := pw_lw (x := U) (y := D) (by omega)
  have gp := pw_gd_pos (x := U) (y := D) (by omega)
  generalize Int.tdiv U (pw_gd U D) = a at e1 ⊢
  generalize pw_gd U D = g at e1 gp
  constructor
  · constructor
    · intro h
      have := Int.mul_le_mul_of_nonneg_left (c := g) h (by omega)
      omega
    · intro h
      rcases (by omega : a ≤ 0 ∨ 1 ≤ a) with q | q
      · exact q
      · have := Int.mul_le_mul_of_nonneg_left (c := g) q (by omega)
        omega
  · constructor
    · intro h
      have := Int.mul_le_mul_of_nonneg_left (c := g) h (by omega)
      omega
    · intro h
      rcases (by omega : 0 ≤ a ∨ a ≤ -1) with q | q
      · exact q
      · have := Int.mul_le_mul_of_nonneg_left (c := g) q (by omega)
        omega
theorem pv_tdUB1 {sd ch : Nat → Int} (hb : ∀ k : Nat, k < 24 → -2000 ≤ ch k ∧ ch k ≤ 2000) (ok : pv_OK sd) : 1 ≤ Int.tdiv (pv_D sd) (pw_gd (pv_U sd ch) (pv_D sd)) ∧ 1 ≤ pv_D sd := by
  have d1 := (pv_UB (sd := sd) hb).2.2.2.2 ok
  exact ⟨(pw_lw (x := pv_U sd ch) (y := pv_D sd) (by omega)).2.2, d1⟩
def pv_sw (U V : Int) : Int := if U ≤ 0 ∧ 0 ≤ V then 1 else 0
theorem pv_swI {U V : Int} : ((U ≤ 0 ∧ 0 ≤ V) → pv_sw U V = 1) ∧ (¬ (U ≤ 0 ∧ 0 ≤ V) → pv_sw U V = 0) := ⟨fun q => if_pos q, fun q => if_neg q⟩

set_option maxHeartbeats 4000000 in
theorem cm_14_22g {X : List (Nat × List Value)} {d : Nat} {h : pm_H} (hd : 3 ≤ d) (I : pw_I h) (hp0 : (-2304000) ≤ pw_gm h 22 0) (hp1 : pw_gm h 22 0 ≤ 2304000) (hp2 : 1 ≤ pw_gm h 22 1) (hp3 : pw_gm h 22 1 ≤ 576) (hp4 : (-2304000) ≤ pw_gm h 23 0) (hp5 : pw_gm h 23 0 ≤ 2304000) (hp6 : 1 ≤ pw_gm h 23 1) (hp7 : pw_gm h 23 1 ≤ 576) : pw X d h 14 0 [some (.ref 38), some (.ref 39)] [] (fun h' v => pw_I h' ∧ pw_E [22] h h' ∧ (pw_gm h' 22 0 = Int.tdiv (pw_gm h 22 0 * pw_gm h 23 1 - pw_gm h 23 0 * pw_gm h 22 1) (pw_gd (pw_gm h 22 0 * pw_gm h 23 1 - pw_gm h 23 0 * pw_gm h 22 1) (pw_gm h 22 1 * pw_gm h 23 1)) ∧ pw_gm h' 22 1 = Int.tdiv (pw_gm h 22 1 * pw_gm h 23 1) (pw_gd (pw_gm h 22 0 * pw_gm h 23 1 - pw_gm h 23 0 * pw_gm h 22 1) (pw_gm h 22 1 * pw_gm h 23 1))) ∧ (v = .inl none)) := by
  have E : pm_ent 14 = some (2, 2, 1, 4, pmc_14) := rfl
  have E0 : pw_E [22] h h := pw_E.rf _ _
  refine pw_ld E (pc' := 1) (st' := [.ref 38]) rfl (fun _ => rfl) ?_
  refine pw_ld E (pc' := 2) (st' := [.ref 38, .ref 38]) rfl (fun _ => rfl) ?_
  refine pw_getLM I E (c := 22) (k := 0) (pc' := 5) rfl rfl rfl rfl rfl rfl ?_
  refine pw_ld E (pc' := 6) (st' := [.ref 39, .long (Int64.ofInt (pw_gm h 22 0)), .ref 38]) rfl (fun _ => rfl) ?_
  refine pw_getLM I E (c := 23) (k := 1) (pc' := 9) rfl rfl rfl rfl rfl rfl ?_
  have hm1 := pw_mulS (a := pw_gm h 22 0) (b := pw_gm h 23 1) (A := 2304000) (B := 576) (by omega) (by omega) (by omega) (by omega)
  refine pw_lmul E (pc' := 10) rfl rfl ?_
  refine pw_ld E (pc' := 11) (st' := [.ref 39, .long (Int64.ofInt ((pw_gm h 22 0) * (pw_gm h 23 1))), .ref 38]) rfl (fun _ => rfl) ?_
  refine pw_getLM I E (c := 23) (k := 0) (pc' := 14) rfl rfl rfl rfl rfl rfl ?_
  refine pw_ld E (pc' := 15) (st' := [.ref 38, .long (Int64.ofInt (pw_gm h 23 0)), .long (Int64.ofInt ((pw_gm h 22 0) * (pw_gm h 23 1))), .ref 38]) rfl (fun _ => rfl) ?_
  refine pw_getLM I E (c := 22) (k := 1) (pc' := 18) rfl rfl rfl rfl rfl rfl ?_
  have hm2 := pw_mulS (a := pw_gm h 23 0) (b := pw_gm h 22 1) (A := 2304000) (B := 576) (by omega) (by omega) (by omega) (by omega)
  refine pw_lmul E (pc' := 19) rfl rfl ?_
  refine pw_lsub E (pc' := 20) rfl rfl ?_
  refine pw_ld E (pc' := 21) (st' := [.ref 38, .long (Int64.ofInt (((pw_gm h 22 0) * (pw_gm h 23 1)) - ((pw_gm h 23 0) * (pw_gm h 22 1)))), .ref 38]) rfl (fun _ => rfl) ?_
  refine pw_getLM I E (c := 22) (k := 1) (pc' := 24) rfl rfl rfl rfl rfl rfl ?_
  refine pw_ld E (pc' := 25) (st' := [.ref 39, .long (Int64.ofInt (pw_gm h 22 1)), .long (Int64.ofInt (((pw_gm h 22 0) * (pw_gm h 23 1)) - ((pw_gm h 23 0) * (pw_gm h 22 1)))), .ref 38]) rfl (fun _ => rfl) ?_
  refine pw_getLM I E (c := 23) (k := 1) (pc' := 28) rfl rfl rfl rfl rfl rfl ?_
  have hm3 := pw_mulB (a := pw_gm h 22 1) (b := pw_gm h 23 1) (A := 576) (B := 576) (by omega) (by omega) (by omega) (by omega)
  refine pw_lmul E (pc' := 29) rfl rfl ?_
  obtain ⟨f4l, f4h, -⟩ := pw_obj (c := 22) I rfl
  refine pw_call (m' := 6) (As := [.ref 38, .long (Int64.ofInt (((pw_gm h 22 0) * (pw_gm h 23 1)) - ((pw_gm h 23 0) * (pw_gm h 22 1)))), .long (Int64.ofInt ((pw_gm h 22 1) * (pw_gm h 23 1)))]) (rest := []) (ls'' := [some (.ref 38), some (.long (Int64.ofInt (((pw_gm h 22 0) * (pw_gm h 23 1)) - ((pw_gm h 23 0) * (pw_gm h 22 1))))), none, some (.long (Int64.ofInt ((pw_gm h 22 1) * (pw_gm h 23 1)))), none, none, none]) (by omega) E rfl (fun _ => pw_iV rfl rfl rfl rfl (pw_cellI f4h rfl)) (rfl : pm_ent 6 = some (3, 7, 1, 4, pmc_6)) rfl rfl (cm_6_22g (by omega) I (((pw_gm h 22 0) * (pw_gm h 23 1)) - ((pw_gm h 23 0) * (pw_gm h 22 1))) (by omega) (by omega) ((pw_gm h 22 1) * (pw_gm h 23 1)) (by omega) (by omega)) ?_
  rintro h5 v6 ⟨h5I, h5E, hqfr, rfl⟩
  refine ⟨_, rfl, ?_⟩
  have h5F := E0.tr (h5E.wk (W' := [22]) (by first | rfl | simp))
  show pw X d h5 14 32 [some (.ref 38), some (.ref 39)] [] _
  refine pw_vret E rfl ?_
  exact ⟨h5I, h5F, hqfr, rfl⟩
