/-! feed: what its two calls leave -/
def pf_z0 : List Value := List.replicate 1000 (.int 0)
/-- the array and the number of signs behind three longs -/
def pf_p3 (bf : Int64 → Int32 → Int32) (cf : Int32 → Int32) (w1 w2 w3 : Int64) : List Value × Nat := (fun p : List Value × Nat => pf_fd bf cf w3 8 p.1 p.2) ((fun p : List Value × Nat => pf_fd bf cf w2 8 p.1 p.2) (pf_fd bf cf w1 8 pf_z0 0))
theorem pf_p3_len (bf : Int64 → Int32 → Int32) (cf : Int32 → Int32) (w1 w2 w3 : Int64) : (pf_p3 bf cf w1 w2 w3).1.length = 1000 ∧ (pf_p3 bf cf w1 w2 w3).2 ≤ 24 := by
  unfold pf_p3
  have e0 : pf_z0.length = 1000 := by unfold pf_z0; rw [List.length_replicate]
  obtain ⟨a1, a2⟩ := pf_len bf cf w1 8 pf_z0 0
  generalize pf_fd bf cf w1 8 pf_z0 0 = p1 at a1 a2 ⊢
  obtain ⟨b1, b2⟩ := pf_len bf cf w2 8 p1.1 p1.2
  dsimp only
  generalize pf_fd bf cf w2 8 p1.1 p1.2 = p2 at b1 b2 ⊢
  obtain ⟨c1, c2⟩ := pf_len bf cf w3 8 p2.1 p2.2
  exact ⟨by omega, by omega⟩
theorem pf_p3_cnt (w1 w2 w3 : Int64) : (pf_p3 pf_b97 pf_c97 w1 w2 w3).2 = (pf_p3 pf_b199 id w1 w2 w3).2 := by
  unfold pf_p3
  dsimp only
  have h1 := pf_cnt (cf := pf_c97) (cf' := id) (pf_by w1) 8 (Nat.le_refl _) pf_z0 pf_z0 0
  generalize pf_fd pf_b97 pf_c97 w1 8 pf_z0 0 = p1 at h1 ⊢
  generalize pf_fd pf_b199 id w1 8 pf_z0 0 = q1 at h1 ⊢
  rw [h1]
  have h2 := pf_cnt (cf := pf_c97) (cf' := id) (pf_by w2) 8 (Nat.le_refl _) p1.1 q1.1 q1.2
  generalize pf_fd pf_b97 pf_c97 w2 8 p1.1 q1.2 = p2 at h2 ⊢
  generalize pf_fd pf_b199 id w2 8 q1.1 q1.2 = q2 at h2 ⊢
  rw [h2]
  exact pf_cnt (cf := pf_c97) (cf' := id) (pf_by w3) 8 (Nat.le_refl _) p2.1 q2.1 q2.2
theorem pf_zr (V : pz_V) {t : Nat} (ht : t = 2 ∨ t = 0) : ((List.range 1000).map fun j => pz_e V t (pz_sl 0 j)) = pf_z0 := by
  unfold pf_z0
  apply List.ext_getElem?
  intro j
  have hs : ∀ j, pz_sl 0 j = 0 := fun j => by rw [pz_sl_eq, Nat.zero_shiftRight, Nat.zero_mod]
  have he : pz_e V t 0 = .int 0 := by rcases ht with rfl | rfl <;> rfl
  by_cases hj : j < 1000
  · rw [pz_row_get hj, hs, he, List.getElem?_replicate, if_pos hj]
  · rw [List.getElem?_eq_none (by rw [List.length_map, List.length_range]; omega), List.getElem?_eq_none (by rw [List.length_replicate]; omega)]
theorem pf_seteq {α : Type} {l : List α} {k : Nat} {x : α} (h : l[k]? = some x) : l.set k x = l := by
  apply List.ext_getElem?
  intro j
  by_cases hj : k = j
  · subst hj
    obtain ⟨hk, -⟩ := List.getElem?_eq_some_iff.mp h
    rw [List.getElem?_set_self hk, h]
  · rw [List.getElem?_set_ne hj]
section Pf
variable {V : pz_V} {X : List (Nat × List Value)}
theorem pf_v68 : pz_v V 68 = .int (V.1 8) := by
  have e : pz_v V 68 = .int (pz_zi V 8) := rfl
  rw [e, pz_zi_off V (by decide)]
theorem pf_QSa (hk : V.2.2.1 0 = .inl (2, (pf_p3 pf_b97 pf_c97 (V.2.1 82) (V.2.1 116) (V.2.1 150)).1)) (h8 : V.1 8 = Int32.ofNat (pf_p3 pf_b97 pf_c97 (V.2.1 82) (V.2.1 116) (V.2.1 150)).2) : pz_QS V pz_qa (pm_x X pz_qa.1) := by
  intro hC
  have ea : pz_qa.2.2.2.1.map (pz_v V) = [.ref (16 + 0), .long (V.2.1 82), .long (V.2.1 116), .long (V.2.1 150)] := rfl
  refine ⟨_, pf_e140, by rw [ea]; rfl, (pz_Cf, pz_Hfb, 70), List.mem_singleton.mpr rfl, hC, ?_⟩
  rw [ea]
  have a0 : pz_at pz_H0.2 0 = some (111, 20, pz_Pr) := by decide +kernel
  have a24 : pz_at pz_H0.2 24 = some (109, 6, pz_Pt) := by decide +kernel
  have a25 : pz_at pz_H0.2 25 = some (2, 1000, 0) := by decide +kernel
  have a25' : pz_at (pz_set pz_H0.2 24 (109, 6, pz_up pz_Pt 1 68)) 25 = some (2, 1000, 0) := by rw [pz_at_set a24, if_neg (by decide), a25]
  have hl : (pz_h V pz_H0).length = 170 := pz_h_len V pz_H0
  have g0 := pz_h_get (V := V) (h := pz_H0) (k := 0) (by decide +kernel) a0
  have g24 := pz_h_get (V := V) (h := pz_H0) (k := 24) (by decide +kernel) a24
  have g25 := pz_h_get (V := V) (h := pz_H0) (k := 25) (by decide +kernel) a25
  rw [show (111 : Nat) = 100 + 11 from rfl, pz_c_obj] at g0
  rw [show (109 : Nat) = 100 + 9 from rfl, pz_c_obj] at g24
  rw [pz_c_arr (by decide), pf_zr V (.inl rfl)] at g25
  have eG : ∀ l n, pf_G (pz_h V pz_H0) 24 25 9 1 2 ((List.range 6).map fun j => pz_v V (pz_sl pz_Pt j)) l n = ((pz_h V pz_H0).set 24 (.inr (9, ((List.range 6).map fun j => pz_v V (pz_sl pz_Pt j)).set 1 (.int (Int32.ofNat n))))).set 25 (.inl (2, l)) := fun l n => rfl
  have f1 : ((List.range 6).map fun j => pz_v V (pz_sl pz_Pt j))[1]? = some (.int (Int32.ofNat 0)) := by
    rw [pz_row_get (by decide), show pz_sl pz_Pt 1 = 0 from by decide +kernel]; rfl
  have f0 : ((List.range 6).map fun j => pz_v V (pz_sl pz_Pt j))[0]? = some (.ref (16 + 25)) := by
    rw [pz_row_get (by decide), show pz_sl pz_Pt 0 = 330 from by decide +kernel]; rfl
  have r10 : ((List.range 20).map fun j => pz_v V (pz_sl pz_Pr j))[10]? = some (.ref (16 + 24)) := by
    rw [pz_row_get (by decide), show pz_sl pz_Pr 10 = 322 from by decide +kernel]; rfl
  have h0 : pz_h V pz_H0 = pf_G (pz_h V pz_H0) 24 25 9 1 2 ((List.range 6).map fun j => pz_v V (pz_sl pz_Pt j)) pf_z0 0 := by
    rw [eG, pf_seteq f1, pf_seteq g24, pf_seteq g25]
  have h1 : pz_h V pz_Hfb = pf_G (pz_h V pz_H0) 24 25 9 1 2 ((List.range 6).map fun j => pz_v V (pz_sl pz_Pt j)) (pf_p3 pf_b97 pf_c97 (V.2.1 82) (V.2.1 116) (V.2.1 150)).1 (pf_p3 pf_b97 pf_c97 (V.2.1 82) (V.2.1 116) (V.2.1 150)).2 := by
    have e1 := pz_h_set (V := V) (h := pz_H0) (c := (109, 6, pz_up pz_Pt 1 68)) a24
    have e2 := pz_h_set (V := V) (h := (pz_H0.1, pz_set pz_H0.2 24 (109, 6, pz_up pz_Pt 1 68))) (c := (99, 0, 0)) a25'
    rw [show pz_Hfb = (pz_H0.1, pz_set (pz_set pz_H0.2 24 (109, 6, pz_up pz_Pt 1 68)) 25 (99, 0, 0)) from rfl, e2, e1, eG, ← h8, ← hk]
    rw [show (109 : Nat) = 100 + 9 from rfl, pz_c_obj, pz_row_up (by decide), pf_v68]
    rfl
  have hx := pf_140 (X := X) (N := 199322) (d := 47) (h := pz_h V pz_H0) (a := 24) (b := 25) (c := 0) (w1 := V.2.1 82) (w2 := V.2.1 116) (w3 := V.2.1 150) (by rw [hl]; decide) (by rw [hl]; decide) (by decide) (by decide) (by decide) g0 r10 f0 (by rw [List.length_map, List.length_range]; decide) pf_z0 0 (by decide) (by unfold pf_z0; rw [List.length_replicate])
  rw [← h0] at hx
  refine Eq.trans hx ?_
  show some (_, _) = _
  rw [h1, pz_r2 V (by decide) (by decide), show 70 - 2 = 68 from rfl, pf_v68, h8]
  rfl
theorem pf_QSb (hk : V.2.2.1 1 = .inl (0, (pf_p3 pf_b199 id (V.2.1 82) (V.2.1 116) (V.2.1 150)).1)) (h8 : V.1 8 = Int32.ofNat (pf_p3 pf_b199 id (V.2.1 82) (V.2.1 116) (V.2.1 150)).2) : pz_QS V pz_qb (pm_x X pz_qb.1) := by
  intro hC
  have ea : pz_qb.2.2.2.1.map (pz_v V) = [.ref (16 + 125), .long (V.2.1 82), .long (V.2.1 116), .long (V.2.1 150)] := rfl
  refine ⟨_, pf_e198, by rw [ea]; rfl, (pz_Cf, pz_Hfc, 70), List.mem_singleton.mpr rfl, hC, ?_⟩
  rw [ea]
  have a24 : pz_at pz_Hfb.2 125 = some (112, 58, pz_Pm) := by decide +kernel
  have a25 : pz_at pz_Hfb.2 126 = some (0, 1000, 0) := by decide +kernel
  have a25' : pz_at (pz_set pz_Hfb.2 125 (112, 58, pz_up pz_Pm 2 68)) 126 = some (0, 1000, 0) := by rw [pz_at_set a24, if_neg (by decide), a25]
  have hl : (pz_h V pz_Hfb).length = 170 := pz_h_len V pz_Hfb
  have g24 := pz_h_get (V := V) (h := pz_Hfb) (k := 125) (by decide +kernel) a24
  have g25 := pz_h_get (V := V) (h := pz_Hfb) (k := 126) (by decide +kernel) a25
  rw [show (112 : Nat) = 100 + 12 from rfl, pz_c_obj] at g24
  rw [pz_c_arr (by decide), pf_zr V (.inr rfl)] at g25
  have eG : ∀ l n, pf_G (pz_h V pz_Hfb) 125 126 12 2 0 ((List.range 58).map fun j => pz_v V (pz_sl pz_Pm j)) l n = ((pz_h V pz_Hfb).set 125 (.inr (12, ((List.range 58).map fun j => pz_v V (pz_sl pz_Pm j)).set 2 (.int (Int32.ofNat n))))).set 126 (.inl (0, l)) := fun l n => rfl
  have f2 : ((List.range 58).map fun j => pz_v V (pz_sl pz_Pm j))[2]? = some (.int (Int32.ofNat 0)) := by
    rw [pz_row_get (by decide), show pz_sl pz_Pm 2 = 0 from by decide +kernel]; rfl
  have f1 : ((List.range 58).map fun j => pz_v V (pz_sl pz_Pm j))[1]? = some (.ref (16 + 126)) := by
    rw [pz_row_get (by decide), show pz_sl pz_Pm 1 = 1138 from by decide +kernel]; rfl
  have f0 : ((List.range 58).map fun j => pz_v V (pz_sl pz_Pm j))[0]? = some (.int 0) := by
    rw [pz_row_get (by decide), show pz_sl pz_Pm 0 = 0 from by decide +kernel]; rfl
  have h0 : pz_h V pz_Hfb = pf_G (pz_h V pz_Hfb) 125 126 12 2 0 ((List.range 58).map fun j => pz_v V (pz_sl pz_Pm j)) pf_z0 0 := by
    rw [eG, pf_seteq f2, pf_seteq g24, pf_seteq g25]
  have h1 : pz_h V pz_Hfc = pf_G (pz_h V pz_Hfb) 125 126 12 2 0 ((List.range 58).map fun j => pz_v V (pz_sl pz_Pm j)) (pf_p3 pf_b199 id (V.2.1 82) (V.2.1 116) (V.2.1 150)).1 (pf_p3 pf_b199 id (V.2.1 82) (V.2.1 116) (V.2.1 150)).2 := by
    have e1 := pz_h_set (V := V) (h := pz_Hfb) (c := (112, 58, pz_up pz_Pm 2 68)) a24
    have e2 := pz_h_set (V := V) (h := (pz_Hfb.1, pz_set pz_Hfb.2 125 (112, 58, pz_up pz_Pm 2 68))) (c := (99, 1, 0)) a25'
    rw [show pz_Hfc = (pz_Hfb.1, pz_set (pz_set pz_Hfb.2 125 (112, 58, pz_up pz_Pm 2 68)) 126 (99, 1, 0)) from rfl, e2, e1, eG, ← h8, ← hk]
    rw [show (112 : Nat) = 100 + 12 from rfl, pz_c_obj, pz_row_up (by decide), pf_v68]
    rfl
  have hx := pf_198 (X := X) (N := 199269) (d := 48) (h := pz_h V pz_Hfb) (a := 125) (b := 126) (w1 := V.2.1 82) (w2 := V.2.1 116) (w3 := V.2.1 150) (by rw [hl]; decide) (by rw [hl]; decide) (by decide) f0 f1 (by rw [List.length_map, List.length_range]; decide) pf_z0 0 (by decide) (by unfold pf_z0; rw [List.length_replicate])
  rw [← h0] at hx
  refine Eq.trans hx ?_
  show some (_, _) = _
  rw [h1, pz_r2 V (by decide) (by decide), show 70 - 2 = 68 from rfl, pf_v68, h8]
  rfl
end Pf
