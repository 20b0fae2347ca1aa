/-! marks with their ledgers (printed by wip/tool/mledm.py) -/
/-- what mark does to the class's ledgers -/
def pw_LT (h h' : pm_H) (mk z a : Int) : Prop :=
  (a = 0 ∧ pw_sm h h' 11 ∧ pw_sm h h' 13 ∧ ∀ i : Nat, i < 4 → pw_sm h h' (107 + 5 * i) ∧ pw_sm h h' (109 + 5 * i)) ∨
  (a = 1 ∧ z = 0 ∧ pw_sm h h' 11 ∧ pw_sm h h' 13 ∧ (∀ j : Nat, pw_g h' (107 + 5 * mk.toNat) j = pw_g h 11 j ∧ pw_g h' (109 + 5 * mk.toNat) j = pw_g h 13 j) ∧ ∀ i : Nat, i < 4 → i ≠ mk.toNat → pw_sm h h' (107 + 5 * i) ∧ pw_sm h h' (109 + 5 * i)) ∨
  (a = 1 ∧ z = 1 ∧ (∀ j : Nat, pw_g h' 11 j = pw_g h (107 + 5 * mk.toNat) j ∧ pw_g h' 13 j = pw_g h (109 + 5 * mk.toNat) j) ∧ ∀ i : Nat, i < 4 → pw_sm h h' (107 + 5 * i) ∧ pw_sm h h' (109 + 5 * i))
/-- what keeps has done behind k steps -/
def pw_KP (h g : pm_H) (c : Nat) (fr z k : Int) : Prop :=
  (z = 0 ∧ pw_sm h g c ∧ (∀ j : Nat, (j : Int) < k → pw_g g 168 (fr.toNat + j) = pw_g h c j) ∧ ∀ j : Nat, (j < fr.toNat ∨ fr.toNat + k.toNat ≤ j) → pw_g g 168 j = pw_g h 168 j) ∨
  (z = 1 ∧ pw_sm h g 168 ∧ ∀ j : Nat, (j : Int) < k → pw_g g c j = pw_g h 168 (fr.toNat + j))
theorem pw_KP.rf {h : pm_H} {c : Nat} {fr z : Int} (hz : z = 0 ∨ z = 1) : pw_KP h h c fr z 0 := by
  rcases hz with e | e
  · exact Or.inl ⟨e, fun _ => rfl, fun j hj => by omega, fun _ _ => rfl⟩
  · exact Or.inr ⟨e, fun _ => rfl, fun j hj => by omega⟩
theorem pw_KP.st0 {h g g' : pm_H} {c n : Nat} {lo hi fr z k : Int} (H : pw_KP h g c fr z k) (hz : z = 0) (I : pw_I g) (hs : pw_T[c]? = some (.inl (0, n, lo, hi))) (hn : k < n) (hc : c ≠ 168) (h0 : 0 ≤ fr) (h1 : fr + k < 6912) (hk : 0 ≤ k) (w : pw_w g 168 (fr + k).toNat (pw_i (pw_g g c k.toNat)) = g') : pw_KP h g' c fr z (k + 1) := by
  rcases H with ⟨_, a1, a2, a3⟩ | ⟨e, _⟩
  · have r := pw_gA (j := k) I hs (by decide) hk hn
    have e1 : pw_g g' 168 (fr + k).toNat = pw_g g c k.toNat := by rw [← w]; exact pw_g_eqA I rfl (by omega) (by omega) (by omega)
    have n1 : ∀ j : Nat, j ≠ (fr + k).toNat → pw_g g' 168 j = pw_g g 168 j := fun j hj => by rw [← w]; exact pw_g_ne (fun q => hj q.2.symm)
    refine Or.inl ⟨hz, fun j => ?_, fun j hj => ?_, fun j hj => ?_⟩
    · rw [← w, pw_g_ne (fun q => hc q.1.symm)]; exact a1 j
    · rcases (by omega : (j : Int) < k ∨ (j : Int) = k) with q | q
      · rw [n1 _ (by omega)]; exact a2 j q
      · rw [show fr.toNat + j = (fr + k).toNat by omega, e1, a1, show k.toNat = j by omega]
    · rw [n1 _ (by omega)]; exact a3 j (by omega)
  · omega
theorem pw_KP.st1 {h g g' : pm_H} {c n : Nat} {lo hi fr z k : Int} (H : pw_KP h g c fr z k) (hz : z = 1) (I : pw_I g) (hs : pw_T[c]? = some (.inl (0, n, lo, hi))) (hn : k < n) (hc : c ≠ 168) (h0 : 0 ≤ fr) (h1 : fr + k < 6912) (hk : 0 ≤ k) (w : pw_w g c k.toNat (pw_i (pw_g g 168 (fr + k).toNat)) = g') : pw_KP h g' c fr z (k + 1) := by
  rcases H with ⟨e, _⟩ | ⟨_, a1, a2⟩
  · omega
  · have r := pw_gA (c := 168) (j := fr + k) I rfl (by decide) (by omega) (by omega)
    have e1 : pw_g g' c k.toNat = pw_g g 168 (fr + k).toNat := by rw [← w]; exact pw_g_eqA I hs (by omega) (by omega) (by omega)
    have n1 : ∀ j : Nat, j ≠ k.toNat → pw_g g' c j = pw_g g c j := fun j hj => by rw [← w]; exact pw_g_ne (fun q => hj q.2.symm)
    refine Or.inr ⟨hz, fun j => ?_, fun j hj => ?_⟩
    · rw [← w, pw_g_ne (fun q => hc q.1)]; exact a1 j
    · rcases (by omega : (j : Int) < k ∨ (j : Int) = k) with q | q
      · rw [n1 _ (by omega)]; exact a2 j q
      · rw [show j = k.toNat by omega, e1, a1, show (fr + k).toNat = fr.toNat + k.toNat by omega]
/-- what mark does to the model's -/
def pw_ST (h h' : pm_H) (mk z a : Int) : Prop :=
  (a = 0 ∧ (∀ q : Nat, q < 6 → pw_sm h h' (138 + q)) ∧ pw_sm h h' 168) ∨
  (a = 1 ∧ z = 0 ∧ (∀ q : Nat, q < 6 → pw_sm h h' (138 + q)) ∧ (∀ q j : Nat, q < 6 → j < 288 → pw_g h' 168 (1728 * mk.toNat + 288 * q + j) = pw_g h (138 + q) j) ∧ ∀ j : Nat, (j < 1728 * mk.toNat ∨ 1728 * mk.toNat + 1728 ≤ j) → pw_g h' 168 j = pw_g h 168 j) ∨
  (a = 1 ∧ z = 1 ∧ pw_sm h h' 168 ∧ ∀ q j : Nat, q < 6 → j < 288 → pw_g h' (138 + q) j = pw_g h 168 (1728 * mk.toNat + 288 * q + j))
theorem pw_i6 {P : Nat → Prop} (h0 : P 0) (h1 : P 1) (h2 : P 2) (h3 : P 3) (h4 : P 4) (h5 : P 5) : ∀ i : Nat, i < 6 → P i := by
  intro i hi
  rcases (by omega : i = 0 ∨ i = 1 ∨ i = 2 ∨ i = 3 ∨ i = 4 ∨ i = 5) with rfl | rfl | rfl | rfl | rfl | rfl
  · exact h0
  · exact h1
  · exact h2
  · exact h3
  · exact h4
  · exact h5

set_option maxHeartbeats 4000000 in
theorem cm_25_h {X : List (Nat × List Value)} {d : Nat} {h : pm_H} (hd : 1 ≤ d) (I : pw_I h) (c : Nat) (hc : pw_Lg c) (c0 : Nat) (hc0 : pw_Lg c0) : pw X d h 25 0 [some (.ref (16 + c)), some (.ref (16 + c0))] [] (fun h' v => pw_I h' ∧ pw_E [c + 1] h h' ∧ (∀ j : Nat, pw_g h' (c + 1) j = pw_g h (c0 + 1) j) ∧ (v = .inl none)) := by
  have E : pm_ent 25 = some (2, 2, 2, 4, pmc_25) := rfl
  have E0 : pw_E [c + 1] h h := pw_E.rf _ _
  refine pw_ld E (pc' := 1) (st' := [.ref (16 + c0)]) rfl (fun _ => rfl) ?_
  refine pw_getR (b := 16 + (c0 + 1)) I E (c := c0) (k := 0) (pc' := 4) rfl rfl (pw_Lg_o hc0) rfl rfl rfl rfl ?_
  refine pw_ld E (pc' := 5) (st' := [pw_i 0, .ref (16 + (c0 + 1))]) rfl (fun _ => rfl) ?_
  refine pw_ld E (pc' := 6) (st' := [.ref (16 + c), pw_i 0, .ref (16 + (c0 + 1))]) rfl (fun _ => rfl) ?_
  refine pw_getR (b := 16 + (c + 1)) I E (c := c) (k := 0) (pc' := 9) rfl rfl (pw_Lg_o hc) rfl rfl rfl rfl ?_
  refine pw_ld E (pc' := 10) (st' := [pw_i 0, .ref (16 + (c + 1)), pw_i 0, .ref (16 + (c0 + 1))]) rfl (fun _ => rfl) ?_
  refine pw_ld E (pc' := 11) (st' := [.ref (16 + c), pw_i 0, .ref (16 + (c + 1)), pw_i 0, .ref (16 + (c0 + 1))]) rfl (fun _ => rfl) ?_
  refine pw_getR (b := 16 + (c + 1)) I E (c := c) (k := 0) (pc' := 14) rfl rfl (pw_Lg_o hc) rfl rfl rfl rfl ?_
  obtain ⟨z1l, z1h, z1n, -⟩ := pw_arr (c := c + 1) I (pw_Lg_1 hc)
  refine pw_alen E (pc' := 15) rfl (pw_rowI z1h rfl) rfl rfl ?_
  rw [z1n]
  refine pw_copy I E (c := c0 + 1) (c2 := c + 1) rfl rfl (pw_Lg_1 hc0) (pw_Lg_1 hc) (by decide) rfl rfl rfl ?_
  intro h2 h2I h2E h2Q
  have h2F := E0.tr (h2E.wk (W' := [c + 1]) (by first | rfl | simp))
  refine pw_vret E rfl ?_
  exact ⟨h2I, h2F, (fun j => congrArg pw_iv (h2Q j)), rfl⟩
set_option maxHeartbeats 4000000 in
theorem cm_31_105h {X : List (Nat × List Value)} {d : Nat} {h : pm_H} (hd : 2 ≤ d) (I : pw_I h) (n : Int) (hn1 : 0 ≤ n) (hn2 : n ≤ 20) : pw X d h 31 0 [some (.ref 121), some (.ref 26), some (.ref 28), some (pw_i n)] [] (fun h' v => pw_I h' ∧ pw_E [105, 107, 109] h h' ∧ (pw_g h' 105 2 = n ∧ pw_g h' 105 3 = 1 ∧ (∀ j : Nat, pw_g h' 107 j = pw_g h 11 j) ∧ ∀ j : Nat, pw_g h' 109 j = pw_g h 13 j) ∧ (v = .inl none)) := by
  have E : pm_ent 31 = some (4, 4, 3, 4, pmc_31) := rfl
  have E0 : pw_E [105, 107, 109] h h := pw_E.rf _ _
  refine pw_ld E (pc' := 1) (st' := [.ref 121]) rfl (fun _ => rfl) ?_
  refine pw_getR (b := 122) I E (c := 105) (k := 0) (pc' := 4) rfl rfl rfl rfl rfl rfl rfl ?_
  refine pw_ld E (pc' := 5) (st' := [.ref 26, .ref 122]) rfl (fun _ => rfl) ?_
  obtain ⟨f1l, f1h, -⟩ := pw_obj (c := 106) I rfl
  refine pw_call (m' := 25) (As := [.ref 122, .ref 26]) (rest := []) (ls'' := [some (.ref 122), some (.ref 26)]) (Nat.le_trans (by decide) hd) E rfl (fun _ => pw_iV rfl rfl rfl rfl (pw_cellI f1h rfl)) (rfl : pm_ent 25 = some (2, 2, 2, 4, pmc_25)) rfl rfl (cm_25_h (pw_dp hd (by decide)) I 106 (by unfold pw_Lg; omega) 10 (by unfold pw_Lg; omega)) ?_
  rintro h2 v3 ⟨h2I, h2E, hqc1, rfl⟩
  refine ⟨_, rfl, ?_⟩
  have h2F := E0.tr (h2E.wk (W' := [105, 107, 109]) (by first | rfl | simp))
  show pw X d h2 31 8 [some (.ref 121), some (.ref 26), some (.ref 28), some (pw_i n)] [] _
  refine pw_ld E (pc' := 9) (st' := [.ref 121]) rfl (fun _ => rfl) ?_
  refine pw_getR (b := 124) h2I E (c := 105) (k := 1) (pc' := 12) rfl rfl rfl rfl rfl rfl rfl ?_
  refine pw_ld E (pc' := 13) (st' := [.ref 28, .ref 124]) rfl (fun _ => rfl) ?_
  obtain ⟨f4l, f4h, -⟩ := pw_obj (c := 108) h2I rfl
  refine pw_call (m' := 25) (As := [.ref 124, .ref 28]) (rest := []) (ls'' := [some (.ref 124), some (.ref 28)]) (Nat.le_trans (by decide) hd) E rfl (fun _ => pw_iV rfl rfl rfl rfl (pw_cellI f4h rfl)) (rfl : pm_ent 25 = some (2, 2, 2, 4, pmc_25)) rfl rfl (cm_25_h (pw_dp hd (by decide)) h2I 108 (by unfold pw_Lg; omega) 12 (by unfold pw_Lg; omega)) ?_
  rintro h5 v6 ⟨h5I, h5E, hqc2, rfl⟩
  refine ⟨_, rfl, ?_⟩
  have h5F := h2F.tr (h5E.wk (W' := [105, 107, 109]) (by first | rfl | simp))
  show pw X d h5 31 16 [some (.ref 121), some (.ref 26), some (.ref 28), some (pw_i n)] [] _
  refine pw_ld E (pc' := 17) (st' := [.ref 121]) rfl (fun _ => rfl) ?_
  refine pw_ld E (pc' := 18) (st' := [pw_i n, .ref 121]) rfl (fun _ => rfl) ?_
  refine pw_putI h5I E (c := 105) (k := 2) (pc' := 21) rfl rfl rfl rfl (by omega) (by omega) (by omega) (by omega) rfl rfl ?_
  intro h7I h7E
  generalize h7w : pw_w h5 105 2 (pw_i n) = h7 at h7I h7E ⊢
  have h7F := h5F.tr (h7E.wk (W' := [105, 107, 109]) (by first | rfl | simp))
  refine pw_ld E (pc' := 22) (st' := [.ref 121]) rfl (fun _ => rfl) ?_
  refine pw_ld E (pc' := 23) (st' := [pw_i 1, .ref 121]) rfl (fun _ => rfl) ?_
  refine pw_putZ h7I E (c := 105) (k := 3) (pc' := 26) rfl rfl rfl rfl (by omega) (by omega) (by omega) rfl rfl ?_
  intro h8I h8E
  generalize h8w : pw_w h7 105 3 (pw_i 1) = h8 at h8I h8E ⊢
  have h8F := h7F.tr (h8E.wk (W' := [105, 107, 109]) (by first | rfl | simp))
  refine pw_vret E rfl ?_
  have he9 : pw_g h8 105 2 = pw_g h7 105 2 := by rw [← h8w]; exact pw_g_ne (by omega)
  have he10 : pw_g h7 105 2 = n := by rw [← h7w]; exact pw_g_eq (c := 105) (k := 2) h5I rfl rfl (by omega) (by omega)
  have he11 : pw_g h8 105 3 = 1 := by rw [← h8w]; exact pw_g_eq (c := 105) (k := 3) h7I rfl rfl (by omega) (by omega)
  have hl12 : ∀ j : Nat, pw_g h8 107 j = pw_g h2 107 j := fun j => (((by rw [← h8w]; exact pw_g_ne (by omega) : pw_g h8 107 j = pw_g h7 107 j)).trans (by rw [← h7w]; exact pw_g_ne (by omega) : pw_g h7 107 j = pw_g h5 107 j)).trans (pw_Eg (c := 107) h2I h5E rfl rfl j : pw_g h5 107 j = pw_g h2 107 j)
  have hl13 : ∀ j : Nat, pw_g h8 109 j = pw_g h5 109 j := fun j => ((by rw [← h8w]; exact pw_g_ne (by omega) : pw_g h8 109 j = pw_g h7 109 j)).trans (by rw [← h7w]; exact pw_g_ne (by omega) : pw_g h7 109 j = pw_g h5 109 j)
  have hl14 : ∀ j : Nat, pw_g h2 13 j = pw_g h 13 j := fun j => (pw_Eg (c := 13) I h2E rfl rfl j : pw_g h2 13 j = pw_g h 13 j)
  exact ⟨h8I, h8F, ⟨by omega, by omega, fun j => (hl12 j).trans (hqc1 j), fun j => (hl13 j).trans ((hqc2 j).trans (hl14 j))⟩, rfl⟩
set_option maxHeartbeats 4000000 in
theorem cm_34_105h {X : List (Nat × List Value)} {d : Nat} {h : pm_H} (hd : 2 ≤ d) (I : pw_I h)  : pw X d h 34 0 [some (.ref 121), some (.ref 26), some (.ref 28)] [] (fun h' v => pw_I h' ∧ pw_E [11, 13] h h' ∧ ((∀ j : Nat, pw_g h' 11 j = pw_g h 107 j) ∧ ∀ j : Nat, pw_g h' 13 j = pw_g h 109 j) ∧ (v = .inl none)) := by
  have E : pm_ent 34 = some (3, 3, 3, 4, pmc_34) := rfl
  have E0 : pw_E [11, 13] h h := pw_E.rf _ _
  refine pw_ld E (pc' := 1) (st' := [.ref 26]) rfl (fun _ => rfl) ?_
  refine pw_ld E (pc' := 2) (st' := [.ref 121, .ref 26]) rfl (fun _ => rfl) ?_
  refine pw_getR (b := 122) I E (c := 105) (k := 0) (pc' := 5) rfl rfl rfl rfl rfl rfl rfl ?_
  obtain ⟨f1l, f1h, -⟩ := pw_obj (c := 10) I rfl
  refine pw_call (m' := 25) (As := [.ref 26, .ref 122]) (rest := []) (ls'' := [some (.ref 26), some (.ref 122)]) (Nat.le_trans (by decide) hd) E rfl (fun _ => pw_iV rfl rfl rfl rfl (pw_cellI f1h rfl)) (rfl : pm_ent 25 = some (2, 2, 2, 4, pmc_25)) rfl rfl (cm_25_h (pw_dp hd (by decide)) I 10 (by unfold pw_Lg; omega) 106 (by unfold pw_Lg; omega)) ?_
  rintro h2 v3 ⟨h2I, h2E, hqc1, rfl⟩
  refine ⟨_, rfl, ?_⟩
  have h2F := E0.tr (h2E.wk (W' := [11, 13]) (by first | rfl | simp))
  show pw X d h2 34 8 [some (.ref 121), some (.ref 26), some (.ref 28)] [] _
  refine pw_ld E (pc' := 9) (st' := [.ref 28]) rfl (fun _ => rfl) ?_
  refine pw_ld E (pc' := 10) (st' := [.ref 121, .ref 28]) rfl (fun _ => rfl) ?_
  refine pw_getR (b := 124) h2I E (c := 105) (k := 1) (pc' := 13) rfl rfl rfl rfl rfl rfl rfl ?_
  obtain ⟨f4l, f4h, -⟩ := pw_obj (c := 12) h2I rfl
  refine pw_call (m' := 25) (As := [.ref 28, .ref 124]) (rest := []) (ls'' := [some (.ref 28), some (.ref 124)]) (Nat.le_trans (by decide) hd) E rfl (fun _ => pw_iV rfl rfl rfl rfl (pw_cellI f4h rfl)) (rfl : pm_ent 25 = some (2, 2, 2, 4, pmc_25)) rfl rfl (cm_25_h (pw_dp hd (by decide)) h2I 12 (by unfold pw_Lg; omega) 108 (by unfold pw_Lg; omega)) ?_
  rintro h5 v6 ⟨h5I, h5E, hqc2, rfl⟩
  refine ⟨_, rfl, ?_⟩
  have h5F := h2F.tr (h5E.wk (W' := [11, 13]) (by first | rfl | simp))
  show pw X d h5 34 16 [some (.ref 121), some (.ref 26), some (.ref 28)] [] _
  refine pw_vret E rfl ?_
  have hl7 : ∀ j : Nat, pw_g h5 11 j = pw_g h2 11 j := fun j => (pw_Eg (c := 11) h2I h5E rfl rfl j : pw_g h5 11 j = pw_g h2 11 j)
  have hl8 : ∀ j : Nat, pw_g h2 109 j = pw_g h 109 j := fun j => (pw_Eg (c := 109) I h2E rfl rfl j : pw_g h2 109 j = pw_g h 109 j)
  exact ⟨h5I, h5F, ⟨fun j => (hl7 j).trans (hqc1 j), fun j => (hqc2 j).trans (hl8 j)⟩, rfl⟩
set_option maxHeartbeats 4000000 in
theorem cm_31_110h {X : List (Nat × List Value)} {d : Nat} {h : pm_H} (hd : 2 ≤ d) (I : pw_I h) (n : Int) (hn1 : 0 ≤ n) (hn2 : n ≤ 20) : pw X d h 31 0 [some (.ref 126), some (.ref 26), some (.ref 28), some (pw_i n)] [] (fun h' v => pw_I h' ∧ pw_E [110, 112, 114] h h' ∧ (pw_g h' 110 2 = n ∧ pw_g h' 110 3 = 1 ∧ (∀ j : Nat, pw_g h' 112 j = pw_g h 11 j) ∧ ∀ j : Nat, pw_g h' 114 j = pw_g h 13 j) ∧ (v = .inl none)) := by
  have E : pm_ent 31 = some (4, 4, 3, 4, pmc_31) := rfl
  have E0 : pw_E [110, 112, 114] h h := pw_E.rf _ _
  refine pw_ld E (pc' := 1) (st' := [.ref 126]) rfl (fun _ => rfl) ?_
  refine pw_getR (b := 127) I E (c := 110) (k := 0) (pc' := 4) rfl rfl rfl rfl rfl rfl rfl ?_
  refine pw_ld E (pc' := 5) (st' := [.ref 26, .ref 127]) rfl (fun _ => rfl) ?_
  obtain ⟨f1l, f1h, -⟩ := pw_obj (c := 111) I rfl
  refine pw_call (m' := 25) (As := [.ref 127, .ref 26]) (rest := []) (ls'' := [some (.ref 127), some (.ref 26)]) (Nat.le_trans (by decide) hd) E rfl (fun _ => pw_iV rfl rfl rfl rfl (pw_cellI f1h rfl)) (rfl : pm_ent 25 = some (2, 2, 2, 4, pmc_25)) rfl rfl (cm_25_h (pw_dp hd (by decide)) I 111 (by unfold pw_Lg; omega) 10 (by unfold pw_Lg; omega)) ?_
  rintro h2 v3 ⟨h2I, h2E, hqc1, rfl⟩
  refine ⟨_, rfl, ?_⟩
  have h2F := E0.tr (h2E.wk (W' := [110, 112, 114]) (by first | rfl | simp))
  show pw X d h2 31 8 [some (.ref 126), some (.ref 26), some (.ref 28), some (pw_i n)] [] _
  refine pw_ld E (pc' := 9) (st' := [.ref 126]) rfl (fun _ => rfl) ?_
  refine pw_getR (b := 129) h2I E (c := 110) (k := 1) (pc' := 12) rfl rfl rfl rfl rfl rfl rfl ?_
  refine pw_ld E (pc' := 13) (st' := [.ref 28, .ref 129]) rfl (fun _ => rfl) ?_
  obtain ⟨f4l, f4h, -⟩ := pw_obj (c := 113) h2I rfl
  refine pw_call (m' := 25) (As := [.ref 129, .ref 28]) (rest := []) (ls'' := [some (.ref 129), some (.ref 28)]) (Nat.le_trans (by decide) hd) E rfl (fun _ => pw_iV rfl rfl rfl rfl (pw_cellI f4h rfl)) (rfl : pm_ent 25 = some (2, 2, 2, 4, pmc_25)) rfl rfl (cm_25_h (pw_dp hd (by decide)) h2I 113 (by unfold pw_Lg; omega) 12 (by unfold pw_Lg; omega)) ?_
  rintro h5 v6 ⟨h5I, h5E, hqc2, rfl⟩
  refine ⟨_, rfl, ?_⟩
  have h5F := h2F.tr (h5E.wk (W' := [110, 112, 114]) (by first | rfl | simp))
  show pw X d h5 31 16 [some (.ref 126), some (.ref 26), some (.ref 28), some (pw_i n)] [] _
  refine pw_ld E (pc' := 17) (st' := [.ref 126]) rfl (fun _ => rfl) ?_
  refine pw_ld E (pc' := 18) (st' := [pw_i n, .ref 126]) rfl (fun _ => rfl) ?_
  refine pw_putI h5I E (c := 110) (k := 2) (pc' := 21) rfl rfl rfl rfl (by omega) (by omega) (by omega) (by omega) rfl rfl ?_
  intro h7I h7E
  generalize h7w : pw_w h5 110 2 (pw_i n) = h7 at h7I h7E ⊢
  have h7F := h5F.tr (h7E.wk (W' := [110, 112, 114]) (by first | rfl | simp))
  refine pw_ld E (pc' := 22) (st' := [.ref 126]) rfl (fun _ => rfl) ?_
  refine pw_ld E (pc' := 23) (st' := [pw_i 1, .ref 126]) rfl (fun _ => rfl) ?_
  refine pw_putZ h7I E (c := 110) (k := 3) (pc' := 26) rfl rfl rfl rfl (by omega) (by omega) (by omega) rfl rfl ?_
  intro h8I h8E
  generalize h8w : pw_w h7 110 3 (pw_i 1) = h8 at h8I h8E ⊢
  have h8F := h7F.tr (h8E.wk (W' := [110, 112, 114]) (by first | rfl | simp))
  refine pw_vret E rfl ?_
  have he9 : pw_g h8 110 2 = pw_g h7 110 2 := by rw [← h8w]; exact pw_g_ne (by omega)
  have he10 : pw_g h7 110 2 = n := by rw [← h7w]; exact pw_g_eq (c := 110) (k := 2) h5I rfl rfl (by omega) (by omega)
  have he11 : pw_g h8 110 3 = 1 := by rw [← h8w]; exact pw_g_eq (c := 110) (k := 3) h7I rfl rfl (by omega) (by omega)
  have hl12 : ∀ j : Nat, pw_g h8 112 j = pw_g h2 112 j := fun j => (((by rw [← h8w]; exact pw_g_ne (by omega) : pw_g h8 112 j = pw_g h7 112 j)).trans (by rw [← h7w]; exact pw_g_ne (by omega) : pw_g h7 112 j = pw_g h5 112 j)).trans (pw_Eg (c := 112) h2I h5E rfl rfl j : pw_g h5 112 j = pw_g h2 112 j)
  have hl13 : ∀ j : Nat, pw_g h8 114 j = pw_g h5 114 j := fun j => ((by rw [← h8w]; exact pw_g_ne (by omega) : pw_g h8 114 j = pw_g h7 114 j)).trans (by rw [← h7w]; exact pw_g_ne (by omega) : pw_g h7 114 j = pw_g h5 114 j)
  have hl14 : ∀ j : Nat, pw_g h2 13 j = pw_g h 13 j := fun j => (pw_Eg (c := 13) I h2E rfl rfl j : pw_g h2 13 j = pw_g h 13 j)
  exact ⟨h8I, h8F, ⟨by omega, by omega, fun j => (hl12 j).trans (hqc1 j), fun j => (hl13 j).trans ((hqc2 j).trans (hl14 j))⟩, rfl⟩
set_option maxHeartbeats 4000000 in
theorem cm_34_110h {X : List (Nat × List Value)} {d : Nat} {h : pm_H} (hd : 2 ≤ d) (I : pw_I h)  : pw X d h 34 0 [some (.ref 126), some (.ref 26), some (.ref 28)] [] (fun h' v => pw_I h' ∧ pw_E [11, 13] h h' ∧ ((∀ j : Nat, pw_g h' 11 j = pw_g h 112 j) ∧ ∀ j : Nat, pw_g h' 13 j = pw_g h 114 j) ∧ (v = .inl none)) := by
  have E : pm_ent 34 = some (3, 3, 3, 4, pmc_34) := rfl
  have E0 : pw_E [11, 13] h h := pw_E.rf _ _
  refine pw_ld E (pc' := 1) (st' := [.ref 26]) rfl (fun _ => rfl) ?_
  refine pw_ld E (pc' := 2) (st' := [.ref 126, .ref 26]) rfl (fun _ => rfl) ?_
  refine pw_getR (b := 127) I E (c := 110) (k := 0) (pc' := 5) rfl rfl rfl rfl rfl rfl rfl ?_
  obtain ⟨f1l, f1h, -⟩ := pw_obj (c := 10) I rfl
  refine pw_call (m' := 25) (As := [.ref 26, .ref 127]) (rest := []) (ls'' := [some (.ref 26), some (.ref 127)]) (Nat.le_trans (by decide) hd) E rfl (fun _ => pw_iV rfl rfl rfl rfl (pw_cellI f1h rfl)) (rfl : pm_ent 25 = some (2, 2, 2, 4, pmc_25)) rfl rfl (cm_25_h (pw_dp hd (by decide)) I 10 (by unfold pw_Lg; omega) 111 (by unfold pw_Lg; omega)) ?_
  rintro h2 v3 ⟨h2I, h2E, hqc1, rfl⟩
  refine ⟨_, rfl, ?_⟩
  have h2F := E0.tr (h2E.wk (W' := [11, 13]) (by first | rfl | simp))
  show pw X d h2 34 8 [some (.ref 126), some (.ref 26), some (.ref 28)] [] _
  refine pw_ld E (pc' := 9) (st' := [.ref 28]) rfl (fun _ => rfl) ?_
  refine pw_ld E (pc' := 10) (st' := [.ref 126, .ref 28]) rfl (fun _ => rfl) ?_
  refine pw_getR (b := 129) h2I E (c := 110) (k := 1) (pc' := 13) rfl rfl rfl rfl rfl rfl rfl ?_
  obtain ⟨f4l, f4h, -⟩ := pw_obj (c := 12) h2I rfl
  refine pw_call (m' := 25) (As := [.ref 28, .ref 129]) (rest := []) (ls'' := [some (.ref 28), some (.ref 129)]) (Nat.le_trans (by decide) hd) E rfl (fun _ => pw_iV rfl rfl rfl rfl (pw_cellI f4h rfl)) (rfl : pm_ent 25 = some (2, 2, 2, 4, pmc_25)) rfl rfl (cm_25_h (pw_dp hd (by decide)) h2I 12 (by unfold pw_Lg; omega) 113 (by unfold pw_Lg; omega)) ?_
  rintro h5 v6 ⟨h5I, h5E, hqc2, rfl⟩
  refine ⟨_, rfl, ?_⟩
  have h5F := h2F.tr (h5E.wk (W' := [11, 13]) (by first | rfl | simp))
  show pw X d h5 34 16 [some (.ref 126), some (.ref 26), some (.ref 28)] [] _
  refine pw_vret E rfl ?_
  have hl7 : ∀ j : Nat, pw_g h5 11 j = pw_g h2 11 j := fun j => (pw_Eg (c := 11) h2I h5E rfl rfl j : pw_g h5 11 j = pw_g h2 11 j)
  have hl8 : ∀ j : Nat, pw_g h2 114 j = pw_g h 114 j := fun j => (pw_Eg (c := 114) I h2E rfl rfl j : pw_g h2 114 j = pw_g h 114 j)
  exact ⟨h5I, h5F, ⟨fun j => (hl7 j).trans (hqc1 j), fun j => (hqc2 j).trans (hl8 j)⟩, rfl⟩
set_option maxHeartbeats 4000000 in
theorem cm_31_115h {X : List (Nat × List Value)} {d : Nat} {h : pm_H} (hd : 2 ≤ d) (I : pw_I h) (n : Int) (hn1 : 0 ≤ n) (hn2 : n ≤ 20) : pw X d h 31 0 [some (.ref 131), some (.ref 26), some (.ref 28), some (pw_i n)] [] (fun h' v => pw_I h' ∧ pw_E [115, 117, 119] h h' ∧ (pw_g h' 115 2 = n ∧ pw_g h' 115 3 = 1 ∧ (∀ j : Nat, pw_g h' 117 j = pw_g h 11 j) ∧ ∀ j : Nat, pw_g h' 119 j = pw_g h 13 j) ∧ (v = .inl none)) := by
  have E : pm_ent 31 = some (4, 4, 3, 4, pmc_31) := rfl
  have E0 : pw_E [115, 117, 119] h h := pw_E.rf _ _
  refine pw_ld E (pc' := 1) (st' := [.ref 131]) rfl (fun _ => rfl) ?_
  refine pw_getR (b := 132) I E (c := 115) (k := 0) (pc' := 4) rfl rfl rfl rfl rfl rfl rfl ?_
  refine pw_ld E (pc' := 5) (st' := [.ref 26, .ref 132]) rfl (fun _ => rfl) ?_
  obtain ⟨f1l, f1h, -⟩ := pw_obj (c := 116) I rfl
  refine pw_call (m' := 25) (As := [.ref 132, .ref 26]) (rest := []) (ls'' := [some (.ref 132), some (.ref 26)]) (Nat.le_trans (by decide) hd) E rfl (fun _ => pw_iV rfl rfl rfl rfl (pw_cellI f1h rfl)) (rfl : pm_ent 25 = some (2, 2, 2, 4, pmc_25)) rfl rfl (cm_25_h (pw_dp hd (by decide)) I 116 (by unfold pw_Lg; omega) 10 (by unfold pw_Lg; omega)) ?_
  rintro h2 v3 ⟨h2I, h2E, hqc1, rfl⟩
  refine ⟨_, rfl, ?_⟩
  have h2F := E0.tr (h2E.wk (W' := [115, 117, 119]) (by first | rfl | simp))
  show pw X d h2 31 8 [some (.ref 131), some (.ref 26), some (.ref 28), some (pw_i n)] [] _
  refine pw_ld E (pc' := 9) (st' := [.ref 131]) rfl (fun _ => rfl) ?_
  refine pw_getR (b := 134) h2I E (c := 115) (k := 1) (pc' := 12) rfl rfl rfl rfl rfl rfl rfl ?_
  refine pw_ld E (pc' := 13) (st' := [.ref 28, .ref 134]) rfl (fun _ => rfl) ?_
  obtain ⟨f4l, f4h, -⟩ := pw_obj (c := 118) h2I rfl
  refine pw_call (m' := 25) (As := [.ref 134, .ref 28]) (rest := []) (ls'' := [some (.ref 134), some (.ref 28)]) (Nat.le_trans (by decide) hd) E rfl (fun _ => pw_iV rfl rfl rfl rfl (pw_cellI f4h rfl)) (rfl : pm_ent 25 = some (2, 2, 2, 4, pmc_25)) rfl rfl (cm_25_h (pw_dp hd (by decide)) h2I 118 (by unfold pw_Lg; omega) 12 (by unfold pw_Lg; omega)) ?_
  rintro h5 v6 ⟨h5I, h5E, hqc2, rfl⟩
  refine ⟨_, rfl, ?_⟩
  have h5F := h2F.tr (h5E.wk (W' := [115, 117, 119]) (by first | rfl | simp))
  show pw X d h5 31 16 [some (.ref 131), some (.ref 26), some (.ref 28), some (pw_i n)] [] _
  refine pw_ld E (pc' := 17) (st' := [.ref 131]) rfl (fun _ => rfl) ?_
  refine pw_ld E (pc' := 18) (st' := [pw_i n, .ref 131]) rfl (fun _ => rfl) ?_
  refine pw_putI h5I E (c := 115) (k := 2) (pc' := 21) rfl rfl rfl rfl (by omega) (by omega) (by omega) (by omega) rfl rfl ?_
  intro h7I h7E
  generalize h7w : pw_w h5 115 2 (pw_i n) = h7 at h7I h7E ⊢
  have h7F := h5F.tr (h7E.wk (W' := [115, 117, 119]) (by first | rfl | simp))
  refine pw_ld E (pc' := 22) (st' := [.ref 131]) rfl (fun _ => rfl) ?_
  refine pw_ld E (pc' := 23) (st' := [pw_i 1, .ref 131]) rfl (fun _ => rfl) ?_
  refine pw_putZ h7I E (c := 115) (k := 3) (pc' := 26) rfl rfl rfl rfl (by omega) (by omega) (by omega) rfl rfl ?_
  intro h8I h8E
  generalize h8w : pw_w h7 115 3 (pw_i 1) = h8 at h8I h8E ⊢
  have h8F := h7F.tr (h8E.wk (W' := [115, 117, 119]) (by first | rfl | simp))
  refine pw_vret E rfl ?_
  have he9 : pw_g h8 115 2 = pw_g h7 115 2 := by rw [← h8w]; exact pw_g_ne (by omega)
  have he10 : pw_g h7 115 2 = n := by rw [← h7w]; exact pw_g_eq (c := 115) (k := 2) h5I rfl rfl (by omega) (by omega)
  have he11 : pw_g h8 115 3 = 1 := by rw [← h8w]; exact pw_g_eq (c := 115) (k := 3) h7I rfl rfl (by omega) (by omega)
  have hl12 : ∀ j : Nat, pw_g h8 117 j = pw_g h2 117 j := fun j => (((by rw [← h8w]; exact pw_g_ne (by omega) : pw_g h8 117 j = pw_g h7 117 j)).trans (by rw [← h7w]; exact pw_g_ne (by omega) : pw_g h7 117 j = pw_g h5 117 j)).trans (pw_Eg (c := 117) h2I h5E rfl rfl j : pw_g h5 117 j = pw_g h2 117 j)
  have hl13 : ∀ j : Nat, pw_g h8 119 j = pw_g h5 119 j := fun j => ((by rw [← h8w]; exact pw_g_ne (by omega) : pw_g h8 119 j = pw_g h7 119 j)).trans (by rw [← h7w]; exact pw_g_ne (by omega) : pw_g h7 119 j = pw_g h5 119 j)
  have hl14 : ∀ j : Nat, pw_g h2 13 j = pw_g h 13 j := fun j => (pw_Eg (c := 13) I h2E rfl rfl j : pw_g h2 13 j = pw_g h 13 j)
  exact ⟨h8I, h8F, ⟨by omega, by omega, fun j => (hl12 j).trans (hqc1 j), fun j => (hl13 j).trans ((hqc2 j).trans (hl14 j))⟩, rfl⟩
set_option maxHeartbeats 4000000 in
theorem cm_34_115h {X : List (Nat × List Value)} {d : Nat} {h : pm_H} (hd : 2 ≤ d) (I : pw_I h)  : pw X d h 34 0 [some (.ref 131), some (.ref 26), some (.ref 28)] [] (fun h' v => pw_I h' ∧ pw_E [11, 13] h h' ∧ ((∀ j : Nat, pw_g h' 11 j = pw_g h 117 j) ∧ ∀ j : Nat, pw_g h' 13 j = pw_g h 119 j) ∧ (v = .inl none)) := by
  have E : pm_ent 34 = some (3, 3, 3, 4, pmc_34) := rfl
  have E0 : pw_E [11, 13] h h := pw_E.rf _ _
  refine pw_ld E (pc' := 1) (st' := [.ref 26]) rfl (fun _ => rfl) ?_
  refine pw_ld E (pc' := 2) (st' := [.ref 131, .ref 26]) rfl (fun _ => rfl) ?_
  refine pw_getR (b := 132) I E (c := 115) (k := 0) (pc' := 5) rfl rfl rfl rfl rfl rfl rfl ?_
  obtain ⟨f1l, f1h, -⟩ := pw_obj (c := 10) I rfl
  refine pw_call (m' := 25) (As := [.ref 26, .ref 132]) (rest := []) (ls'' := [some (.ref 26), some (.ref 132)]) (Nat.le_trans (by decide) hd) E rfl (fun _ => pw_iV rfl rfl rfl rfl (pw_cellI f1h rfl)) (rfl : pm_ent 25 = some (2, 2, 2, 4, pmc_25)) rfl rfl (cm_25_h (pw_dp hd (by decide)) I 10 (by unfold pw_Lg; omega) 116 (by unfold pw_Lg; omega)) ?_
  rintro h2 v3 ⟨h2I, h2E, hqc1, rfl⟩
  refine ⟨_, rfl, ?_⟩
  have h2F := E0.tr (h2E.wk (W' := [11, 13]) (by first | rfl | simp))
  show pw X d h2 34 8 [some (.ref 131), some (.ref 26), some (.ref 28)] [] _
  refine pw_ld E (pc' := 9) (st' := [.ref 28]) rfl (fun _ => rfl) ?_
  refine pw_ld E (pc' := 10) (st' := [.ref 131, .ref 28]) rfl (fun _ => rfl) ?_
  refine pw_getR (b := 134) h2I E (c := 115) (k := 1) (pc' := 13) rfl rfl rfl rfl rfl rfl rfl ?_
  obtain ⟨f4l, f4h, -⟩ := pw_obj (c := 12) h2I rfl
  refine pw_call (m' := 25) (As := [.ref 28, .ref 134]) (rest := []) (ls'' := [some (.ref 28), some (.ref 134)]) (Nat.le_trans (by decide) hd) E rfl (fun _ => pw_iV rfl rfl rfl rfl (pw_cellI f4h rfl)) (rfl : pm_ent 25 = some (2, 2, 2, 4, pmc_25)) rfl rfl (cm_25_h (pw_dp hd (by decide)) h2I 12 (by unfold pw_Lg; omega) 118 (by unfold pw_Lg; omega)) ?_
  rintro h5 v6 ⟨h5I, h5E, hqc2, rfl⟩
  refine ⟨_, rfl, ?_⟩
  have h5F := h2F.tr (h5E.wk (W' := [11, 13]) (by first | rfl | simp))
  show pw X d h5 34 16 [some (.ref 131), some (.ref 26), some (.ref 28)] [] _
  refine pw_vret E rfl ?_
  have hl7 : ∀ j : Nat, pw_g h5 11 j = pw_g h2 11 j := fun j => (pw_Eg (c := 11) h2I h5E rfl rfl j : pw_g h5 11 j = pw_g h2 11 j)
  have hl8 : ∀ j : Nat, pw_g h2 119 j = pw_g h 119 j := fun j => (pw_Eg (c := 119) I h2E rfl rfl j : pw_g h2 119 j = pw_g h 119 j)
  exact ⟨h5I, h5F, ⟨fun j => (hl7 j).trans (hqc1 j), fun j => (hqc2 j).trans (hl8 j)⟩, rfl⟩
set_option maxHeartbeats 4000000 in
theorem cm_31_120h {X : List (Nat × List Value)} {d : Nat} {h : pm_H} (hd : 2 ≤ d) (I : pw_I h) (n : Int) (hn1 : 0 ≤ n) (hn2 : n ≤ 20) : pw X d h 31 0 [some (.ref 136), some (.ref 26), some (.ref 28), some (pw_i n)] [] (fun h' v => pw_I h' ∧ pw_E [120, 122, 124] h h' ∧ (pw_g h' 120 2 = n ∧ pw_g h' 120 3 = 1 ∧ (∀ j : Nat, pw_g h' 122 j = pw_g h 11 j) ∧ ∀ j : Nat, pw_g h' 124 j = pw_g h 13 j) ∧ (v = .inl none)) := by
  have E : pm_ent 31 = some (4, 4, 3, 4, pmc_31) := rfl
  have E0 : pw_E [120, 122, 124] h h := pw_E.rf _ _
  refine pw_ld E (pc' := 1) (st' := [.ref 136]) rfl (fun _ => rfl) ?_
  refine pw_getR (b := 137) I E (c := 120) (k := 0) (pc' := 4) rfl rfl rfl rfl rfl rfl rfl ?_
  refine pw_ld E (pc' := 5) (st' := [.ref 26, .ref 137]) rfl (fun _ => rfl) ?_
  obtain ⟨f1l, f1h, -⟩ := pw_obj (c := 121) I rfl
  refine pw_call (m' := 25) (As := [.ref 137, .ref 26]) (rest := []) (ls'' := [some (.ref 137), some (.ref 26)]) (Nat.le_trans (by decide) hd) E rfl (fun _ => pw_iV rfl rfl rfl rfl (pw_cellI f1h rfl)) (rfl : pm_ent 25 = some (2, 2, 2, 4, pmc_25)) rfl rfl (cm_25_h (pw_dp hd (by decide)) I 121 (by unfold pw_Lg; omega) 10 (by unfold pw_Lg; omega)) ?_
  rintro h2 v3 ⟨h2I, h2E, hqc1, rfl⟩
  refine ⟨_, rfl, ?_⟩
  have h2F := E0.tr (h2E.wk (W' := [120, 122, 124]) (by first | rfl | simp))
  show pw X d h2 31 8 [some (.ref 136), some (.ref 26), some (.ref 28), some (pw_i n)] [] _
  refine pw_ld E (pc' := 9) (st' := [.ref 136]) rfl (fun _ => rfl) ?_
  refine pw_getR (b := 139) h2I E (c := 120) (k := 1) (pc' := 12) rfl rfl rfl rfl rfl rfl rfl ?_
  refine pw_ld E (pc' := 13) (st' := [.ref 28, .ref 139]) rfl (fun _ => rfl) ?_
  obtain ⟨f4l, f4h, -⟩ := pw_obj (c := 123) h2I rfl
  refine pw_call (m' := 25) (As := [.ref 139, .ref 28]) (rest := []) (ls'' := [some (.ref 139), some (.ref 28)]) (Nat.le_trans (by decide) hd) E rfl (fun _ => pw_iV rfl rfl rfl rfl (pw_cellI f4h rfl)) (rfl : pm_ent 25 = some (2, 2, 2, 4, pmc_25)) rfl rfl (cm_25_h (pw_dp hd (by decide)) h2I 123 (by unfold pw_Lg; omega) 12 (by unfold pw_Lg; omega)) ?_
  rintro h5 v6 ⟨h5I, h5E, hqc2, rfl⟩
  refine ⟨_, rfl, ?_⟩
  have h5F := h2F.tr (h5E.wk (W' := [120, 122, 124]) (by first | rfl | simp))
  show pw X d h5 31 16 [some (.ref 136), some (.ref 26), some (.ref 28), some (pw_i n)] [] _
  refine pw_ld E (pc' := 17) (st' := [.ref 136]) rfl (fun _ => rfl) ?_
  refine pw_ld E (pc' := 18) (st' := [pw_i n, .ref 136]) rfl (fun _ => rfl) ?_
  refine pw_putI h5I E (c := 120) (k := 2) (pc' := 21) rfl rfl rfl rfl (by omega) (by omega) (by omega) (by omega) rfl rfl ?_
  intro h7I h7E
  generalize h7w : pw_w h5 120 2 (pw_i n) = h7 at h7I h7E ⊢
  have h7F := h5F.tr (h7E.wk (W' := [120, 122, 124]) (by first | rfl | simp))
  refine pw_ld E (pc' := 22) (st' := [.ref 136]) rfl (fun _ => rfl) ?_
  refine pw_ld E (pc' := 23) (st' := [pw_i 1, .ref 136]) rfl (fun _ => rfl) ?_
  refine pw_putZ h7I E (c := 120) (k := 3) (pc' := 26) rfl rfl rfl rfl (by omega) (by omega) (by omega) rfl rfl ?_
  intro h8I h8E
  generalize h8w : pw_w h7 120 3 (pw_i 1) = h8 at h8I h8E ⊢
  have h8F := h7F.tr (h8E.wk (W' := [120, 122, 124]) (by first | rfl | simp))
  refine pw_vret E rfl ?_
  have he9 : pw_g h8 120 2 = pw_g h7 120 2 := by rw [← h8w]; exact pw_g_ne (by omega)
  have he10 : pw_g h7 120 2 = n := by rw [← h7w]; exact pw_g_eq (c := 120) (k := 2) h5I rfl rfl (by omega) (by omega)
  have he11 : pw_g h8 120 3 = 1 := by rw [← h8w]; exact pw_g_eq (c := 120) (k := 3) h7I rfl rfl (by omega) (by omega)
  have hl12 : ∀ j : Nat, pw_g h8 122 j = pw_g h2 122 j := fun j => (((by rw [← h8w]; exact pw_g_ne (by omega) : pw_g h8 122 j = pw_g h7 122 j)).trans (by rw [← h7w]; exact pw_g_ne (by omega) : pw_g h7 122 j = pw_g h5 122 j)).trans (pw_Eg (c := 122) h2I h5E rfl rfl j : pw_g h5 122 j = pw_g h2 122 j)
  have hl13 : ∀ j : Nat, pw_g h8 124 j = pw_g h5 124 j := fun j => ((by rw [← h8w]; exact pw_g_ne (by omega) : pw_g h8 124 j = pw_g h7 124 j)).trans (by rw [← h7w]; exact pw_g_ne (by omega) : pw_g h7 124 j = pw_g h5 124 j)
  have hl14 : ∀ j : Nat, pw_g h2 13 j = pw_g h 13 j := fun j => (pw_Eg (c := 13) I h2E rfl rfl j : pw_g h2 13 j = pw_g h 13 j)
  exact ⟨h8I, h8F, ⟨by omega, by omega, fun j => (hl12 j).trans (hqc1 j), fun j => (hl13 j).trans ((hqc2 j).trans (hl14 j))⟩, rfl⟩
set_option maxHeartbeats 4000000 in
theorem cm_34_120h {X : List (Nat × List Value)} {d : Nat} {h : pm_H} (hd : 2 ≤ d) (I : pw_I h)  : pw X d h 34 0 [some (.ref 136), some (.ref 26), some (.ref 28)] [] (fun h' v => pw_I h' ∧ pw_E [11, 13] h h' ∧ ((∀ j : Nat, pw_g h' 11 j = pw_g h 122 j) ∧ ∀ j : Nat, pw_g h' 13 j = pw_g h 124 j) ∧ (v = .inl none)) := by
  have E : pm_ent 34 = some (3, 3, 3, 4, pmc_34) := rfl
  have E0 : pw_E [11, 13] h h := pw_E.rf _ _
  refine pw_ld E (pc' := 1) (st' := [.ref 26]) rfl (fun _ => rfl) ?_
  refine pw_ld E (pc' := 2) (st' := [.ref 136, .ref 26]) rfl (fun _ => rfl) ?_
  refine pw_getR (b := 137) I E (c := 120) (k := 0) (pc' := 5) rfl rfl rfl rfl rfl rfl rfl ?_
  obtain ⟨f1l, f1h, -⟩ := pw_obj (c := 10) I rfl
  refine pw_call (m' := 25) (As := [.ref 26, .ref 137]) (rest := []) (ls'' := [some (.ref 26), some (.ref 137)]) (Nat.le_trans (by decide) hd) E rfl (fun _ => pw_iV rfl rfl rfl rfl (pw_cellI f1h rfl)) (rfl : pm_ent 25 = some (2, 2, 2, 4, pmc_25)) rfl rfl (cm_25_h (pw_dp hd (by decide)) I 10 (by unfold pw_Lg; omega) 121 (by unfold pw_Lg; omega)) ?_
  rintro h2 v3 ⟨h2I, h2E, hqc1, rfl⟩
  refine ⟨_, rfl, ?_⟩
  have h2F := E0.tr (h2E.wk (W' := [11, 13]) (by first | rfl | simp))
  show pw X d h2 34 8 [some (.ref 136), some (.ref 26), some (.ref 28)] [] _
  refine pw_ld E (pc' := 9) (st' := [.ref 28]) rfl (fun _ => rfl) ?_
  refine pw_ld E (pc' := 10) (st' := [.ref 136, .ref 28]) rfl (fun _ => rfl) ?_
  refine pw_getR (b := 139) h2I E (c := 120) (k := 1) (pc' := 13) rfl rfl rfl rfl rfl rfl rfl ?_
  obtain ⟨f4l, f4h, -⟩ := pw_obj (c := 12) h2I rfl
  refine pw_call (m' := 25) (As := [.ref 28, .ref 139]) (rest := []) (ls'' := [some (.ref 28), some (.ref 139)]) (Nat.le_trans (by decide) hd) E rfl (fun _ => pw_iV rfl rfl rfl rfl (pw_cellI f4h rfl)) (rfl : pm_ent 25 = some (2, 2, 2, 4, pmc_25)) rfl rfl (cm_25_h (pw_dp hd (by decide)) h2I 12 (by unfold pw_Lg; omega) 123 (by unfold pw_Lg; omega)) ?_
  rintro h5 v6 ⟨h5I, h5E, hqc2, rfl⟩
  refine ⟨_, rfl, ?_⟩
  have h5F := h2F.tr (h5E.wk (W' := [11, 13]) (by first | rfl | simp))
  show pw X d h5 34 16 [some (.ref 136), some (.ref 26), some (.ref 28)] [] _
  refine pw_vret E rfl ?_
  have hl7 : ∀ j : Nat, pw_g h5 11 j = pw_g h2 11 j := fun j => (pw_Eg (c := 11) h2I h5E rfl rfl j : pw_g h5 11 j = pw_g h2 11 j)
  have hl8 : ∀ j : Nat, pw_g h2 124 j = pw_g h 124 j := fun j => (pw_Eg (c := 124) I h2E rfl rfl j : pw_g h2 124 j = pw_g h 124 j)
  exact ⟨h5I, h5F, ⟨fun j => (hl7 j).trans (hqc1 j), fun j => (hqc2 j).trans (hl8 j)⟩, rfl⟩
set_option maxHeartbeats 4000000 in
theorem cm_167_h {X : List (Nat × List Value)} {d : Nat} {h : pm_H} (hd : 3 ≤ d) (I : pw_I h) (mk : Int) (hmk1 : (-2147483648) ≤ mk) (hmk2 : mk ≤ 2147483647) (z : Int) (hz1 : 0 ≤ z) (hz2 : z ≤ 1) : pw X d h 167 0 [some (.ref 16), some (pw_i mk), some (pw_i z)] [] (fun h' v => pw_I h' ∧ pw_E [11, 13, 100, 105, 107, 109, 110, 112, 114, 115, 117, 119, 120, 122, 124] h h' ∧ ∃ a : Int, v = .inl (some (pw_i a)) ∧ 0 ≤ a ∧ a ≤ 1 ∧ (pw_MT (pw_g h 100 3) (pw_g h' 100 3) (pw_om h) (pw_lm h) (pw_om h') (pw_lm h') mk z a ∧ pw_LT h h' mk z a)) := by
  have E : pm_ent 167 = some (3, 3, 11, 1, pmc_167) := rfl
  have E0 : pw_E [11, 13, 100, 105, 107, 109, 110, 112, 114, 115, 117, 119, 120, 122, 124] h h := pw_E.rf _ _
  refine pw_ld E (pc' := 1) (st' := [pw_i mk]) rfl (fun _ => rfl) ?_
  refine pw_ld E (pc' := 2) (st' := [pw_i 0, pw_i mk]) rfl (fun _ => rfl) ?_
  refine pw_ld E (pc' := 3) (st' := [pw_i 3, pw_i 0, pw_i mk]) rfl (fun _ => rfl) ?_
  refine pw_call (m' := 121) (As := [pw_i mk, pw_i 0, pw_i 3]) (rest := []) (ls'' := [some (pw_i mk), some (pw_i 0), some (pw_i 3)]) (Nat.le_trans (by decide) hd) E rfl (fun _ => pw_iS rfl rfl rfl) (rfl : pm_ent 121 = some (3, 3, 11, 1, pmc_121)) rfl rfl (cm_121 (pw_dp hd (by decide)) I (mk) (by omega) (by omega) (0) (by omega) (by omega) (3) (by omega) (by omega)) ?_
  rintro u2 v1 ⟨rfl, x3, rfl, hx3a, hx3b, hx3r⟩
  refine ⟨_, rfl, ?_⟩
  show pw X d h 167 6 [some (.ref 16), some (pw_i mk), some (pw_i z)] [pw_i x3] _
  change (x3 = 1 ∧ 0 ≤ mk ∧ mk ≤ 3) ∨ (x3 = 0 ∧ ¬ (0 ≤ mk ∧ mk ≤ 3)) at hx3r
  rcases (by omega : x3 = 1 ∨ x3 = 0) with hb4 | hb4
  · skip
    refine pw_if E (pc' := 11) rfl (by decide) (by omega) (by omega) ?_ ?_
    · intro hc5
      change x3 ≠ (0 : Int) at hc5
      refine pw_ld E (pc' := 12) (st' := [pw_i z]) rfl (fun _ => rfl) ?_
      refine pw_if E (pc' := 41) rfl (by decide) (by omega) (by omega) ?_ ?_
      · intro hc6
        change z ≠ (0 : Int) at hc6
        refine pw_ld E (pc' := 42) (st' := [.ref 16]) rfl (fun _ => rfl) ?_
        refine pw_getR (b := 120) I E (c := 0) (k := 19) (pc' := 45) rfl rfl rfl rfl rfl rfl rfl ?_
        refine pw_ld E (pc' := 46) (st' := [pw_i mk, .ref 120]) rfl (fun _ => rfl) ?_
        rcases (by omega : mk = 0 ∨ mk = 1 ∨ mk = 2 ∨ mk = 3) with hj7 | hj7 | hj7 | hj7
        · refine pw_aald (b := 121) I E (c := 104) (pc' := 47) rfl rfl (by decide) rfl (by decide) (by omega) (by omega) (by rw [hj7]; rfl) rfl ?_
          obtain ⟨f8l, f8h, -⟩ := pw_obj (c := 105) I rfl
          refine pw_call (m' := 32) (As := [.ref 121]) (rest := []) (ls'' := [some (.ref 121)]) (Nat.le_trans (by decide) hd) E rfl (fun _ => pw_iV rfl rfl rfl rfl (pw_cellI f8h rfl)) (rfl : pm_ent 32 = some (1, 1, 3, 1, pmc_32)) rfl rfl (cm_32_105m (pw_dp hd (by decide)) I ) ?_
          rintro u10 v9 ⟨rfl, x11, rfl, hx11a, hx11b, hx11r⟩
          refine ⟨_, rfl, ?_⟩
          show pw X d h 167 50 [some (.ref 16), some (pw_i mk), some (pw_i z)] [pw_i x11] _
          change x11 = pw_g h 105 3 at hx11r
          rcases (by omega : x11 = 1 ∨ x11 = 0) with hb12 | hb12
          · skip
            refine pw_if E (pc' := 72) rfl (by decide) (by omega) (by omega) ?_ ?_
            · intro hc13
              change x11 = (0 : Int) at hc13
              exfalso; omega
            · intro hc14
              change ¬ (x11 = (0 : Int)) at hc14
              refine pw_ld E (pc' := 54) (st' := [.ref 16]) rfl (fun _ => rfl) ?_
              refine pw_getR (b := 116) I E (c := 0) (k := 18) (pc' := 57) rfl rfl rfl rfl rfl rfl rfl ?_
              obtain ⟨f15l, f15h, -⟩ := pw_obj (c := 100) I rfl
              refine pw_call (m' := 40) (As := [.ref 116]) (rest := []) (ls'' := [some (.ref 116)]) (Nat.le_trans (by decide) hd) E rfl (fun _ => pw_iV rfl rfl rfl rfl (pw_cellI f15h rfl)) (rfl : pm_ent 40 = some (1, 1, 4, 0, pmc_40)) rfl rfl (cm_40_m (pw_dp hd (by decide)) I ) ?_
              rintro u17 v16 ⟨rfl, x18, rfl, hx18a, hx18b, hx18r⟩
              refine ⟨_, rfl, ?_⟩
              show pw X d h 167 60 [some (.ref 16), some (pw_i mk), some (pw_i z)] [pw_i x18] _
              change x18 = pw_g h 100 3 at hx18r
              refine pw_ld E (pc' := 61) (st' := [.ref 16, pw_i x18]) rfl (fun _ => rfl) ?_
              refine pw_getR (b := 120) I E (c := 0) (k := 19) (pc' := 64) rfl rfl rfl rfl rfl rfl rfl ?_
              refine pw_ld E (pc' := 65) (st' := [pw_i mk, .ref 120, pw_i x18]) rfl (fun _ => rfl) ?_
              refine pw_aald (b := 121) I E (c := 104) (pc' := 66) rfl rfl (by decide) rfl (by decide) (by omega) (by omega) (by rw [hj7]; rfl) rfl ?_
              obtain ⟨f20l, f20h, -⟩ := pw_obj (c := 105) I rfl
              refine pw_call (m' := 33) (As := [.ref 121]) (rest := [pw_i x18]) (ls'' := [some (.ref 121)]) (Nat.le_trans (by decide) hd) E rfl (fun _ => pw_iV rfl rfl rfl rfl (pw_cellI f20h rfl)) (rfl : pm_ent 33 = some (1, 1, 3, 0, pmc_33)) rfl rfl (cm_33_105m (pw_dp hd (by decide)) I ) ?_
              rintro u22 v21 ⟨rfl, x23, rfl, hx23a, hx23b, hx23r⟩
              refine ⟨_, rfl, ?_⟩
              show pw X d h 167 69 [some (.ref 16), some (pw_i mk), some (pw_i z)] [pw_i x23, pw_i x18] _
              change x23 = pw_g h 105 2 at hx23r
              refine pw_if2 E (pc' := 74) rfl (by decide) (by omega) (by omega) (by omega) (by omega) ?_ ?_
              · intro hc24
                change x23 ≤ x18 at hc24
                refine pw_ld E (pc' := 75) (st' := [.ref 16]) rfl (fun _ => rfl) ?_
                refine pw_getR (b := 120) I E (c := 0) (k := 19) (pc' := 78) rfl rfl rfl rfl rfl rfl rfl ?_
                refine pw_ld E (pc' := 79) (st' := [pw_i mk, .ref 120]) rfl (fun _ => rfl) ?_
                refine pw_aald (b := 121) I E (c := 104) (pc' := 80) rfl rfl (by decide) rfl (by decide) (by omega) (by omega) (by rw [hj7]; rfl) rfl ?_
                refine pw_ld E (pc' := 81) (st' := [.ref 16, .ref 121]) rfl (fun _ => rfl) ?_
                refine pw_getR (b := 26) I E (c := 0) (k := 2) (pc' := 84) rfl rfl rfl rfl rfl rfl rfl ?_
                refine pw_ld E (pc' := 85) (st' := [.ref 16, .ref 26, .ref 121]) rfl (fun _ => rfl) ?_
                refine pw_getR (b := 28) I E (c := 0) (k := 3) (pc' := 88) rfl rfl rfl rfl rfl rfl rfl ?_
                obtain ⟨f26l, f26h, -⟩ := pw_obj (c := 105) I rfl
                refine pw_call (m' := 34) (As := [.ref 121, .ref 26, .ref 28]) (rest := []) (ls'' := [some (.ref 121), some (.ref 26), some (.ref 28)]) (Nat.le_trans (by decide) hd) E rfl (fun _ => pw_iV rfl rfl rfl rfl (pw_cellI f26h rfl)) (rfl : pm_ent 34 = some (3, 3, 3, 4, pmc_34)) rfl rfl (cm_34_105h (pw_dp hd (by decide)) I ) ?_
                rintro h27 v28 ⟨h27I, h27E, hqback, rfl⟩
                refine ⟨_, rfl, ?_⟩
                have h27F := E0.tr (h27E.wk (W' := [11, 13, 100, 105, 107, 109, 110, 112, 114, 115, 117, 119, 120, 122, 124]) (by first | rfl | simp))
                show pw X d h27 167 91 [some (.ref 16), some (pw_i mk), some (pw_i z)] [] _
                refine pw_ld E (pc' := 92) (st' := [.ref 16]) rfl (fun _ => rfl) ?_
                refine pw_getR (b := 116) h27I E (c := 0) (k := 18) (pc' := 95) rfl rfl rfl rfl rfl rfl rfl ?_
                refine pw_ld E (pc' := 96) (st' := [.ref 16, .ref 116]) rfl (fun _ => rfl) ?_
                refine pw_getR (b := 120) h27I E (c := 0) (k := 19) (pc' := 99) rfl rfl rfl rfl rfl rfl rfl ?_
                refine pw_ld E (pc' := 100) (st' := [pw_i mk, .ref 120, .ref 116]) rfl (fun _ => rfl) ?_
                refine pw_aald (b := 121) h27I E (c := 104) (pc' := 101) rfl rfl (by decide) rfl (by decide) (by omega) (by omega) (by rw [hj7]; rfl) rfl ?_
                obtain ⟨f30l, f30h, -⟩ := pw_obj (c := 105) h27I rfl
                refine pw_call (m' := 33) (As := [.ref 121]) (rest := [.ref 116]) (ls'' := [some (.ref 121)]) (Nat.le_trans (by decide) hd) E rfl (fun _ => pw_iV rfl rfl rfl rfl (pw_cellI f30h rfl)) (rfl : pm_ent 33 = some (1, 1, 3, 0, pmc_33)) rfl rfl (cm_33_105m (pw_dp hd (by decide)) h27I ) ?_
                rintro u32 v31 ⟨rfl, x33, rfl, hx33a, hx33b, hx33r⟩
                refine ⟨_, rfl, ?_⟩
                show pw X d h27 167 104 [some (.ref 16), some (pw_i mk), some (pw_i z)] [pw_i x33, .ref 116] _
                change x33 = pw_g h27 105 2 at hx33r
                obtain ⟨f34l, f34h, -⟩ := pw_obj (c := 100) h27I rfl
                refine pw_call (m' := 41) (As := [.ref 116, pw_i x33]) (rest := []) (ls'' := [some (.ref 116), some (pw_i x33)]) (Nat.le_trans (by decide) hd) E rfl (fun _ => pw_iV rfl rfl rfl rfl (pw_cellI f34h rfl)) (rfl : pm_ent 41 = some (2, 2, 4, 4, pmc_41)) rfl rfl (cm_41_m (pw_dp hd (by decide)) h27I (x33) (by omega) (by omega)) ?_
                rintro h35 v36 ⟨h35I, h35E, hqcutTo, rfl⟩
                refine ⟨_, rfl, ?_⟩
                have h35F := h27F.tr (h35E.wk (W' := [11, 13, 100, 105, 107, 109, 110, 112, 114, 115, 117, 119, 120, 122, 124]) (by first | rfl | simp))
                show pw X d h35 167 107 [some (.ref 16), some (pw_i mk), some (pw_i z)] [] _
                refine pw_ld E (pc' := 108) (st' := [pw_i 1]) rfl (fun _ => rfl) ?_
                refine pw_zret E rfl (by omega) ?_
                have hcc : pw_g h35 100 3 = min (pw_g h27 100 3) _ := hqcutTo
                have h100 : pw_g h27 100 3 = pw_g h 100 3 := (pw_Eg (c := 100) I h27E rfl rfl 3 : pw_g h27 100 3 = pw_g h 100 3)
                have hf0 : pw_g h27 105 2 = pw_g h 105 2 := (pw_Eg (c := 105) I h27E rfl rfl 2 : pw_g h27 105 2 = pw_g h 105 2)
                have hf1 : pw_g h27 110 2 = pw_g h 110 2 := (pw_Eg (c := 110) I h27E rfl rfl 2 : pw_g h27 110 2 = pw_g h 110 2)
                have hf2 : pw_g h27 115 2 = pw_g h 115 2 := (pw_Eg (c := 115) I h27E rfl rfl 2 : pw_g h27 115 2 = pw_g h 115 2)
                have hf3 : pw_g h27 120 2 = pw_g h 120 2 := (pw_Eg (c := 120) I h27E rfl rfl 2 : pw_g h27 120 2 = pw_g h 120 2)
                have hM : pw_MT (pw_g h 100 3) (pw_g h35 100 3) (pw_om h) (pw_lm h) (pw_om h35) (pw_lm h35) mk z 1 := by
                  rcases (by omega : mk = 0 ∨ mk = 1 ∨ mk = 2 ∨ mk = 3) with rfl | rfl | rfl | rfl
                  · first
                    | exact Or.inr (Or.inr (Or.inr ⟨by omega, by omega, by omega, (by show pw_g h 105 3 ≠ 0; omega), (by show pw_g h 105 2 ≤ pw_g h 100 3; omega), rfl, (by show pw_g h35 100 3 = pw_g h 105 2; omega), (pw_i4 ⟨((pw_Eg (c := 105) h27I h35E rfl rfl 2 : pw_g h35 105 2 = pw_g h27 105 2)).trans (pw_Eg (c := 105) I h27E rfl rfl 2 : pw_g h27 105 2 = pw_g h 105 2), ((pw_Eg (c := 105) h27I h35E rfl rfl 3 : pw_g h35 105 3 = pw_g h27 105 3)).trans (pw_Eg (c := 105) I h27E rfl rfl 3 : pw_g h27 105 3 = pw_g h 105 3)⟩ ⟨((pw_Eg (c := 110) h27I h35E rfl rfl 2 : pw_g h35 110 2 = pw_g h27 110 2)).trans (pw_Eg (c := 110) I h27E rfl rfl 2 : pw_g h27 110 2 = pw_g h 110 2), ((pw_Eg (c := 110) h27I h35E rfl rfl 3 : pw_g h35 110 3 = pw_g h27 110 3)).trans (pw_Eg (c := 110) I h27E rfl rfl 3 : pw_g h27 110 3 = pw_g h 110 3)⟩ ⟨((pw_Eg (c := 115) h27I h35E rfl rfl 2 : pw_g h35 115 2 = pw_g h27 115 2)).trans (pw_Eg (c := 115) I h27E rfl rfl 2 : pw_g h27 115 2 = pw_g h 115 2), ((pw_Eg (c := 115) h27I h35E rfl rfl 3 : pw_g h35 115 3 = pw_g h27 115 3)).trans (pw_Eg (c := 115) I h27E rfl rfl 3 : pw_g h27 115 3 = pw_g h 115 3)⟩ ⟨((pw_Eg (c := 120) h27I h35E rfl rfl 2 : pw_g h35 120 2 = pw_g h27 120 2)).trans (pw_Eg (c := 120) I h27E rfl rfl 2 : pw_g h27 120 2 = pw_g h 120 2), ((pw_Eg (c := 120) h27I h35E rfl rfl 3 : pw_g h35 120 3 = pw_g h27 120 3)).trans (pw_Eg (c := 120) I h27E rfl rfl 3 : pw_g h27 120 3 = pw_g h 120 3)⟩)⟩))
                    | (exfalso; omega)
                  · first
                    | exact Or.inr (Or.inr (Or.inr ⟨by omega, by omega, by omega, (by show pw_g h 110 3 ≠ 0; omega), (by show pw_g h 110 2 ≤ pw_g h 100 3; omega), rfl, (by show pw_g h35 100 3 = pw_g h 110 2; omega), (pw_i4 ⟨((pw_Eg (c := 105) h27I h35E rfl rfl 2 : pw_g h35 105 2 = pw_g h27 105 2)).trans (pw_Eg (c := 105) I h27E rfl rfl 2 : pw_g h27 105 2 = pw_g h 105 2), ((pw_Eg (c := 105) h27I h35E rfl rfl 3 : pw_g h35 105 3 = pw_g h27 105 3)).trans (pw_Eg (c := 105) I h27E rfl rfl 3 : pw_g h27 105 3 = pw_g h 105 3)⟩ ⟨((pw_Eg (c := 110) h27I h35E rfl rfl 2 : pw_g h35 110 2 = pw_g h27 110 2)).trans (pw_Eg (c := 110) I h27E rfl rfl 2 : pw_g h27 110 2 = pw_g h 110 2), ((pw_Eg (c := 110) h27I h35E rfl rfl 3 : pw_g h35 110 3 = pw_g h27 110 3)).trans (pw_Eg (c := 110) I h27E rfl rfl 3 : pw_g h27 110 3 = pw_g h 110 3)⟩ ⟨((pw_Eg (c := 115) h27I h35E rfl rfl 2 : pw_g h35 115 2 = pw_g h27 115 2)).trans (pw_Eg (c := 115) I h27E rfl rfl 2 : pw_g h27 115 2 = pw_g h 115 2), ((pw_Eg (c := 115) h27I h35E rfl rfl 3 : pw_g h35 115 3 = pw_g h27 115 3)).trans (pw_Eg (c := 115) I h27E rfl rfl 3 : pw_g h27 115 3 = pw_g h 115 3)⟩ ⟨((pw_Eg (c := 120) h27I h35E rfl rfl 2 : pw_g h35 120 2 = pw_g h27 120 2)).trans (pw_Eg (c := 120) I h27E rfl rfl 2 : pw_g h27 120 2 = pw_g h 120 2), ((pw_Eg (c := 120) h27I h35E rfl rfl 3 : pw_g h35 120 3 = pw_g h27 120 3)).trans (pw_Eg (c := 120) I h27E rfl rfl 3 : pw_g h27 120 3 = pw_g h 120 3)⟩)⟩))
                    | (exfalso; omega)
                  · first
                    | exact Or.inr (Or.inr (Or.inr ⟨by omega, by omega, by omega, (by show pw_g h 115 3 ≠ 0; omega), (by show pw_g h 115 2 ≤ pw_g h 100 3; omega), rfl, (by show pw_g h35 100 3 = pw_g h 115 2; omega), (pw_i4 ⟨((pw_Eg (c := 105) h27I h35E rfl rfl 2 : pw_g h35 105 2 = pw_g h27 105 2)).trans (pw_Eg (c := 105) I h27E rfl rfl 2 : pw_g h27 105 2 = pw_g h 105 2), ((pw_Eg (c := 105) h27I h35E rfl rfl 3 : pw_g h35 105 3 = pw_g h27 105 3)).trans (pw_Eg (c := 105) I h27E rfl rfl 3 : pw_g h27 105 3 = pw_g h 105 3)⟩ ⟨((pw_Eg (c := 110) h27I h35E rfl rfl 2 : pw_g h35 110 2 = pw_g h27 110 2)).trans (pw_Eg (c := 110) I h27E rfl rfl 2 : pw_g h27 110 2 = pw_g h 110 2), ((pw_Eg (c := 110) h27I h35E rfl rfl 3 : pw_g h35 110 3 = pw_g h27 110 3)).trans (pw_Eg (c := 110) I h27E rfl rfl 3 : pw_g h27 110 3 = pw_g h 110 3)⟩ ⟨((pw_Eg (c := 115) h27I h35E rfl rfl 2 : pw_g h35 115 2 = pw_g h27 115 2)).trans (pw_Eg (c := 115) I h27E rfl rfl 2 : pw_g h27 115 2 = pw_g h 115 2), ((pw_Eg (c := 115) h27I h35E rfl rfl 3 : pw_g h35 115 3 = pw_g h27 115 3)).trans (pw_Eg (c := 115) I h27E rfl rfl 3 : pw_g h27 115 3 = pw_g h 115 3)⟩ ⟨((pw_Eg (c := 120) h27I h35E rfl rfl 2 : pw_g h35 120 2 = pw_g h27 120 2)).trans (pw_Eg (c := 120) I h27E rfl rfl 2 : pw_g h27 120 2 = pw_g h 120 2), ((pw_Eg (c := 120) h27I h35E rfl rfl 3 : pw_g h35 120 3 = pw_g h27 120 3)).trans (pw_Eg (c := 120) I h27E rfl rfl 3 : pw_g h27 120 3 = pw_g h 120 3)⟩)⟩))
                    | (exfalso; omega)
                  · first
                    | exact Or.inr (Or.inr (Or.inr ⟨by omega, by omega, by omega, (by show pw_g h 120 3 ≠ 0; omega), (by show pw_g h 120 2 ≤ pw_g h 100 3; omega), rfl, (by show pw_g h35 100 3 = pw_g h 120 2; omega), (pw_i4 ⟨((pw_Eg (c := 105) h27I h35E rfl rfl 2 : pw_g h35 105 2 = pw_g h27 105 2)).trans (pw_Eg (c := 105) I h27E rfl rfl 2 : pw_g h27 105 2 = pw_g h 105 2), ((pw_Eg (c := 105) h27I h35E rfl rfl 3 : pw_g h35 105 3 = pw_g h27 105 3)).trans (pw_Eg (c := 105) I h27E rfl rfl 3 : pw_g h27 105 3 = pw_g h 105 3)⟩ ⟨((pw_Eg (c := 110) h27I h35E rfl rfl 2 : pw_g h35 110 2 = pw_g h27 110 2)).trans (pw_Eg (c := 110) I h27E rfl rfl 2 : pw_g h27 110 2 = pw_g h 110 2), ((pw_Eg (c := 110) h27I h35E rfl rfl 3 : pw_g h35 110 3 = pw_g h27 110 3)).trans (pw_Eg (c := 110) I h27E rfl rfl 3 : pw_g h27 110 3 = pw_g h 110 3)⟩ ⟨((pw_Eg (c := 115) h27I h35E rfl rfl 2 : pw_g h35 115 2 = pw_g h27 115 2)).trans (pw_Eg (c := 115) I h27E rfl rfl 2 : pw_g h27 115 2 = pw_g h 115 2), ((pw_Eg (c := 115) h27I h35E rfl rfl 3 : pw_g h35 115 3 = pw_g h27 115 3)).trans (pw_Eg (c := 115) I h27E rfl rfl 3 : pw_g h27 115 3 = pw_g h 115 3)⟩ ⟨((pw_Eg (c := 120) h27I h35E rfl rfl 2 : pw_g h35 120 2 = pw_g h27 120 2)).trans (pw_Eg (c := 120) I h27E rfl rfl 2 : pw_g h27 120 2 = pw_g h 120 2), ((pw_Eg (c := 120) h27I h35E rfl rfl 3 : pw_g h35 120 3 = pw_g h27 120 3)).trans (pw_Eg (c := 120) I h27E rfl rfl 3 : pw_g h27 120 3 = pw_g h 120 3)⟩)⟩))
                    | (exfalso; omega)
                have hl37 : ∀ j : Nat, pw_g h35 11 j = pw_g h27 11 j := fun j => (pw_Eg (c := 11) h27I h35E rfl rfl j : pw_g h35 11 j = pw_g h27 11 j)
                have hl38 : ∀ j : Nat, pw_g h35 13 j = pw_g h27 13 j := fun j => (pw_Eg (c := 13) h27I h35E rfl rfl j : pw_g h35 13 j = pw_g h27 13 j)
                have hl39 : ∀ j : Nat, pw_g h35 107 j = pw_g h 107 j := fun j => ((pw_Eg (c := 107) h27I h35E rfl rfl j : pw_g h35 107 j = pw_g h27 107 j)).trans (pw_Eg (c := 107) I h27E rfl rfl j : pw_g h27 107 j = pw_g h 107 j)
                have hl40 : ∀ j : Nat, pw_g h35 109 j = pw_g h 109 j := fun j => ((pw_Eg (c := 109) h27I h35E rfl rfl j : pw_g h35 109 j = pw_g h27 109 j)).trans (pw_Eg (c := 109) I h27E rfl rfl j : pw_g h27 109 j = pw_g h 109 j)
                have hl41 : ∀ j : Nat, pw_g h35 112 j = pw_g h 112 j := fun j => ((pw_Eg (c := 112) h27I h35E rfl rfl j : pw_g h35 112 j = pw_g h27 112 j)).trans (pw_Eg (c := 112) I h27E rfl rfl j : pw_g h27 112 j = pw_g h 112 j)
                have hl42 : ∀ j : Nat, pw_g h35 114 j = pw_g h 114 j := fun j => ((pw_Eg (c := 114) h27I h35E rfl rfl j : pw_g h35 114 j = pw_g h27 114 j)).trans (pw_Eg (c := 114) I h27E rfl rfl j : pw_g h27 114 j = pw_g h 114 j)
                have hl43 : ∀ j : Nat, pw_g h35 117 j = pw_g h 117 j := fun j => ((pw_Eg (c := 117) h27I h35E rfl rfl j : pw_g h35 117 j = pw_g h27 117 j)).trans (pw_Eg (c := 117) I h27E rfl rfl j : pw_g h27 117 j = pw_g h 117 j)
                have hl44 : ∀ j : Nat, pw_g h35 119 j = pw_g h 119 j := fun j => ((pw_Eg (c := 119) h27I h35E rfl rfl j : pw_g h35 119 j = pw_g h27 119 j)).trans (pw_Eg (c := 119) I h27E rfl rfl j : pw_g h27 119 j = pw_g h 119 j)
                have hl45 : ∀ j : Nat, pw_g h35 122 j = pw_g h 122 j := fun j => ((pw_Eg (c := 122) h27I h35E rfl rfl j : pw_g h35 122 j = pw_g h27 122 j)).trans (pw_Eg (c := 122) I h27E rfl rfl j : pw_g h27 122 j = pw_g h 122 j)
                have hl46 : ∀ j : Nat, pw_g h35 124 j = pw_g h 124 j := fun j => ((pw_Eg (c := 124) h27I h35E rfl rfl j : pw_g h35 124 j = pw_g h27 124 j)).trans (pw_Eg (c := 124) I h27E rfl rfl j : pw_g h27 124 j = pw_g h 124 j)
                have hLT : pw_LT h h35 mk z 1 := Or.inr (Or.inr ⟨rfl, by omega, (by
                      have hmj : mk.toNat = 0 := by omega
                      rw [hmj]; exact fun j => ⟨(hl37 j).trans (hqback.1 j), (hl38 j).trans (hqback.2 j)⟩), pw_i4 ⟨hl39, hl40⟩ ⟨hl41, hl42⟩ ⟨hl43, hl44⟩ ⟨hl45, hl46⟩⟩)
                exact ⟨h35I, h35F, ⟨_, rfl, by omega, by omega, hM, hLT⟩⟩
              · intro hc47
                change ¬ (x23 ≤ x18) at hc47
                refine pw_ld E (pc' := 73) (st' := [pw_i 0]) rfl (fun _ => rfl) ?_
                refine pw_zret E rfl (by omega) ?_
                have hsame : ∀ i : Nat, i < 4 → pw_om h i = pw_om h i ∧ pw_lm h i = pw_lm h i := fun _ _ => ⟨rfl, rfl⟩
                have hM : pw_MT (pw_g h 100 3) (pw_g h 100 3) (pw_om h) (pw_lm h) (pw_om h) (pw_lm h) mk z 0 := by
                  rcases (by omega : ¬ (0 ≤ mk ∧ mk ≤ 3) ∨ mk = 0 ∨ mk = 1 ∨ mk = 2 ∨ mk = 3) with hq | rfl | rfl | rfl | rfl
                  · exact Or.inl ⟨hq, rfl, rfl, hsame⟩
                  · exact Or.inr (Or.inr (Or.inl ⟨by omega, by omega, by omega, (by show pw_g h 105 3 = 0 ∨ pw_g h 100 3 < pw_g h 105 2; omega), rfl, rfl, hsame⟩))
                  · exact Or.inr (Or.inr (Or.inl ⟨by omega, by omega, by omega, (by show pw_g h 110 3 = 0 ∨ pw_g h 100 3 < pw_g h 110 2; omega), rfl, rfl, hsame⟩))
                  · exact Or.inr (Or.inr (Or.inl ⟨by omega, by omega, by omega, (by show pw_g h 115 3 = 0 ∨ pw_g h 100 3 < pw_g h 115 2; omega), rfl, rfl, hsame⟩))
                  · exact Or.inr (Or.inr (Or.inl ⟨by omega, by omega, by omega, (by show pw_g h 120 3 = 0 ∨ pw_g h 100 3 < pw_g h 120 2; omega), rfl, rfl, hsame⟩))
                have hLT : pw_LT h h mk z 0 := Or.inl ⟨rfl, fun _ => rfl, fun _ => rfl, fun _ _ => ⟨fun _ => rfl, fun _ => rfl⟩⟩
                exact ⟨I, E0, ⟨_, rfl, by omega, by omega, hM, hLT⟩⟩
          · skip
            refine pw_if E (pc' := 72) rfl (by decide) (by omega) (by omega) ?_ ?_
            · intro hc49
              change x11 = (0 : Int) at hc49
              refine pw_ld E (pc' := 73) (st' := [pw_i 0]) rfl (fun _ => rfl) ?_
              refine pw_zret E rfl (by omega) ?_
              have hsame : ∀ i : Nat, i < 4 → pw_om h i = pw_om h i ∧ pw_lm h i = pw_lm h i := fun _ _ => ⟨rfl, rfl⟩
              have hM : pw_MT (pw_g h 100 3) (pw_g h 100 3) (pw_om h) (pw_lm h) (pw_om h) (pw_lm h) mk z 0 := by
                rcases (by omega : ¬ (0 ≤ mk ∧ mk ≤ 3) ∨ mk = 0 ∨ mk = 1 ∨ mk = 2 ∨ mk = 3) with hq | rfl | rfl | rfl | rfl
                · exact Or.inl ⟨hq, rfl, rfl, hsame⟩
                · exact Or.inr (Or.inr (Or.inl ⟨by omega, by omega, by omega, (by show pw_g h 105 3 = 0 ∨ pw_g h 100 3 < pw_g h 105 2; omega), rfl, rfl, hsame⟩))
                · exact Or.inr (Or.inr (Or.inl ⟨by omega, by omega, by omega, (by show pw_g h 110 3 = 0 ∨ pw_g h 100 3 < pw_g h 110 2; omega), rfl, rfl, hsame⟩))
                · exact Or.inr (Or.inr (Or.inl ⟨by omega, by omega, by omega, (by show pw_g h 115 3 = 0 ∨ pw_g h 100 3 < pw_g h 115 2; omega), rfl, rfl, hsame⟩))
                · exact Or.inr (Or.inr (Or.inl ⟨by omega, by omega, by omega, (by show pw_g h 120 3 = 0 ∨ pw_g h 100 3 < pw_g h 120 2; omega), rfl, rfl, hsame⟩))
              have hLT : pw_LT h h mk z 0 := Or.inl ⟨rfl, fun _ => rfl, fun _ => rfl, fun _ _ => ⟨fun _ => rfl, fun _ => rfl⟩⟩
              exact ⟨I, E0, ⟨_, rfl, by omega, by omega, hM, hLT⟩⟩
            · intro hc50
              change ¬ (x11 = (0 : Int)) at hc50
              exfalso; omega
        · refine pw_aald (b := 126) I E (c := 104) (pc' := 47) rfl rfl (by decide) rfl (by decide) (by omega) (by omega) (by rw [hj7]; rfl) rfl ?_
          obtain ⟨f51l, f51h, -⟩ := pw_obj (c := 110) I rfl
          refine pw_call (m' := 32) (As := [.ref 126]) (rest := []) (ls'' := [some (.ref 126)]) (Nat.le_trans (by decide) hd) E rfl (fun _ => pw_iV rfl rfl rfl rfl (pw_cellI f51h rfl)) (rfl : pm_ent 32 = some (1, 1, 3, 1, pmc_32)) rfl rfl (cm_32_110m (pw_dp hd (by decide)) I ) ?_
          rintro u53 v52 ⟨rfl, x54, rfl, hx54a, hx54b, hx54r⟩
          refine ⟨_, rfl, ?_⟩
          show pw X d h 167 50 [some (.ref 16), some (pw_i mk), some (pw_i z)] [pw_i x54] _
          change x54 = pw_g h 110 3 at hx54r
          rcases (by omega : x54 = 1 ∨ x54 = 0) with hb55 | hb55
          · skip
            refine pw_if E (pc' := 72) rfl (by decide) (by omega) (by omega) ?_ ?_
            · intro hc56
              change x54 = (0 : Int) at hc56
              exfalso; omega
            · intro hc57
              change ¬ (x54 = (0 : Int)) at hc57
              refine pw_ld E (pc' := 54) (st' := [.ref 16]) rfl (fun _ => rfl) ?_
              refine pw_getR (b := 116) I E (c := 0) (k := 18) (pc' := 57) rfl rfl rfl rfl rfl rfl rfl ?_
              obtain ⟨f58l, f58h, -⟩ := pw_obj (c := 100) I rfl
              refine pw_call (m' := 40) (As := [.ref 116]) (rest := []) (ls'' := [some (.ref 116)]) (Nat.le_trans (by decide) hd) E rfl (fun _ => pw_iV rfl rfl rfl rfl (pw_cellI f58h rfl)) (rfl : pm_ent 40 = some (1, 1, 4, 0, pmc_40)) rfl rfl (cm_40_m (pw_dp hd (by decide)) I ) ?_
              rintro u60 v59 ⟨rfl, x61, rfl, hx61a, hx61b, hx61r⟩
              refine ⟨_, rfl, ?_⟩
              show pw X d h 167 60 [some (.ref 16), some (pw_i mk), some (pw_i z)] [pw_i x61] _
              change x61 = pw_g h 100 3 at hx61r
              refine pw_ld E (pc' := 61) (st' := [.ref 16, pw_i x61]) rfl (fun _ => rfl) ?_
              refine pw_getR (b := 120) I E (c := 0) (k := 19) (pc' := 64) rfl rfl rfl rfl rfl rfl rfl ?_
              refine pw_ld E (pc' := 65) (st' := [pw_i mk, .ref 120, pw_i x61]) rfl (fun _ => rfl) ?_
              refine pw_aald (b := 126) I E (c := 104) (pc' := 66) rfl rfl (by decide) rfl (by decide) (by omega) (by omega) (by rw [hj7]; rfl) rfl ?_
              obtain ⟨f63l, f63h, -⟩ := pw_obj (c := 110) I rfl
              refine pw_call (m' := 33) (As := [.ref 126]) (rest := [pw_i x61]) (ls'' := [some (.ref 126)]) (Nat.le_trans (by decide) hd) E rfl (fun _ => pw_iV rfl rfl rfl rfl (pw_cellI f63h rfl)) (rfl : pm_ent 33 = some (1, 1, 3, 0, pmc_33)) rfl rfl (cm_33_110m (pw_dp hd (by decide)) I ) ?_
              rintro u65 v64 ⟨rfl, x66, rfl, hx66a, hx66b, hx66r⟩
              refine ⟨_, rfl, ?_⟩
              show pw X d h 167 69 [some (.ref 16), some (pw_i mk), some (pw_i z)] [pw_i x66, pw_i x61] _
              change x66 = pw_g h 110 2 at hx66r
              refine pw_if2 E (pc' := 74) rfl (by decide) (by omega) (by omega) (by omega) (by omega) ?_ ?_
              · intro hc67
                change x66 ≤ x61 at hc67
                refine pw_ld E (pc' := 75) (st' := [.ref 16]) rfl (fun _ => rfl) ?_
                refine pw_getR (b := 120) I E (c := 0) (k := 19) (pc' := 78) rfl rfl rfl rfl rfl rfl rfl ?_
                refine pw_ld E (pc' := 79) (st' := [pw_i mk, .ref 120]) rfl (fun _ => rfl) ?_
                refine pw_aald (b := 126) I E (c := 104) (pc' := 80) rfl rfl (by decide) rfl (by decide) (by omega) (by omega) (by rw [hj7]; rfl) rfl ?_
                refine pw_ld E (pc' := 81) (st' := [.ref 16, .ref 126]) rfl (fun _ => rfl) ?_
                refine pw_getR (b := 26) I E (c := 0) (k := 2) (pc' := 84) rfl rfl rfl rfl rfl rfl rfl ?_
                refine pw_ld E (pc' := 85) (st' := [.ref 16, .ref 26, .ref 126]) rfl (fun _ => rfl) ?_
                refine pw_getR (b := 28) I E (c := 0) (k := 3) (pc' := 88) rfl rfl rfl rfl rfl rfl rfl ?_
                obtain ⟨f69l, f69h, -⟩ := pw_obj (c := 110) I rfl
                refine pw_call (m' := 34) (As := [.ref 126, .ref 26, .ref 28]) (rest := []) (ls'' := [some (.ref 126), some (.ref 26), some (.ref 28)]) (Nat.le_trans (by decide) hd) E rfl (fun _ => pw_iV rfl rfl rfl rfl (pw_cellI f69h rfl)) (rfl : pm_ent 34 = some (3, 3, 3, 4, pmc_34)) rfl rfl (cm_34_110h (pw_dp hd (by decide)) I ) ?_
                rintro h70 v71 ⟨h70I, h70E, hqback, rfl⟩
                refine ⟨_, rfl, ?_⟩
                have h70F := E0.tr (h70E.wk (W' := [11, 13, 100, 105, 107, 109, 110, 112, 114, 115, 117, 119, 120, 122, 124]) (by first | rfl | simp))
                show pw X d h70 167 91 [some (.ref 16), some (pw_i mk), some (pw_i z)] [] _
                refine pw_ld E (pc' := 92) (st' := [.ref 16]) rfl (fun _ => rfl) ?_
                refine pw_getR (b := 116) h70I E (c := 0) (k := 18) (pc' := 95) rfl rfl rfl rfl rfl rfl rfl ?_
                refine pw_ld E (pc' := 96) (st' := [.ref 16, .ref 116]) rfl (fun _ => rfl) ?_
                refine pw_getR (b := 120) h70I E (c := 0) (k := 19) (pc' := 99) rfl rfl rfl rfl rfl rfl rfl ?_
                refine pw_ld E (pc' := 100) (st' := [pw_i mk, .ref 120, .ref 116]) rfl (fun _ => rfl) ?_
                refine pw_aald (b := 126) h70I E (c := 104) (pc' := 101) rfl rfl (by decide) rfl (by decide) (by omega) (by omega) (by rw [hj7]; rfl) rfl ?_
                obtain ⟨f73l, f73h, -⟩ := pw_obj (c := 110) h70I rfl
                refine pw_call (m' := 33) (As := [.ref 126]) (rest := [.ref 116]) (ls'' := [some (.ref 126)]) (Nat.le_trans (by decide) hd) E rfl (fun _ => pw_iV rfl rfl rfl rfl (pw_cellI f73h rfl)) (rfl : pm_ent 33 = some (1, 1, 3, 0, pmc_33)) rfl rfl (cm_33_110m (pw_dp hd (by decide)) h70I ) ?_
                rintro u75 v74 ⟨rfl, x76, rfl, hx76a, hx76b, hx76r⟩
                refine ⟨_, rfl, ?_⟩
                show pw X d h70 167 104 [some (.ref 16), some (pw_i mk), some (pw_i z)] [pw_i x76, .ref 116] _
                change x76 = pw_g h70 110 2 at hx76r
                obtain ⟨f77l, f77h, -⟩ := pw_obj (c := 100) h70I rfl
                refine pw_call (m' := 41) (As := [.ref 116, pw_i x76]) (rest := []) (ls'' := [some (.ref 116), some (pw_i x76)]) (Nat.le_trans (by decide) hd) E rfl (fun _ => pw_iV rfl rfl rfl rfl (pw_cellI f77h rfl)) (rfl : pm_ent 41 = some (2, 2, 4, 4, pmc_41)) rfl rfl (cm_41_m (pw_dp hd (by decide)) h70I (x76) (by omega) (by omega)) ?_
                rintro h78 v79 ⟨h78I, h78E, hqcutTo, rfl⟩
                refine ⟨_, rfl, ?_⟩
                have h78F := h70F.tr (h78E.wk (W' := [11, 13, 100, 105, 107, 109, 110, 112, 114, 115, 117, 119, 120, 122, 124]) (by first | rfl | simp))
                show pw X d h78 167 107 [some (.ref 16), some (pw_i mk), some (pw_i z)] [] _
                refine pw_ld E (pc' := 108) (st' := [pw_i 1]) rfl (fun _ => rfl) ?_
                refine pw_zret E rfl (by omega) ?_
                have hcc : pw_g h78 100 3 = min (pw_g h70 100 3) _ := hqcutTo
                have h100 : pw_g h70 100 3 = pw_g h 100 3 := (pw_Eg (c := 100) I h70E rfl rfl 3 : pw_g h70 100 3 = pw_g h 100 3)
                have hf0 : pw_g h70 105 2 = pw_g h 105 2 := (pw_Eg (c := 105) I h70E rfl rfl 2 : pw_g h70 105 2 = pw_g h 105 2)
                have hf1 : pw_g h70 110 2 = pw_g h 110 2 := (pw_Eg (c := 110) I h70E rfl rfl 2 : pw_g h70 110 2 = pw_g h 110 2)
                have hf2 : pw_g h70 115 2 = pw_g h 115 2 := (pw_Eg (c := 115) I h70E rfl rfl 2 : pw_g h70 115 2 = pw_g h 115 2)
                have hf3 : pw_g h70 120 2 = pw_g h 120 2 := (pw_Eg (c := 120) I h70E rfl rfl 2 : pw_g h70 120 2 = pw_g h 120 2)
                have hM : pw_MT (pw_g h 100 3) (pw_g h78 100 3) (pw_om h) (pw_lm h) (pw_om h78) (pw_lm h78) mk z 1 := by
                  rcases (by omega : mk = 0 ∨ mk = 1 ∨ mk = 2 ∨ mk = 3) with rfl | rfl | rfl | rfl
                  · first
                    | exact Or.inr (Or.inr (Or.inr ⟨by omega, by omega, by omega, (by show pw_g h 105 3 ≠ 0; omega), (by show pw_g h 105 2 ≤ pw_g h 100 3; omega), rfl, (by show pw_g h78 100 3 = pw_g h 105 2; omega), (pw_i4 ⟨((pw_Eg (c := 105) h70I h78E rfl rfl 2 : pw_g h78 105 2 = pw_g h70 105 2)).trans (pw_Eg (c := 105) I h70E rfl rfl 2 : pw_g h70 105 2 = pw_g h 105 2), ((pw_Eg (c := 105) h70I h78E rfl rfl 3 : pw_g h78 105 3 = pw_g h70 105 3)).trans (pw_Eg (c := 105) I h70E rfl rfl 3 : pw_g h70 105 3 = pw_g h 105 3)⟩ ⟨((pw_Eg (c := 110) h70I h78E rfl rfl 2 : pw_g h78 110 2 = pw_g h70 110 2)).trans (pw_Eg (c := 110) I h70E rfl rfl 2 : pw_g h70 110 2 = pw_g h 110 2), ((pw_Eg (c := 110) h70I h78E rfl rfl 3 : pw_g h78 110 3 = pw_g h70 110 3)).trans (pw_Eg (c := 110) I h70E rfl rfl 3 : pw_g h70 110 3 = pw_g h 110 3)⟩ ⟨((pw_Eg (c := 115) h70I h78E rfl rfl 2 : pw_g h78 115 2 = pw_g h70 115 2)).trans (pw_Eg (c := 115) I h70E rfl rfl 2 : pw_g h70 115 2 = pw_g h 115 2), ((pw_Eg (c := 115) h70I h78E rfl rfl 3 : pw_g h78 115 3 = pw_g h70 115 3)).trans (pw_Eg (c := 115) I h70E rfl rfl 3 : pw_g h70 115 3 = pw_g h 115 3)⟩ ⟨((pw_Eg (c := 120) h70I h78E rfl rfl 2 : pw_g h78 120 2 = pw_g h70 120 2)).trans (pw_Eg (c := 120) I h70E rfl rfl 2 : pw_g h70 120 2 = pw_g h 120 2), ((pw_Eg (c := 120) h70I h78E rfl rfl 3 : pw_g h78 120 3 = pw_g h70 120 3)).trans (pw_Eg (c := 120) I h70E rfl rfl 3 : pw_g h70 120 3 = pw_g h 120 3)⟩)⟩))
                    | (exfalso; omega)
                  · first
                    | exact Or.inr (Or.inr (Or.inr ⟨by omega, by omega, by omega, (by show pw_g h 110 3 ≠ 0; omega), (by show pw_g h 110 2 ≤ pw_g h 100 3; omega), rfl, (by show pw_g h78 100 3 = pw_g h 110 2; omega), (pw_i4 ⟨((pw_Eg (c := 105) h70I h78E rfl rfl 2 : pw_g h78 105 2 = pw_g h70 105 2)).trans (pw_Eg (c := 105) I h70E rfl rfl 2 : pw_g h70 105 2 = pw_g h 105 2), ((pw_Eg (c := 105) h70I h78E rfl rfl 3 : pw_g h78 105 3 = pw_g h70 105 3)).trans (pw_Eg (c := 105) I h70E rfl rfl 3 : pw_g h70 105 3 = pw_g h 105 3)⟩ ⟨((pw_Eg (c := 110) h70I h78E rfl rfl 2 : pw_g h78 110 2 = pw_g h70 110 2)).trans (pw_Eg (c := 110) I h70E rfl rfl 2 : pw_g h70 110 2 = pw_g h 110 2), ((pw_Eg (c := 110) h70I h78E rfl rfl 3 : pw_g h78 110 3 = pw_g h70 110 3)).trans (pw_Eg (c := 110) I h70E rfl rfl 3 : pw_g h70 110 3 = pw_g h 110 3)⟩ ⟨((pw_Eg (c := 115) h70I h78E rfl rfl 2 : pw_g h78 115 2 = pw_g h70 115 2)).trans (pw_Eg (c := 115) I h70E rfl rfl 2 : pw_g h70 115 2 = pw_g h 115 2), ((pw_Eg (c := 115) h70I h78E rfl rfl 3 : pw_g h78 115 3 = pw_g h70 115 3)).trans (pw_Eg (c := 115) I h70E rfl rfl 3 : pw_g h70 115 3 = pw_g h 115 3)⟩ ⟨((pw_Eg (c := 120) h70I h78E rfl rfl 2 : pw_g h78 120 2 = pw_g h70 120 2)).trans (pw_Eg (c := 120) I h70E rfl rfl 2 : pw_g h70 120 2 = pw_g h 120 2), ((pw_Eg (c := 120) h70I h78E rfl rfl 3 : pw_g h78 120 3 = pw_g h70 120 3)).trans (pw_Eg (c := 120) I h70E rfl rfl 3 : pw_g h70 120 3 = pw_g h 120 3)⟩)⟩))
                    | (exfalso; omega)
                  · first
                    | exact Or.inr (Or.inr (Or.inr ⟨by omega, by omega, by omega, (by show pw_g h 115 3 ≠ 0; omega), (by show pw_g h 115 2 ≤ pw_g h 100 3; omega), rfl, (by show pw_g h78 100 3 = pw_g h 115 2; omega), (pw_i4 ⟨((pw_Eg (c := 105) h70I h78E rfl rfl 2 : pw_g h78 105 2 = pw_g h70 105 2)).trans (pw_Eg (c := 105) I h70E rfl rfl 2 : pw_g h70 105 2 = pw_g h 105 2), ((pw_Eg (c := 105) h70I h78E rfl rfl 3 : pw_g h78 105 3 = pw_g h70 105 3)).trans (pw_Eg (c := 105) I h70E rfl rfl 3 : pw_g h70 105 3 = pw_g h 105 3)⟩ ⟨((pw_Eg (c := 110) h70I h78E rfl rfl 2 : pw_g h78 110 2 = pw_g h70 110 2)).trans (pw_Eg (c := 110) I h70E rfl rfl 2 : pw_g h70 110 2 = pw_g h 110 2), ((pw_Eg (c := 110) h70I h78E rfl rfl 3 : pw_g h78 110 3 = pw_g h70 110 3)).trans (pw_Eg (c := 110) I h70E rfl rfl 3 : pw_g h70 110 3 = pw_g h 110 3)⟩ ⟨((pw_Eg (c := 115) h70I h78E rfl rfl 2 : pw_g h78 115 2 = pw_g h70 115 2)).trans (pw_Eg (c := 115) I h70E rfl rfl 2 : pw_g h70 115 2 = pw_g h 115 2), ((pw_Eg (c := 115) h70I h78E rfl rfl 3 : pw_g h78 115 3 = pw_g h70 115 3)).trans (pw_Eg (c := 115) I h70E rfl rfl 3 : pw_g h70 115 3 = pw_g h 115 3)⟩ ⟨((pw_Eg (c := 120) h70I h78E rfl rfl 2 : pw_g h78 120 2 = pw_g h70 120 2)).trans (pw_Eg (c := 120) I h70E rfl rfl 2 : pw_g h70 120 2 = pw_g h 120 2), ((pw_Eg (c := 120) h70I h78E rfl rfl 3 : pw_g h78 120 3 = pw_g h70 120 3)).trans (pw_Eg (c := 120) I h70E rfl rfl 3 : pw_g h70 120 3 = pw_g h 120 3)⟩)⟩))
                    | (exfalso; omega)
                  · first
                    | exact Or.inr (Or.inr (Or.inr ⟨by omega, by omega, by omega, (by show pw_g h 120 3 ≠ 0; omega), (by show pw_g h 120 2 ≤ pw_g h 100 3; omega), rfl, (by show pw_g h78 100 3 = pw_g h 120 2; omega), (pw_i4 ⟨((pw_Eg (c := 105) h70I h78E rfl rfl 2 : pw_g h78 105 2 = pw_g h70 105 2)).trans (pw_Eg (c := 105) I h70E rfl rfl 2 : pw_g h70 105 2 = pw_g h 105 2), ((pw_Eg (c := 105) h70I h78E rfl rfl 3 : pw_g h78 105 3 = pw_g h70 105 3)).trans (pw_Eg (c := 105) I h70E rfl rfl 3 : pw_g h70 105 3 = pw_g h 105 3)⟩ ⟨((pw_Eg (c := 110) h70I h78E rfl rfl 2 : pw_g h78 110 2 = pw_g h70 110 2)).trans (pw_Eg (c := 110) I h70E rfl rfl 2 : pw_g h70 110 2 = pw_g h 110 2), ((pw_Eg (c := 110) h70I h78E rfl rfl 3 : pw_g h78 110 3 = pw_g h70 110 3)).trans (pw_Eg (c := 110) I h70E rfl rfl 3 : pw_g h70 110 3 = pw_g h 110 3)⟩ ⟨((pw_Eg (c := 115) h70I h78E rfl rfl 2 : pw_g h78 115 2 = pw_g h70 115 2)).trans (pw_Eg (c := 115) I h70E rfl rfl 2 : pw_g h70 115 2 = pw_g h 115 2), ((pw_Eg (c := 115) h70I h78E rfl rfl 3 : pw_g h78 115 3 = pw_g h70 115 3)).trans (pw_Eg (c := 115) I h70E rfl rfl 3 : pw_g h70 115 3 = pw_g h 115 3)⟩ ⟨((pw_Eg (c := 120) h70I h78E rfl rfl 2 : pw_g h78 120 2 = pw_g h70 120 2)).trans (pw_Eg (c := 120) I h70E rfl rfl 2 : pw_g h70 120 2 = pw_g h 120 2), ((pw_Eg (c := 120) h70I h78E rfl rfl 3 : pw_g h78 120 3 = pw_g h70 120 3)).trans (pw_Eg (c := 120) I h70E rfl rfl 3 : pw_g h70 120 3 = pw_g h 120 3)⟩)⟩))
                    | (exfalso; omega)
                have hl80 : ∀ j : Nat, pw_g h78 11 j = pw_g h70 11 j := fun j => (pw_Eg (c := 11) h70I h78E rfl rfl j : pw_g h78 11 j = pw_g h70 11 j)
                have hl81 : ∀ j : Nat, pw_g h78 13 j = pw_g h70 13 j := fun j => (pw_Eg (c := 13) h70I h78E rfl rfl j : pw_g h78 13 j = pw_g h70 13 j)
                have hl82 : ∀ j : Nat, pw_g h78 107 j = pw_g h 107 j := fun j => ((pw_Eg (c := 107) h70I h78E rfl rfl j : pw_g h78 107 j = pw_g h70 107 j)).trans (pw_Eg (c := 107) I h70E rfl rfl j : pw_g h70 107 j = pw_g h 107 j)
                have hl83 : ∀ j : Nat, pw_g h78 109 j = pw_g h 109 j := fun j => ((pw_Eg (c := 109) h70I h78E rfl rfl j : pw_g h78 109 j = pw_g h70 109 j)).trans (pw_Eg (c := 109) I h70E rfl rfl j : pw_g h70 109 j = pw_g h 109 j)
                have hl84 : ∀ j : Nat, pw_g h78 112 j = pw_g h 112 j := fun j => ((pw_Eg (c := 112) h70I h78E rfl rfl j : pw_g h78 112 j = pw_g h70 112 j)).trans (pw_Eg (c := 112) I h70E rfl rfl j : pw_g h70 112 j = pw_g h 112 j)
                have hl85 : ∀ j : Nat, pw_g h78 114 j = pw_g h 114 j := fun j => ((pw_Eg (c := 114) h70I h78E rfl rfl j : pw_g h78 114 j = pw_g h70 114 j)).trans (pw_Eg (c := 114) I h70E rfl rfl j : pw_g h70 114 j = pw_g h 114 j)
                have hl86 : ∀ j : Nat, pw_g h78 117 j = pw_g h 117 j := fun j => ((pw_Eg (c := 117) h70I h78E rfl rfl j : pw_g h78 117 j = pw_g h70 117 j)).trans (pw_Eg (c := 117) I h70E rfl rfl j : pw_g h70 117 j = pw_g h 117 j)
                have hl87 : ∀ j : Nat, pw_g h78 119 j = pw_g h 119 j := fun j => ((pw_Eg (c := 119) h70I h78E rfl rfl j : pw_g h78 119 j = pw_g h70 119 j)).trans (pw_Eg (c := 119) I h70E rfl rfl j : pw_g h70 119 j = pw_g h 119 j)
                have hl88 : ∀ j : Nat, pw_g h78 122 j = pw_g h 122 j := fun j => ((pw_Eg (c := 122) h70I h78E rfl rfl j : pw_g h78 122 j = pw_g h70 122 j)).trans (pw_Eg (c := 122) I h70E rfl rfl j : pw_g h70 122 j = pw_g h 122 j)
                have hl89 : ∀ j : Nat, pw_g h78 124 j = pw_g h 124 j := fun j => ((pw_Eg (c := 124) h70I h78E rfl rfl j : pw_g h78 124 j = pw_g h70 124 j)).trans (pw_Eg (c := 124) I h70E rfl rfl j : pw_g h70 124 j = pw_g h 124 j)
                have hLT : pw_LT h h78 mk z 1 := Or.inr (Or.inr ⟨rfl, by omega, (by
                      have hmj : mk.toNat = 1 := by omega
                      rw [hmj]; exact fun j => ⟨(hl80 j).trans (hqback.1 j), (hl81 j).trans (hqback.2 j)⟩), pw_i4 ⟨hl82, hl83⟩ ⟨hl84, hl85⟩ ⟨hl86, hl87⟩ ⟨hl88, hl89⟩⟩)
                exact ⟨h78I, h78F, ⟨_, rfl, by omega, by omega, hM, hLT⟩⟩
              · intro hc90
                change ¬ (x66 ≤ x61) at hc90
                refine pw_ld E (pc' := 73) (st' := [pw_i 0]) rfl (fun _ => rfl) ?_
                refine pw_zret E rfl (by omega) ?_
                have hsame : ∀ i : Nat, i < 4 → pw_om h i = pw_om h i ∧ pw_lm h i = pw_lm h i := fun _ _ => ⟨rfl, rfl⟩
                have hM : pw_MT (pw_g h 100 3) (pw_g h 100 3) (pw_om h) (pw_lm h) (pw_om h) (pw_lm h) mk z 0 := by
                  rcases (by omega : ¬ (0 ≤ mk ∧ mk ≤ 3) ∨ mk = 0 ∨ mk = 1 ∨ mk = 2 ∨ mk = 3) with hq | rfl | rfl | rfl | rfl
                  · exact Or.inl ⟨hq, rfl, rfl, hsame⟩
                  · exact Or.inr (Or.inr (Or.inl ⟨by omega, by omega, by omega, (by show pw_g h 105 3 = 0 ∨ pw_g h 100 3 < pw_g h 105 2; omega), rfl, rfl, hsame⟩))
                  · exact Or.inr (Or.inr (Or.inl ⟨by omega, by omega, by omega, (by show pw_g h 110 3 = 0 ∨ pw_g h 100 3 < pw_g h 110 2; omega), rfl, rfl, hsame⟩))
                  · exact Or.inr (Or.inr (Or.inl ⟨by omega, by omega, by omega, (by show pw_g h 115 3 = 0 ∨ pw_g h 100 3 < pw_g h 115 2; omega), rfl, rfl, hsame⟩))
                  · exact Or.inr (Or.inr (Or.inl ⟨by omega, by omega, by omega, (by show pw_g h 120 3 = 0 ∨ pw_g h 100 3 < pw_g h 120 2; omega), rfl, rfl, hsame⟩))
                have hLT : pw_LT h h mk z 0 := Or.inl ⟨rfl, fun _ => rfl, fun _ => rfl, fun _ _ => ⟨fun _ => rfl, fun _ => rfl⟩⟩
                exact ⟨I, E0, ⟨_, rfl, by omega, by omega, hM, hLT⟩⟩
          · skip
            refine pw_if E (pc' := 72) rfl (by decide) (by omega) (by omega) ?_ ?_
            · intro hc92
              change x54 = (0 : Int) at hc92
              refine pw_ld E (pc' := 73) (st' := [pw_i 0]) rfl (fun _ => rfl) ?_
              refine pw_zret E rfl (by omega) ?_
              have hsame : ∀ i : Nat, i < 4 → pw_om h i = pw_om h i ∧ pw_lm h i = pw_lm h i := fun _ _ => ⟨rfl, rfl⟩
              have hM : pw_MT (pw_g h 100 3) (pw_g h 100 3) (pw_om h) (pw_lm h) (pw_om h) (pw_lm h) mk z 0 := by
                rcases (by omega : ¬ (0 ≤ mk ∧ mk ≤ 3) ∨ mk = 0 ∨ mk = 1 ∨ mk = 2 ∨ mk = 3) with hq | rfl | rfl | rfl | rfl
                · exact Or.inl ⟨hq, rfl, rfl, hsame⟩
                · exact Or.inr (Or.inr (Or.inl ⟨by omega, by omega, by omega, (by show pw_g h 105 3 = 0 ∨ pw_g h 100 3 < pw_g h 105 2; omega), rfl, rfl, hsame⟩))
                · exact Or.inr (Or.inr (Or.inl ⟨by omega, by omega, by omega, (by show pw_g h 110 3 = 0 ∨ pw_g h 100 3 < pw_g h 110 2; omega), rfl, rfl, hsame⟩))
                · exact Or.inr (Or.inr (Or.inl ⟨by omega, by omega, by omega, (by show pw_g h 115 3 = 0 ∨ pw_g h 100 3 < pw_g h 115 2; omega), rfl, rfl, hsame⟩))
                · exact Or.inr (Or.inr (Or.inl ⟨by omega, by omega, by omega, (by show pw_g h 120 3 = 0 ∨ pw_g h 100 3 < pw_g h 120 2; omega), rfl, rfl, hsame⟩))
              have hLT : pw_LT h h mk z 0 := Or.inl ⟨rfl, fun _ => rfl, fun _ => rfl, fun _ _ => ⟨fun _ => rfl, fun _ => rfl⟩⟩
              exact ⟨I, E0, ⟨_, rfl, by omega, by omega, hM, hLT⟩⟩
            · intro hc93
              change ¬ (x54 = (0 : Int)) at hc93
              exfalso; omega
        · refine pw_aald (b := 131) I E (c := 104) (pc' := 47) rfl rfl (by decide) rfl (by decide) (by omega) (by omega) (by rw [hj7]; rfl) rfl ?_
          obtain ⟨f94l, f94h, -⟩ := pw_obj (c := 115) I rfl
          refine pw_call (m' := 32) (As := [.ref 131]) (rest := []) (ls'' := [some (.ref 131)]) (Nat.le_trans (by decide) hd) E rfl (fun _ => pw_iV rfl rfl rfl rfl (pw_cellI f94h rfl)) (rfl : pm_ent 32 = some (1, 1, 3, 1, pmc_32)) rfl rfl (cm_32_115m (pw_dp hd (by decide)) I ) ?_
          rintro u96 v95 ⟨rfl, x97, rfl, hx97a, hx97b, hx97r⟩
          refine ⟨_, rfl, ?_⟩
          show pw X d h 167 50 [some (.ref 16), some (pw_i mk), some (pw_i z)] [pw_i x97] _
          change x97 = pw_g h 115 3 at hx97r
          rcases (by omega : x97 = 1 ∨ x97 = 0) with hb98 | hb98
          · skip
            refine pw_if E (pc' := 72) rfl (by decide) (by omega) (by omega) ?_ ?_
            · intro hc99
              change x97 = (0 : Int) at hc99
              exfalso; omega
            · intro hc100
              change ¬ (x97 = (0 : Int)) at hc100
              refine pw_ld E (pc' := 54) (st' := [.ref 16]) rfl (fun _ => rfl) ?_
              refine pw_getR (b := 116) I E (c := 0) (k := 18) (pc' := 57) rfl rfl rfl rfl rfl rfl rfl ?_
              obtain ⟨f101l, f101h, -⟩ := pw_obj (c := 100) I rfl
              refine pw_call (m' := 40) (As := [.ref 116]) (rest := []) (ls'' := [some (.ref 116)]) (Nat.le_trans (by decide) hd) E rfl (fun _ => pw_iV rfl rfl rfl rfl (pw_cellI f101h rfl)) (rfl : pm_ent 40 = some (1, 1, 4, 0, pmc_40)) rfl rfl (cm_40_m (pw_dp hd (by decide)) I ) ?_
              rintro u103 v102 ⟨rfl, x104, rfl, hx104a, hx104b, hx104r⟩
              refine ⟨_, rfl, ?_⟩
              show pw X d h 167 60 [some (.ref 16), some (pw_i mk), some (pw_i z)] [pw_i x104] _
              change x104 = pw_g h 100 3 at hx104r
              refine pw_ld E (pc' := 61) (st' := [.ref 16, pw_i x104]) rfl (fun _ => rfl) ?_
              refine pw_getR (b := 120) I E (c := 0) (k := 19) (pc' := 64) rfl rfl rfl rfl rfl rfl rfl ?_
              refine pw_ld E (pc' := 65) (st' := [pw_i mk, .ref 120, pw_i x104]) rfl (fun _ => rfl) ?_
              refine pw_aald (b := 131) I E (c := 104) (pc' := 66) rfl rfl (by decide) rfl (by decide) (by omega) (by omega) (by rw [hj7]; rfl) rfl ?_
              obtain ⟨f106l, f106h, -⟩ := pw_obj (c := 115) I rfl
              refine pw_call (m' := 33) (As := [.ref 131]) (rest := [pw_i x104]) (ls'' := [some (.ref 131)]) (Nat.le_trans (by decide) hd) E rfl (fun _ => pw_iV rfl rfl rfl rfl (pw_cellI f106h rfl)) (rfl : pm_ent 33 = some (1, 1, 3, 0, pmc_33)) rfl rfl (cm_33_115m (pw_dp hd (by decide)) I ) ?_
              rintro u108 v107 ⟨rfl, x109, rfl, hx109a, hx109b, hx109r⟩
              refine ⟨_, rfl, ?_⟩
              show pw X d h 167 69 [some (.ref 16), some (pw_i mk), some (pw_i z)] [pw_i x109, pw_i x104] _
              change x109 = pw_g h 115 2 at hx109r
              refine pw_if2 E (pc' := 74) rfl (by decide) (by omega) (by omega) (by omega) (by omega) ?_ ?_
              · intro hc110
                change x109 ≤ x104 at hc110
                refine pw_ld E (pc' := 75) (st' := [.ref 16]) rfl (fun _ => rfl) ?_
                refine pw_getR (b := 120) I E (c := 0) (k := 19) (pc' := 78) rfl rfl rfl rfl rfl rfl rfl ?_
                refine pw_ld E (pc' := 79) (st' := [pw_i mk, .ref 120]) rfl (fun _ => rfl) ?_
                refine pw_aald (b := 131) I E (c := 104) (pc' := 80) rfl rfl (by decide) rfl (by decide) (by omega) (by omega) (by rw [hj7]; rfl) rfl ?_
                refine pw_ld E (pc' := 81) (st' := [.ref 16, .ref 131]) rfl (fun _ => rfl) ?_
                refine pw_getR (b := 26) I E (c := 0) (k := 2) (pc' := 84) rfl rfl rfl rfl rfl rfl rfl ?_
                refine pw_ld E (pc' := 85) (st' := [.ref 16, .ref 26, .ref 131]) rfl (fun _ => rfl) ?_
                refine pw_getR (b := 28) I E (c := 0) (k := 3) (pc' := 88) rfl rfl rfl rfl rfl rfl rfl ?_
                obtain ⟨f112l, f112h, -⟩ := pw_obj (c := 115) I rfl
                refine pw_call (m' := 34) (As := [.ref 131, .ref 26, .ref 28]) (rest := []) (ls'' := [some (.ref 131), some (.ref 26), some (.ref 28)]) (Nat.le_trans (by decide) hd) E rfl (fun _ => pw_iV rfl rfl rfl rfl (pw_cellI f112h rfl)) (rfl : pm_ent 34 = some (3, 3, 3, 4, pmc_34)) rfl rfl (cm_34_115h (pw_dp hd (by decide)) I ) ?_
                rintro h113 v114 ⟨h113I, h113E, hqback, rfl⟩
                refine ⟨_, rfl, ?_⟩
                have h113F := E0.tr (h113E.wk (W' := [11, 13, 100, 105, 107, 109, 110, 112, 114, 115, 117, 119, 120, 122, 124]) (by first | rfl | simp))
                show pw X d h113 167 91 [some (.ref 16), some (pw_i mk), some (pw_i z)] [] _
                refine pw_ld E (pc' := 92) (st' := [.ref 16]) rfl (fun _ => rfl) ?_
                refine pw_getR (b := 116) h113I E (c := 0) (k := 18) (pc' := 95) rfl rfl rfl rfl rfl rfl rfl ?_
                refine pw_ld E (pc' := 96) (st' := [.ref 16, .ref 116]) rfl (fun _ => rfl) ?_
                refine pw_getR (b := 120) h113I E (c := 0) (k := 19) (pc' := 99) rfl rfl rfl rfl rfl rfl rfl ?_
                refine pw_ld E (pc' := 100) (st' := [pw_i mk, .ref 120, .ref 116]) rfl (fun _ => rfl) ?_
                refine pw_aald (b := 131) h113I E (c := 104) (pc' := 101) rfl rfl (by decide) rfl (by decide) (by omega) (by omega) (by rw [hj7]; rfl) rfl ?_
                obtain ⟨f116l, f116h, -⟩ := pw_obj (c := 115) h113I rfl
                refine pw_call (m' := 33) (As := [.ref 131]) (rest := [.ref 116]) (ls'' := [some (.ref 131)]) (Nat.le_trans (by decide) hd) E rfl (fun _ => pw_iV rfl rfl rfl rfl (pw_cellI f116h rfl)) (rfl : pm_ent 33 = some (1, 1, 3, 0, pmc_33)) rfl rfl (cm_33_115m (pw_dp hd (by decide)) h113I ) ?_
                rintro u118 v117 ⟨rfl, x119, rfl, hx119a, hx119b, hx119r⟩
                refine ⟨_, rfl, ?_⟩
                show pw X d h113 167 104 [some (.ref 16), some (pw_i mk), some (pw_i z)] [pw_i x119, .ref 116] _
                change x119 = pw_g h113 115 2 at hx119r
                obtain ⟨f120l, f120h, -⟩ := pw_obj (c := 100) h113I rfl
                refine pw_call (m' := 41) (As := [.ref 116, pw_i x119]) (rest := []) (ls'' := [some (.ref 116), some (pw_i x119)]) (Nat.le_trans (by decide) hd) E rfl (fun _ => pw_iV rfl rfl rfl rfl (pw_cellI f120h rfl)) (rfl : pm_ent 41 = some (2, 2, 4, 4, pmc_41)) rfl rfl (cm_41_m (pw_dp hd (by decide)) h113I (x119) (by omega) (by omega)) ?_
                rintro h121 v122 ⟨h121I, h121E, hqcutTo, rfl⟩
                refine ⟨_, rfl, ?_⟩
                have h121F := h113F.tr (h121E.wk (W' := [11, 13, 100, 105, 107, 109, 110, 112, 114, 115, 117, 119, 120, 122, 124]) (by first | rfl | simp))
                show pw X d h121 167 107 [some (.ref 16), some (pw_i mk), some (pw_i z)] [] _
                refine pw_ld E (pc' := 108) (st' := [pw_i 1]) rfl (fun _ => rfl) ?_
                refine pw_zret E rfl (by omega) ?_
                have hcc : pw_g h121 100 3 = min (pw_g h113 100 3) _ := hqcutTo
                have h100 : pw_g h113 100 3 = pw_g h 100 3 := (pw_Eg (c := 100) I h113E rfl rfl 3 : pw_g h113 100 3 = pw_g h 100 3)
                have hf0 : pw_g h113 105 2 = pw_g h 105 2 := (pw_Eg (c := 105) I h113E rfl rfl 2 : pw_g h113 105 2 = pw_g h 105 2)
                have hf1 : pw_g h113 110 2 = pw_g h 110 2 := (pw_Eg (c := 110) I h113E rfl rfl 2 : pw_g h113 110 2 = pw_g h 110 2)
                have hf2 : pw_g h113 115 2 = pw_g h 115 2 := (pw_Eg (c := 115) I h113E rfl rfl 2 : pw_g h113 115 2 = pw_g h 115 2)
                have hf3 : pw_g h113 120 2 = pw_g h 120 2 := (pw_Eg (c := 120) I h113E rfl rfl 2 : pw_g h113 120 2 = pw_g h 120 2)
                have hM : pw_MT (pw_g h 100 3) (pw_g h121 100 3) (pw_om h) (pw_lm h) (pw_om h121) (pw_lm h121) mk z 1 := by
                  rcases (by omega : mk = 0 ∨ mk = 1 ∨ mk = 2 ∨ mk = 3) with rfl | rfl | rfl | rfl
                  · first
                    | exact Or.inr (Or.inr (Or.inr ⟨by omega, by omega, by omega, (by show pw_g h 105 3 ≠ 0; omega), (by show pw_g h 105 2 ≤ pw_g h 100 3; omega), rfl, (by show pw_g h121 100 3 = pw_g h 105 2; omega), (pw_i4 ⟨((pw_Eg (c := 105) h113I h121E rfl rfl 2 : pw_g h121 105 2 = pw_g h113 105 2)).trans (pw_Eg (c := 105) I h113E rfl rfl 2 : pw_g h113 105 2 = pw_g h 105 2), ((pw_Eg (c := 105) h113I h121E rfl rfl 3 : pw_g h121 105 3 = pw_g h113 105 3)).trans (pw_Eg (c := 105) I h113E rfl rfl 3 : pw_g h113 105 3 = pw_g h 105 3)⟩ ⟨((pw_Eg (c := 110) h113I h121E rfl rfl 2 : pw_g h121 110 2 = pw_g h113 110 2)).trans (pw_Eg (c := 110) I h113E rfl rfl 2 : pw_g h113 110 2 = pw_g h 110 2), ((pw_Eg (c := 110) h113I h121E rfl rfl 3 : pw_g h121 110 3 = pw_g h113 110 3)).trans (pw_Eg (c := 110) I h113E rfl rfl 3 : pw_g h113 110 3 = pw_g h 110 3)⟩ ⟨((pw_Eg (c := 115) h113I h121E rfl rfl 2 : pw_g h121 115 2 = pw_g h113 115 2)).trans (pw_Eg (c := 115) I h113E rfl rfl 2 : pw_g h113 115 2 = pw_g h 115 2), ((pw_Eg (c := 115) h113I h121E rfl rfl 3 : pw_g h121 115 3 = pw_g h113 115 3)).trans (pw_Eg (c := 115) I h113E rfl rfl 3 : pw_g h113 115 3 = pw_g h 115 3)⟩ ⟨((pw_Eg (c := 120) h113I h121E rfl rfl 2 : pw_g h121 120 2 = pw_g h113 120 2)).trans (pw_Eg (c := 120) I h113E rfl rfl 2 : pw_g h113 120 2 = pw_g h 120 2), ((pw_Eg (c := 120) h113I h121E rfl rfl 3 : pw_g h121 120 3 = pw_g h113 120 3)).trans (pw_Eg (c := 120) I h113E rfl rfl 3 : pw_g h113 120 3 = pw_g h 120 3)⟩)⟩))
                    | (exfalso; omega)
                  · first
                    | exact Or.inr (Or.inr (Or.inr ⟨by omega, by omega, by omega, (by show pw_g h 110 3 ≠ 0; omega), (by show pw_g h 110 2 ≤ pw_g h 100 3; omega), rfl, (by show pw_g h121 100 3 = pw_g h 110 2; omega), (pw_i4 ⟨((pw_Eg (c := 105) h113I h121E rfl rfl 2 : pw_g h121 105 2 = pw_g h113 105 2)).trans (pw_Eg (c := 105) I h113E rfl rfl 2 : pw_g h113 105 2 = pw_g h 105 2), ((pw_Eg (c := 105) h113I h121E rfl rfl 3 : pw_g h121 105 3 = pw_g h113 105 3)).trans (pw_Eg (c := 105) I h113E rfl rfl 3 : pw_g h113 105 3 = pw_g h 105 3)⟩ ⟨((pw_Eg (c := 110) h113I h121E rfl rfl 2 : pw_g h121 110 2 = pw_g h113 110 2)).trans (pw_Eg (c := 110) I h113E rfl rfl 2 : pw_g h113 110 2 = pw_g h 110 2), ((pw_Eg (c := 110) h113I h121E rfl rfl 3 : pw_g h121 110 3 = pw_g h113 110 3)).trans (pw_Eg (c := 110) I h113E rfl rfl 3 : pw_g h113 110 3 = pw_g h 110 3)⟩ ⟨((pw_Eg (c := 115) h113I h121E rfl rfl 2 : pw_g h121 115 2 = pw_g h113 115 2)).trans (pw_Eg (c := 115) I h113E rfl rfl 2 : pw_g h113 115 2 = pw_g h 115 2), ((pw_Eg (c := 115) h113I h121E rfl rfl 3 : pw_g h121 115 3 = pw_g h113 115 3)).trans (pw_Eg (c := 115) I h113E rfl rfl 3 : pw_g h113 115 3 = pw_g h 115 3)⟩ ⟨((pw_Eg (c := 120) h113I h121E rfl rfl 2 : pw_g h121 120 2 = pw_g h113 120 2)).trans (pw_Eg (c := 120) I h113E rfl rfl 2 : pw_g h113 120 2 = pw_g h 120 2), ((pw_Eg (c := 120) h113I h121E rfl rfl 3 : pw_g h121 120 3 = pw_g h113 120 3)).trans (pw_Eg (c := 120) I h113E rfl rfl 3 : pw_g h113 120 3 = pw_g h 120 3)⟩)⟩))
                    | (exfalso; omega)
                  · first
                    | exact Or.inr (Or.inr (Or.inr ⟨by omega, by omega, by omega, (by show pw_g h 115 3 ≠ 0; omega), (by show pw_g h 115 2 ≤ pw_g h 100 3; omega), rfl, (by show pw_g h121 100 3 = pw_g h 115 2; omega), (pw_i4 ⟨((pw_Eg (c := 105) h113I h121E rfl rfl 2 : pw_g h121 105 2 = pw_g h113 105 2)).trans (pw_Eg (c := 105) I h113E rfl rfl 2 : pw_g h113 105 2 = pw_g h 105 2), ((pw_Eg (c := 105) h113I h121E rfl rfl 3 : pw_g h121 105 3 = pw_g h113 105 3)).trans (pw_Eg (c := 105) I h113E rfl rfl 3 : pw_g h113 105 3 = pw_g h 105 3)⟩ ⟨((pw_Eg (c := 110) h113I h121E rfl rfl 2 : pw_g h121 110 2 = pw_g h113 110 2)).trans (pw_Eg (c := 110) I h113E rfl rfl 2 : pw_g h113 110 2 = pw_g h 110 2), ((pw_Eg (c := 110) h113I h121E rfl rfl 3 : pw_g h121 110 3 = pw_g h113 110 3)).trans (pw_Eg (c := 110) I h113E rfl rfl 3 : pw_g h113 110 3 = pw_g h 110 3)⟩ ⟨((pw_Eg (c := 115) h113I h121E rfl rfl 2 : pw_g h121 115 2 = pw_g h113 115 2)).trans (pw_Eg (c := 115) I h113E rfl rfl 2 : pw_g h113 115 2 = pw_g h 115 2), ((pw_Eg (c := 115) h113I h121E rfl rfl 3 : pw_g h121 115 3 = pw_g h113 115 3)).trans (pw_Eg (c := 115) I h113E rfl rfl 3 : pw_g h113 115 3 = pw_g h 115 3)⟩ ⟨((pw_Eg (c := 120) h113I h121E rfl rfl 2 : pw_g h121 120 2 = pw_g h113 120 2)).trans (pw_Eg (c := 120) I h113E rfl rfl 2 : pw_g h113 120 2 = pw_g h 120 2), ((pw_Eg (c := 120) h113I h121E rfl rfl 3 : pw_g h121 120 3 = pw_g h113 120 3)).trans (pw_Eg (c := 120) I h113E rfl rfl 3 : pw_g h113 120 3 = pw_g h 120 3)⟩)⟩))
                    | (exfalso; omega)
                  · first
                    | exact Or.inr (Or.inr (Or.inr ⟨by omega, by omega, by omega, (by show pw_g h 120 3 ≠ 0; omega), (by show pw_g h 120 2 ≤ pw_g h 100 3; omega), rfl, (by show pw_g h121 100 3 = pw_g h 120 2; omega), (pw_i4 ⟨((pw_Eg (c := 105) h113I h121E rfl rfl 2 : pw_g h121 105 2 = pw_g h113 105 2)).trans (pw_Eg (c := 105) I h113E rfl rfl 2 : pw_g h113 105 2 = pw_g h 105 2), ((pw_Eg (c := 105) h113I h121E rfl rfl 3 : pw_g h121 105 3 = pw_g h113 105 3)).trans (pw_Eg (c := 105) I h113E rfl rfl 3 : pw_g h113 105 3 = pw_g h 105 3)⟩ ⟨((pw_Eg (c := 110) h113I h121E rfl rfl 2 : pw_g h121 110 2 = pw_g h113 110 2)).trans (pw_Eg (c := 110) I h113E rfl rfl 2 : pw_g h113 110 2 = pw_g h 110 2), ((pw_Eg (c := 110) h113I h121E rfl rfl 3 : pw_g h121 110 3 = pw_g h113 110 3)).trans (pw_Eg (c := 110) I h113E rfl rfl 3 : pw_g h113 110 3 = pw_g h 110 3)⟩ ⟨((pw_Eg (c := 115) h113I h121E rfl rfl 2 : pw_g h121 115 2 = pw_g h113 115 2)).trans (pw_Eg (c := 115) I h113E rfl rfl 2 : pw_g h113 115 2 = pw_g h 115 2), ((pw_Eg (c := 115) h113I h121E rfl rfl 3 : pw_g h121 115 3 = pw_g h113 115 3)).trans (pw_Eg (c := 115) I h113E rfl rfl 3 : pw_g h113 115 3 = pw_g h 115 3)⟩ ⟨((pw_Eg (c := 120) h113I h121E rfl rfl 2 : pw_g h121 120 2 = pw_g h113 120 2)).trans (pw_Eg (c := 120) I h113E rfl rfl 2 : pw_g h113 120 2 = pw_g h 120 2), ((pw_Eg (c := 120) h113I h121E rfl rfl 3 : pw_g h121 120 3 = pw_g h113 120 3)).trans (pw_Eg (c := 120) I h113E rfl rfl 3 : pw_g h113 120 3 = pw_g h 120 3)⟩)⟩))
                    | (exfalso; omega)
                have hl123 : ∀ j : Nat, pw_g h121 11 j = pw_g h113 11 j := fun j => (pw_Eg (c := 11) h113I h121E rfl rfl j : pw_g h121 11 j = pw_g h113 11 j)
                have hl124 : ∀ j : Nat, pw_g h121 13 j = pw_g h113 13 j := fun j => (pw_Eg (c := 13) h113I h121E rfl rfl j : pw_g h121 13 j = pw_g h113 13 j)
                have hl125 : ∀ j : Nat, pw_g h121 107 j = pw_g h 107 j := fun j => ((pw_Eg (c := 107) h113I h121E rfl rfl j : pw_g h121 107 j = pw_g h113 107 j)).trans (pw_Eg (c := 107) I h113E rfl rfl j : pw_g h113 107 j = pw_g h 107 j)
                have hl126 : ∀ j : Nat, pw_g h121 109 j = pw_g h 109 j := fun j => ((pw_Eg (c := 109) h113I h121E rfl rfl j : pw_g h121 109 j = pw_g h113 109 j)).trans (pw_Eg (c := 109) I h113E rfl rfl j : pw_g h113 109 j = pw_g h 109 j)
                have hl127 : ∀ j : Nat, pw_g h121 112 j = pw_g h 112 j := fun j => ((pw_Eg (c := 112) h113I h121E rfl rfl j : pw_g h121 112 j = pw_g h113 112 j)).trans (pw_Eg (c := 112) I h113E rfl rfl j : pw_g h113 112 j = pw_g h 112 j)
                have hl128 : ∀ j : Nat, pw_g h121 114 j = pw_g h 114 j := fun j => ((pw_Eg (c := 114) h113I h121E rfl rfl j : pw_g h121 114 j = pw_g h113 114 j)).trans (pw_Eg (c := 114) I h113E rfl rfl j : pw_g h113 114 j = pw_g h 114 j)
                have hl129 : ∀ j : Nat, pw_g h121 117 j = pw_g h 117 j := fun j => ((pw_Eg (c := 117) h113I h121E rfl rfl j : pw_g h121 117 j = pw_g h113 117 j)).trans (pw_Eg (c := 117) I h113E rfl rfl j : pw_g h113 117 j = pw_g h 117 j)
                have hl130 : ∀ j : Nat, pw_g h121 119 j = pw_g h 119 j := fun j => ((pw_Eg (c := 119) h113I h121E rfl rfl j : pw_g h121 119 j = pw_g h113 119 j)).trans (pw_Eg (c := 119) I h113E rfl rfl j : pw_g h113 119 j = pw_g h 119 j)
                have hl131 : ∀ j : Nat, pw_g h121 122 j = pw_g h 122 j := fun j => ((pw_Eg (c := 122) h113I h121E rfl rfl j : pw_g h121 122 j = pw_g h113 122 j)).trans (pw_Eg (c := 122) I h113E rfl rfl j : pw_g h113 122 j = pw_g h 122 j)
                have hl132 : ∀ j : Nat, pw_g h121 124 j = pw_g h 124 j := fun j => ((pw_Eg (c := 124) h113I h121E rfl rfl j : pw_g h121 124 j = pw_g h113 124 j)).trans (pw_Eg (c := 124) I h113E rfl rfl j : pw_g h113 124 j = pw_g h 124 j)
                have hLT : pw_LT h h121 mk z 1 := Or.inr (Or.inr ⟨rfl, by omega, (by
                      have hmj : mk.toNat = 2 := by omega
                      rw [hmj]; exact fun j => ⟨(hl123 j).trans (hqback.1 j), (hl124 j).trans (hqback.2 j)⟩), pw_i4 ⟨hl125, hl126⟩ ⟨hl127, hl128⟩ ⟨hl129, hl130⟩ ⟨hl131, hl132⟩⟩)
                exact ⟨h121I, h121F, ⟨_, rfl, by omega, by omega, hM, hLT⟩⟩
              · intro hc133
                change ¬ (x109 ≤ x104) at hc133
                refine pw_ld E (pc' := 73) (st' := [pw_i 0]) rfl (fun _ => rfl) ?_
                refine pw_zret E rfl (by omega) ?_
                have hsame : ∀ i : Nat, i < 4 → pw_om h i = pw_om h i ∧ pw_lm h i = pw_lm h i := fun _ _ => ⟨rfl, rfl⟩
                have hM : pw_MT (pw_g h 100 3) (pw_g h 100 3) (pw_om h) (pw_lm h) (pw_om h) (pw_lm h) mk z 0 := by
                  rcases (by omega : ¬ (0 ≤ mk ∧ mk ≤ 3) ∨ mk = 0 ∨ mk = 1 ∨ mk = 2 ∨ mk = 3) with hq | rfl | rfl | rfl | rfl
                  · exact Or.inl ⟨hq, rfl, rfl, hsame⟩
                  · exact Or.inr (Or.inr (Or.inl ⟨by omega, by omega, by omega, (by show pw_g h 105 3 = 0 ∨ pw_g h 100 3 < pw_g h 105 2; omega), rfl, rfl, hsame⟩))
                  · exact Or.inr (Or.inr (Or.inl ⟨by omega, by omega, by omega, (by show pw_g h 110 3 = 0 ∨ pw_g h 100 3 < pw_g h 110 2; omega), rfl, rfl, hsame⟩))
                  · exact Or.inr (Or.inr (Or.inl ⟨by omega, by omega, by omega, (by show pw_g h 115 3 = 0 ∨ pw_g h 100 3 < pw_g h 115 2; omega), rfl, rfl, hsame⟩))
                  · exact Or.inr (Or.inr (Or.inl ⟨by omega, by omega, by omega, (by show pw_g h 120 3 = 0 ∨ pw_g h 100 3 < pw_g h 120 2; omega), rfl, rfl, hsame⟩))
                have hLT : pw_LT h h mk z 0 := Or.inl ⟨rfl, fun _ => rfl, fun _ => rfl, fun _ _ => ⟨fun _ => rfl, fun _ => rfl⟩⟩
                exact ⟨I, E0, ⟨_, rfl, by omega, by omega, hM, hLT⟩⟩
          · skip
            refine pw_if E (pc' := 72) rfl (by decide) (by omega) (by omega) ?_ ?_
            · intro hc135
              change x97 = (0 : Int) at hc135
              refine pw_ld E (pc' := 73) (st' := [pw_i 0]) rfl (fun _ => rfl) ?_
              refine pw_zret E rfl (by omega) ?_
              have hsame : ∀ i : Nat, i < 4 → pw_om h i = pw_om h i ∧ pw_lm h i = pw_lm h i := fun _ _ => ⟨rfl, rfl⟩
              have hM : pw_MT (pw_g h 100 3) (pw_g h 100 3) (pw_om h) (pw_lm h) (pw_om h) (pw_lm h) mk z 0 := by
                rcases (by omega : ¬ (0 ≤ mk ∧ mk ≤ 3) ∨ mk = 0 ∨ mk = 1 ∨ mk = 2 ∨ mk = 3) with hq | rfl | rfl | rfl | rfl
                · exact Or.inl ⟨hq, rfl, rfl, hsame⟩
                · exact Or.inr (Or.inr (Or.inl ⟨by omega, by omega, by omega, (by show pw_g h 105 3 = 0 ∨ pw_g h 100 3 < pw_g h 105 2; omega), rfl, rfl, hsame⟩))
                · exact Or.inr (Or.inr (Or.inl ⟨by omega, by omega, by omega, (by show pw_g h 110 3 = 0 ∨ pw_g h 100 3 < pw_g h 110 2; omega), rfl, rfl, hsame⟩))
                · exact Or.inr (Or.inr (Or.inl ⟨by omega, by omega, by omega, (by show pw_g h 115 3 = 0 ∨ pw_g h 100 3 < pw_g h 115 2; omega), rfl, rfl, hsame⟩))
                · exact Or.inr (Or.inr (Or.inl ⟨by omega, by omega, by omega, (by show pw_g h 120 3 = 0 ∨ pw_g h 100 3 < pw_g h 120 2; omega), rfl, rfl, hsame⟩))
              have hLT : pw_LT h h mk z 0 := Or.inl ⟨rfl, fun _ => rfl, fun _ => rfl, fun _ _ => ⟨fun _ => rfl, fun _ => rfl⟩⟩
              exact ⟨I, E0, ⟨_, rfl, by omega, by omega, hM, hLT⟩⟩
            · intro hc136
              change ¬ (x97 = (0 : Int)) at hc136
              exfalso; omega
        · refine pw_aald (b := 136) I E (c := 104) (pc' := 47) rfl rfl (by decide) rfl (by decide) (by omega) (by omega) (by rw [hj7]; rfl) rfl ?_
          obtain ⟨f137l, f137h, -⟩ := pw_obj (c := 120) I rfl
          refine pw_call (m' := 32) (As := [.ref 136]) (rest := []) (ls'' := [some (.ref 136)]) (Nat.le_trans (by decide) hd) E rfl (fun _ => pw_iV rfl rfl rfl rfl (pw_cellI f137h rfl)) (rfl : pm_ent 32 = some (1, 1, 3, 1, pmc_32)) rfl rfl (cm_32_120m (pw_dp hd (by decide)) I ) ?_
          rintro u139 v138 ⟨rfl, x140, rfl, hx140a, hx140b, hx140r⟩
          refine ⟨_, rfl, ?_⟩
          show pw X d h 167 50 [some (.ref 16), some (pw_i mk), some (pw_i z)] [pw_i x140] _
          change x140 = pw_g h 120 3 at hx140r
          rcases (by omega : x140 = 1 ∨ x140 = 0) with hb141 | hb141
          · skip
            refine pw_if E (pc' := 72) rfl (by decide) (by omega) (by omega) ?_ ?_
            · intro hc142
              change x140 = (0 : Int) at hc142
              exfalso; omega
            · intro hc143
              change ¬ (x140 = (0 : Int)) at hc143
              refine pw_ld E (pc' := 54) (st' := [.ref 16]) rfl (fun _ => rfl) ?_
              refine pw_getR (b := 116) I E (c := 0) (k := 18) (pc' := 57) rfl rfl rfl rfl rfl rfl rfl ?_
              obtain ⟨f144l, f144h, -⟩ := pw_obj (c := 100) I rfl
              refine pw_call (m' := 40) (As := [.ref 116]) (rest := []) (ls'' := [some (.ref 116)]) (Nat.le_trans (by decide) hd) E rfl (fun _ => pw_iV rfl rfl rfl rfl (pw_cellI f144h rfl)) (rfl : pm_ent 40 = some (1, 1, 4, 0, pmc_40)) rfl rfl (cm_40_m (pw_dp hd (by decide)) I ) ?_
              rintro u146 v145 ⟨rfl, x147, rfl, hx147a, hx147b, hx147r⟩
              refine ⟨_, rfl, ?_⟩
              show pw X d h 167 60 [some (.ref 16), some (pw_i mk), some (pw_i z)] [pw_i x147] _
              change x147 = pw_g h 100 3 at hx147r
              refine pw_ld E (pc' := 61) (st' := [.ref 16, pw_i x147]) rfl (fun _ => rfl) ?_
              refine pw_getR (b := 120) I E (c := 0) (k := 19) (pc' := 64) rfl rfl rfl rfl rfl rfl rfl ?_
              refine pw_ld E (pc' := 65) (st' := [pw_i mk, .ref 120, pw_i x147]) rfl (fun _ => rfl) ?_
              refine pw_aald (b := 136) I E (c := 104) (pc' := 66) rfl rfl (by decide) rfl (by decide) (by omega) (by omega) (by rw [hj7]; rfl) rfl ?_
              obtain ⟨f149l, f149h, -⟩ := pw_obj (c := 120) I rfl
              refine pw_call (m' := 33) (As := [.ref 136]) (rest := [pw_i x147]) (ls'' := [some (.ref 136)]) (Nat.le_trans (by decide) hd) E rfl (fun _ => pw_iV rfl rfl rfl rfl (pw_cellI f149h rfl)) (rfl : pm_ent 33 = some (1, 1, 3, 0, pmc_33)) rfl rfl (cm_33_120m (pw_dp hd (by decide)) I ) ?_
              rintro u151 v150 ⟨rfl, x152, rfl, hx152a, hx152b, hx152r⟩
              refine ⟨_, rfl, ?_⟩
              show pw X d h 167 69 [some (.ref 16), some (pw_i mk), some (pw_i z)] [pw_i x152, pw_i x147] _
              change x152 = pw_g h 120 2 at hx152r
              refine pw_if2 E (pc' := 74) rfl (by decide) (by omega) (by omega) (by omega) (by omega) ?_ ?_
              · intro hc153
                change x152 ≤ x147 at hc153
                refine pw_ld E (pc' := 75) (st' := [.ref 16]) rfl (fun _ => rfl) ?_
                refine pw_getR (b := 120) I E (c := 0) (k := 19) (pc' := 78) rfl rfl rfl rfl rfl rfl rfl ?_
                refine pw_ld E (pc' := 79) (st' := [pw_i mk, .ref 120]) rfl (fun _ => rfl) ?_
                refine pw_aald (b := 136) I E (c := 104) (pc' := 80) rfl rfl (by decide) rfl (by decide) (by omega) (by omega) (by rw [hj7]; rfl) rfl ?_
                refine pw_ld E (pc' := 81) (st' := [.ref 16, .ref 136]) rfl (fun _ => rfl) ?_
                refine pw_getR (b := 26) I E (c := 0) (k := 2) (pc' := 84) rfl rfl rfl rfl rfl rfl rfl ?_
                refine pw_ld E (pc' := 85) (st' := [.ref 16, .ref 26, .ref 136]) rfl (fun _ => rfl) ?_
                refine pw_getR (b := 28) I E (c := 0) (k := 3) (pc' := 88) rfl rfl rfl rfl rfl rfl rfl ?_
                obtain ⟨f155l, f155h, -⟩ := pw_obj (c := 120) I rfl
                refine pw_call (m' := 34) (As := [.ref 136, .ref 26, .ref 28]) (rest := []) (ls'' := [some (.ref 136), some (.ref 26), some (.ref 28)]) (Nat.le_trans (by decide) hd) E rfl (fun _ => pw_iV rfl rfl rfl rfl (pw_cellI f155h rfl)) (rfl : pm_ent 34 = some (3, 3, 3, 4, pmc_34)) rfl rfl (cm_34_120h (pw_dp hd (by decide)) I ) ?_
                rintro h156 v157 ⟨h156I, h156E, hqback, rfl⟩
                refine ⟨_, rfl, ?_⟩
                have h156F := E0.tr (h156E.wk (W' := [11, 13, 100, 105, 107, 109, 110, 112, 114, 115, 117, 119, 120, 122, 124]) (by first | rfl | simp))
                show pw X d h156 167 91 [some (.ref 16), some (pw_i mk), some (pw_i z)] [] _
                refine pw_ld E (pc' := 92) (st' := [.ref 16]) rfl (fun _ => rfl) ?_
                refine pw_getR (b := 116) h156I E (c := 0) (k := 18) (pc' := 95) rfl rfl rfl rfl rfl rfl rfl ?_
                refine pw_ld E (pc' := 96) (st' := [.ref 16, .ref 116]) rfl (fun _ => rfl) ?_
                refine pw_getR (b := 120) h156I E (c := 0) (k := 19) (pc' := 99) rfl rfl rfl rfl rfl rfl rfl ?_
                refine pw_ld E (pc' := 100) (st' := [pw_i mk, .ref 120, .ref 116]) rfl (fun _ => rfl) ?_
                refine pw_aald (b := 136) h156I E (c := 104) (pc' := 101) rfl rfl (by decide) rfl (by decide) (by omega) (by omega) (by rw [hj7]; rfl) rfl ?_
                obtain ⟨f159l, f159h, -⟩ := pw_obj (c := 120) h156I rfl
                refine pw_call (m' := 33) (As := [.ref 136]) (rest := [.ref 116]) (ls'' := [some (.ref 136)]) (Nat.le_trans (by decide) hd) E rfl (fun _ => pw_iV rfl rfl rfl rfl (pw_cellI f159h rfl)) (rfl : pm_ent 33 = some (1, 1, 3, 0, pmc_33)) rfl rfl (cm_33_120m (pw_dp hd (by decide)) h156I ) ?_
                rintro u161 v160 ⟨rfl, x162, rfl, hx162a, hx162b, hx162r⟩
                refine ⟨_, rfl, ?_⟩
                show pw X d h156 167 104 [some (.ref 16), some (pw_i mk), some (pw_i z)] [pw_i x162, .ref 116] _
                change x162 = pw_g h156 120 2 at hx162r
                obtain ⟨f163l, f163h, -⟩ := pw_obj (c := 100) h156I rfl
                refine pw_call (m' := 41) (As := [.ref 116, pw_i x162]) (rest := []) (ls'' := [some (.ref 116), some (pw_i x162)]) (Nat.le_trans (by decide) hd) E rfl (fun _ => pw_iV rfl rfl rfl rfl (pw_cellI f163h rfl)) (rfl : pm_ent 41 = some (2, 2, 4, 4, pmc_41)) rfl rfl (cm_41_m (pw_dp hd (by decide)) h156I (x162) (by omega) (by omega)) ?_
                rintro h164 v165 ⟨h164I, h164E, hqcutTo, rfl⟩
                refine ⟨_, rfl, ?_⟩
                have h164F := h156F.tr (h164E.wk (W' := [11, 13, 100, 105, 107, 109, 110, 112, 114, 115, 117, 119, 120, 122, 124]) (by first | rfl | simp))
                show pw X d h164 167 107 [some (.ref 16), some (pw_i mk), some (pw_i z)] [] _
                refine pw_ld E (pc' := 108) (st' := [pw_i 1]) rfl (fun _ => rfl) ?_
                refine pw_zret E rfl (by omega) ?_
                have hcc : pw_g h164 100 3 = min (pw_g h156 100 3) _ := hqcutTo
                have h100 : pw_g h156 100 3 = pw_g h 100 3 := (pw_Eg (c := 100) I h156E rfl rfl 3 : pw_g h156 100 3 = pw_g h 100 3)
                have hf0 : pw_g h156 105 2 = pw_g h 105 2 := (pw_Eg (c := 105) I h156E rfl rfl 2 : pw_g h156 105 2 = pw_g h 105 2)
                have hf1 : pw_g h156 110 2 = pw_g h 110 2 := (pw_Eg (c := 110) I h156E rfl rfl 2 : pw_g h156 110 2 = pw_g h 110 2)
                have hf2 : pw_g h156 115 2 = pw_g h 115 2 := (pw_Eg (c := 115) I h156E rfl rfl 2 : pw_g h156 115 2 = pw_g h 115 2)
                have hf3 : pw_g h156 120 2 = pw_g h 120 2 := (pw_Eg (c := 120) I h156E rfl rfl 2 : pw_g h156 120 2 = pw_g h 120 2)
                have hM : pw_MT (pw_g h 100 3) (pw_g h164 100 3) (pw_om h) (pw_lm h) (pw_om h164) (pw_lm h164) mk z 1 := by
                  rcases (by omega : mk = 0 ∨ mk = 1 ∨ mk = 2 ∨ mk = 3) with rfl | rfl | rfl | rfl
                  · first
                    | exact Or.inr (Or.inr (Or.inr ⟨by omega, by omega, by omega, (by show pw_g h 105 3 ≠ 0; omega), (by show pw_g h 105 2 ≤ pw_g h 100 3; omega), rfl, (by show pw_g h164 100 3 = pw_g h 105 2; omega), (pw_i4 ⟨((pw_Eg (c := 105) h156I h164E rfl rfl 2 : pw_g h164 105 2 = pw_g h156 105 2)).trans (pw_Eg (c := 105) I h156E rfl rfl 2 : pw_g h156 105 2 = pw_g h 105 2), ((pw_Eg (c := 105) h156I h164E rfl rfl 3 : pw_g h164 105 3 = pw_g h156 105 3)).trans (pw_Eg (c := 105) I h156E rfl rfl 3 : pw_g h156 105 3 = pw_g h 105 3)⟩ ⟨((pw_Eg (c := 110) h156I h164E rfl rfl 2 : pw_g h164 110 2 = pw_g h156 110 2)).trans (pw_Eg (c := 110) I h156E rfl rfl 2 : pw_g h156 110 2 = pw_g h 110 2), ((pw_Eg (c := 110) h156I h164E rfl rfl 3 : pw_g h164 110 3 = pw_g h156 110 3)).trans (pw_Eg (c := 110) I h156E rfl rfl 3 : pw_g h156 110 3 = pw_g h 110 3)⟩ ⟨((pw_Eg (c := 115) h156I h164E rfl rfl 2 : pw_g h164 115 2 = pw_g h156 115 2)).trans (pw_Eg (c := 115) I h156E rfl rfl 2 : pw_g h156 115 2 = pw_g h 115 2), ((pw_Eg (c := 115) h156I h164E rfl rfl 3 : pw_g h164 115 3 = pw_g h156 115 3)).trans (pw_Eg (c := 115) I h156E rfl rfl 3 : pw_g h156 115 3 = pw_g h 115 3)⟩ ⟨((pw_Eg (c := 120) h156I h164E rfl rfl 2 : pw_g h164 120 2 = pw_g h156 120 2)).trans (pw_Eg (c := 120) I h156E rfl rfl 2 : pw_g h156 120 2 = pw_g h 120 2), ((pw_Eg (c := 120) h156I h164E rfl rfl 3 : pw_g h164 120 3 = pw_g h156 120 3)).trans (pw_Eg (c := 120) I h156E rfl rfl 3 : pw_g h156 120 3 = pw_g h 120 3)⟩)⟩))
                    | (exfalso; omega)
                  · first
                    | exact Or.inr (Or.inr (Or.inr ⟨by omega, by omega, by omega, (by show pw_g h 110 3 ≠ 0; omega), (by show pw_g h 110 2 ≤ pw_g h 100 3; omega), rfl, (by show pw_g h164 100 3 = pw_g h 110 2; omega), (pw_i4 ⟨((pw_Eg (c := 105) h156I h164E rfl rfl 2 : pw_g h164 105 2 = pw_g h156 105 2)).trans (pw_Eg (c := 105) I h156E rfl rfl 2 : pw_g h156 105 2 = pw_g h 105 2), ((pw_Eg (c := 105) h156I h164E rfl rfl 3 : pw_g h164 105 3 = pw_g h156 105 3)).trans (pw_Eg (c := 105) I h156E rfl rfl 3 : pw_g h156 105 3 = pw_g h 105 3)⟩ ⟨((pw_Eg (c := 110) h156I h164E rfl rfl 2 : pw_g h164 110 2 = pw_g h156 110 2)).trans (pw_Eg (c := 110) I h156E rfl rfl 2 : pw_g h156 110 2 = pw_g h 110 2), ((pw_Eg (c := 110) h156I h164E rfl rfl 3 : pw_g h164 110 3 = pw_g h156 110 3)).trans (pw_Eg (c := 110) I h156E rfl rfl 3 : pw_g h156 110 3 = pw_g h 110 3)⟩ ⟨((pw_Eg (c := 115) h156I h164E rfl rfl 2 : pw_g h164 115 2 = pw_g h156 115 2)).trans (pw_Eg (c := 115) I h156E rfl rfl 2 : pw_g h156 115 2 = pw_g h 115 2), ((pw_Eg (c := 115) h156I h164E rfl rfl 3 : pw_g h164 115 3 = pw_g h156 115 3)).trans (pw_Eg (c := 115) I h156E rfl rfl 3 : pw_g h156 115 3 = pw_g h 115 3)⟩ ⟨((pw_Eg (c := 120) h156I h164E rfl rfl 2 : pw_g h164 120 2 = pw_g h156 120 2)).trans (pw_Eg (c := 120) I h156E rfl rfl 2 : pw_g h156 120 2 = pw_g h 120 2), ((pw_Eg (c := 120) h156I h164E rfl rfl 3 : pw_g h164 120 3 = pw_g h156 120 3)).trans (pw_Eg (c := 120) I h156E rfl rfl 3 : pw_g h156 120 3 = pw_g h 120 3)⟩)⟩))
                    | (exfalso; omega)
                  · first
                    | exact Or.inr (Or.inr (Or.inr ⟨by omega, by omega, by omega, (by show pw_g h 115 3 ≠ 0; omega), (by show pw_g h 115 2 ≤ pw_g h 100 3; omega), rfl, (by show pw_g h164 100 3 = pw_g h 115 2; omega), (pw_i4 ⟨((pw_Eg (c := 105) h156I h164E rfl rfl 2 : pw_g h164 105 2 = pw_g h156 105 2)).trans (pw_Eg (c := 105) I h156E rfl rfl 2 : pw_g h156 105 2 = pw_g h 105 2), ((pw_Eg (c := 105) h156I h164E rfl rfl 3 : pw_g h164 105 3 = pw_g h156 105 3)).trans (pw_Eg (c := 105) I h156E rfl rfl 3 : pw_g h156 105 3 = pw_g h 105 3)⟩ ⟨((pw_Eg (c := 110) h156I h164E rfl rfl 2 : pw_g h164 110 2 = pw_g h156 110 2)).trans (pw_Eg (c := 110) I h156E rfl rfl 2 : pw_g h156 110 2 = pw_g h 110 2), ((pw_Eg (c := 110) h156I h164E rfl rfl 3 : pw_g h164 110 3 = pw_g h156 110 3)).trans (pw_Eg (c := 110) I h156E rfl rfl 3 : pw_g h156 110 3 = pw_g h 110 3)⟩ ⟨((pw_Eg (c := 115) h156I h164E rfl rfl 2 : pw_g h164 115 2 = pw_g h156 115 2)).trans (pw_Eg (c := 115) I h156E rfl rfl 2 : pw_g h156 115 2 = pw_g h 115 2), ((pw_Eg (c := 115) h156I h164E rfl rfl 3 : pw_g h164 115 3 = pw_g h156 115 3)).trans (pw_Eg (c := 115) I h156E rfl rfl 3 : pw_g h156 115 3 = pw_g h 115 3)⟩ ⟨((pw_Eg (c := 120) h156I h164E rfl rfl 2 : pw_g h164 120 2 = pw_g h156 120 2)).trans (pw_Eg (c := 120) I h156E rfl rfl 2 : pw_g h156 120 2 = pw_g h 120 2), ((pw_Eg (c := 120) h156I h164E rfl rfl 3 : pw_g h164 120 3 = pw_g h156 120 3)).trans (pw_Eg (c := 120) I h156E rfl rfl 3 : pw_g h156 120 3 = pw_g h 120 3)⟩)⟩))
                    | (exfalso; omega)
                  · first
                    | exact Or.inr (Or.inr (Or.inr ⟨by omega, by omega, by omega, (by show pw_g h 120 3 ≠ 0; omega), (by show pw_g h 120 2 ≤ pw_g h 100 3; omega), rfl, (by show pw_g h164 100 3 = pw_g h 120 2; omega), (pw_i4 ⟨((pw_Eg (c := 105) h156I h164E rfl rfl 2 : pw_g h164 105 2 = pw_g h156 105 2)).trans (pw_Eg (c := 105) I h156E rfl rfl 2 : pw_g h156 105 2 = pw_g h 105 2), ((pw_Eg (c := 105) h156I h164E rfl rfl 3 : pw_g h164 105 3 = pw_g h156 105 3)).trans (pw_Eg (c := 105) I h156E rfl rfl 3 : pw_g h156 105 3 = pw_g h 105 3)⟩ ⟨((pw_Eg (c := 110) h156I h164E rfl rfl 2 : pw_g h164 110 2 = pw_g h156 110 2)).trans (pw_Eg (c := 110) I h156E rfl rfl 2 : pw_g h156 110 2 = pw_g h 110 2), ((pw_Eg (c := 110) h156I h164E rfl rfl 3 : pw_g h164 110 3 = pw_g h156 110 3)).trans (pw_Eg (c := 110) I h156E rfl rfl 3 : pw_g h156 110 3 = pw_g h 110 3)⟩ ⟨((pw_Eg (c := 115) h156I h164E rfl rfl 2 : pw_g h164 115 2 = pw_g h156 115 2)).trans (pw_Eg (c := 115) I h156E rfl rfl 2 : pw_g h156 115 2 = pw_g h 115 2), ((pw_Eg (c := 115) h156I h164E rfl rfl 3 : pw_g h164 115 3 = pw_g h156 115 3)).trans (pw_Eg (c := 115) I h156E rfl rfl 3 : pw_g h156 115 3 = pw_g h 115 3)⟩ ⟨((pw_Eg (c := 120) h156I h164E rfl rfl 2 : pw_g h164 120 2 = pw_g h156 120 2)).trans (pw_Eg (c := 120) I h156E rfl rfl 2 : pw_g h156 120 2 = pw_g h 120 2), ((pw_Eg (c := 120) h156I h164E rfl rfl 3 : pw_g h164 120 3 = pw_g h156 120 3)).trans (pw_Eg (c := 120) I h156E rfl rfl 3 : pw_g h156 120 3 = pw_g h 120 3)⟩)⟩))
                    | (exfalso; omega)
                have hl166 : ∀ j : Nat, pw_g h164 11 j = pw_g h156 11 j := fun j => (pw_Eg (c := 11) h156I h164E rfl rfl j : pw_g h164 11 j = pw_g h156 11 j)
                have hl167 : ∀ j : Nat, pw_g h164 13 j = pw_g h156 13 j := fun j => (pw_Eg (c := 13) h156I h164E rfl rfl j : pw_g h164 13 j = pw_g h156 13 j)
                have hl168 : ∀ j : Nat, pw_g h164 107 j = pw_g h 107 j := fun j => ((pw_Eg (c := 107) h156I h164E rfl rfl j : pw_g h164 107 j = pw_g h156 107 j)).trans (pw_Eg (c := 107) I h156E rfl rfl j : pw_g h156 107 j = pw_g h 107 j)
                have hl169 : ∀ j : Nat, pw_g h164 109 j = pw_g h 109 j := fun j => ((pw_Eg (c := 109) h156I h164E rfl rfl j : pw_g h164 109 j = pw_g h156 109 j)).trans (pw_Eg (c := 109) I h156E rfl rfl j : pw_g h156 109 j = pw_g h 109 j)
                have hl170 : ∀ j : Nat, pw_g h164 112 j = pw_g h 112 j := fun j => ((pw_Eg (c := 112) h156I h164E rfl rfl j : pw_g h164 112 j = pw_g h156 112 j)).trans (pw_Eg (c := 112) I h156E rfl rfl j : pw_g h156 112 j = pw_g h 112 j)
                have hl171 : ∀ j : Nat, pw_g h164 114 j = pw_g h 114 j := fun j => ((pw_Eg (c := 114) h156I h164E rfl rfl j : pw_g h164 114 j = pw_g h156 114 j)).trans (pw_Eg (c := 114) I h156E rfl rfl j : pw_g h156 114 j = pw_g h 114 j)
                have hl172 : ∀ j : Nat, pw_g h164 117 j = pw_g h 117 j := fun j => ((pw_Eg (c := 117) h156I h164E rfl rfl j : pw_g h164 117 j = pw_g h156 117 j)).trans (pw_Eg (c := 117) I h156E rfl rfl j : pw_g h156 117 j = pw_g h 117 j)
                have hl173 : ∀ j : Nat, pw_g h164 119 j = pw_g h 119 j := fun j => ((pw_Eg (c := 119) h156I h164E rfl rfl j : pw_g h164 119 j = pw_g h156 119 j)).trans (pw_Eg (c := 119) I h156E rfl rfl j : pw_g h156 119 j = pw_g h 119 j)
                have hl174 : ∀ j : Nat, pw_g h164 122 j = pw_g h 122 j := fun j => ((pw_Eg (c := 122) h156I h164E rfl rfl j : pw_g h164 122 j = pw_g h156 122 j)).trans (pw_Eg (c := 122) I h156E rfl rfl j : pw_g h156 122 j = pw_g h 122 j)
                have hl175 : ∀ j : Nat, pw_g h164 124 j = pw_g h 124 j := fun j => ((pw_Eg (c := 124) h156I h164E rfl rfl j : pw_g h164 124 j = pw_g h156 124 j)).trans (pw_Eg (c := 124) I h156E rfl rfl j : pw_g h156 124 j = pw_g h 124 j)
                have hLT : pw_LT h h164 mk z 1 := Or.inr (Or.inr ⟨rfl, by omega, (by
                      have hmj : mk.toNat = 3 := by omega
                      rw [hmj]; exact fun j => ⟨(hl166 j).trans (hqback.1 j), (hl167 j).trans (hqback.2 j)⟩), pw_i4 ⟨hl168, hl169⟩ ⟨hl170, hl171⟩ ⟨hl172, hl173⟩ ⟨hl174, hl175⟩⟩)
                exact ⟨h164I, h164F, ⟨_, rfl, by omega, by omega, hM, hLT⟩⟩
              · intro hc176
                change ¬ (x152 ≤ x147) at hc176
                refine pw_ld E (pc' := 73) (st' := [pw_i 0]) rfl (fun _ => rfl) ?_
                refine pw_zret E rfl (by omega) ?_
                have hsame : ∀ i : Nat, i < 4 → pw_om h i = pw_om h i ∧ pw_lm h i = pw_lm h i := fun _ _ => ⟨rfl, rfl⟩
                have hM : pw_MT (pw_g h 100 3) (pw_g h 100 3) (pw_om h) (pw_lm h) (pw_om h) (pw_lm h) mk z 0 := by
                  rcases (by omega : ¬ (0 ≤ mk ∧ mk ≤ 3) ∨ mk = 0 ∨ mk = 1 ∨ mk = 2 ∨ mk = 3) with hq | rfl | rfl | rfl | rfl
                  · exact Or.inl ⟨hq, rfl, rfl, hsame⟩
                  · exact Or.inr (Or.inr (Or.inl ⟨by omega, by omega, by omega, (by show pw_g h 105 3 = 0 ∨ pw_g h 100 3 < pw_g h 105 2; omega), rfl, rfl, hsame⟩))
                  · exact Or.inr (Or.inr (Or.inl ⟨by omega, by omega, by omega, (by show pw_g h 110 3 = 0 ∨ pw_g h 100 3 < pw_g h 110 2; omega), rfl, rfl, hsame⟩))
                  · exact Or.inr (Or.inr (Or.inl ⟨by omega, by omega, by omega, (by show pw_g h 115 3 = 0 ∨ pw_g h 100 3 < pw_g h 115 2; omega), rfl, rfl, hsame⟩))
                  · exact Or.inr (Or.inr (Or.inl ⟨by omega, by omega, by omega, (by show pw_g h 120 3 = 0 ∨ pw_g h 100 3 < pw_g h 120 2; omega), rfl, rfl, hsame⟩))
                have hLT : pw_LT h h mk z 0 := Or.inl ⟨rfl, fun _ => rfl, fun _ => rfl, fun _ _ => ⟨fun _ => rfl, fun _ => rfl⟩⟩
                exact ⟨I, E0, ⟨_, rfl, by omega, by omega, hM, hLT⟩⟩
          · skip
            refine pw_if E (pc' := 72) rfl (by decide) (by omega) (by omega) ?_ ?_
            · intro hc178
              change x140 = (0 : Int) at hc178
              refine pw_ld E (pc' := 73) (st' := [pw_i 0]) rfl (fun _ => rfl) ?_
              refine pw_zret E rfl (by omega) ?_
              have hsame : ∀ i : Nat, i < 4 → pw_om h i = pw_om h i ∧ pw_lm h i = pw_lm h i := fun _ _ => ⟨rfl, rfl⟩
              have hM : pw_MT (pw_g h 100 3) (pw_g h 100 3) (pw_om h) (pw_lm h) (pw_om h) (pw_lm h) mk z 0 := by
                rcases (by omega : ¬ (0 ≤ mk ∧ mk ≤ 3) ∨ mk = 0 ∨ mk = 1 ∨ mk = 2 ∨ mk = 3) with hq | rfl | rfl | rfl | rfl
                · exact Or.inl ⟨hq, rfl, rfl, hsame⟩
                · exact Or.inr (Or.inr (Or.inl ⟨by omega, by omega, by omega, (by show pw_g h 105 3 = 0 ∨ pw_g h 100 3 < pw_g h 105 2; omega), rfl, rfl, hsame⟩))
                · exact Or.inr (Or.inr (Or.inl ⟨by omega, by omega, by omega, (by show pw_g h 110 3 = 0 ∨ pw_g h 100 3 < pw_g h 110 2; omega), rfl, rfl, hsame⟩))
                · exact Or.inr (Or.inr (Or.inl ⟨by omega, by omega, by omega, (by show pw_g h 115 3 = 0 ∨ pw_g h 100 3 < pw_g h 115 2; omega), rfl, rfl, hsame⟩))
                · exact Or.inr (Or.inr (Or.inl ⟨by omega, by omega, by omega, (by show pw_g h 120 3 = 0 ∨ pw_g h 100 3 < pw_g h 120 2; omega), rfl, rfl, hsame⟩))
              have hLT : pw_LT h h mk z 0 := Or.inl ⟨rfl, fun _ => rfl, fun _ => rfl, fun _ _ => ⟨fun _ => rfl, fun _ => rfl⟩⟩
              exact ⟨I, E0, ⟨_, rfl, by omega, by omega, hM, hLT⟩⟩
            · intro hc179
              change ¬ (x140 = (0 : Int)) at hc179
              exfalso; omega
      · intro hc180
        change ¬ (z ≠ (0 : Int)) at hc180
        refine pw_ld E (pc' := 16) (st' := [.ref 16]) rfl (fun _ => rfl) ?_
        refine pw_getR (b := 120) I E (c := 0) (k := 19) (pc' := 19) rfl rfl rfl rfl rfl rfl rfl ?_
        refine pw_ld E (pc' := 20) (st' := [pw_i mk, .ref 120]) rfl (fun _ => rfl) ?_
        rcases (by omega : mk = 0 ∨ mk = 1 ∨ mk = 2 ∨ mk = 3) with hj181 | hj181 | hj181 | hj181
        · refine pw_aald (b := 121) I E (c := 104) (pc' := 21) rfl rfl (by decide) rfl (by decide) (by omega) (by omega) (by rw [hj181]; rfl) rfl ?_
          refine pw_ld E (pc' := 22) (st' := [.ref 16, .ref 121]) rfl (fun _ => rfl) ?_
          refine pw_getR (b := 26) I E (c := 0) (k := 2) (pc' := 25) rfl rfl rfl rfl rfl rfl rfl ?_
          refine pw_ld E (pc' := 26) (st' := [.ref 16, .ref 26, .ref 121]) rfl (fun _ => rfl) ?_
          refine pw_getR (b := 28) I E (c := 0) (k := 3) (pc' := 29) rfl rfl rfl rfl rfl rfl rfl ?_
          refine pw_ld E (pc' := 30) (st' := [.ref 16, .ref 28, .ref 26, .ref 121]) rfl (fun _ => rfl) ?_
          refine pw_getR (b := 116) I E (c := 0) (k := 18) (pc' := 33) rfl rfl rfl rfl rfl rfl rfl ?_
          obtain ⟨f182l, f182h, -⟩ := pw_obj (c := 100) I rfl
          refine pw_call (m' := 40) (As := [.ref 116]) (rest := [.ref 28, .ref 26, .ref 121]) (ls'' := [some (.ref 116)]) (Nat.le_trans (by decide) hd) E rfl (fun _ => pw_iV rfl rfl rfl rfl (pw_cellI f182h rfl)) (rfl : pm_ent 40 = some (1, 1, 4, 0, pmc_40)) rfl rfl (cm_40_m (pw_dp hd (by decide)) I ) ?_
          rintro u184 v183 ⟨rfl, x185, rfl, hx185a, hx185b, hx185r⟩
          refine ⟨_, rfl, ?_⟩
          show pw X d h 167 36 [some (.ref 16), some (pw_i mk), some (pw_i z)] [pw_i x185, .ref 28, .ref 26, .ref 121] _
          change x185 = pw_g h 100 3 at hx185r
          obtain ⟨f186l, f186h, -⟩ := pw_obj (c := 105) I rfl
          refine pw_call (m' := 31) (As := [.ref 121, .ref 26, .ref 28, pw_i x185]) (rest := []) (ls'' := [some (.ref 121), some (.ref 26), some (.ref 28), some (pw_i x185)]) (Nat.le_trans (by decide) hd) E rfl (fun _ => pw_iV rfl rfl rfl rfl (pw_cellI f186h rfl)) (rfl : pm_ent 31 = some (4, 4, 3, 4, pmc_31)) rfl rfl (cm_31_105h (pw_dp hd (by decide)) I (x185) (by omega) (by omega)) ?_
          rintro h187 v188 ⟨h187I, h187E, hqlay, rfl⟩
          refine ⟨_, rfl, ?_⟩
          have h187F := E0.tr (h187E.wk (W' := [11, 13, 100, 105, 107, 109, 110, 112, 114, 115, 117, 119, 120, 122, 124]) (by first | rfl | simp))
          show pw X d h187 167 39 [some (.ref 16), some (pw_i mk), some (pw_i z)] [] _
          refine pw_ld E (pc' := 40) (st' := [pw_i 1]) rfl (fun _ => rfl) ?_
          refine pw_zret E rfl (by omega) ?_
          have hmj : mk.toNat = 0 := by omega
          have hM : pw_MT (pw_g h 100 3) (pw_g h187 100 3) (pw_om h) (pw_lm h) (pw_om h187) (pw_lm h187) mk z 1 := Or.inr (Or.inl ⟨by omega, by omega, by omega, rfl, (pw_Eg (c := 100) I h187E rfl rfl 3 : pw_g h187 100 3 = pw_g h 100 3), (by rw [hmj]; show pw_g h187 105 2 = pw_g h 100 3; omega), (by rw [hmj]; exact hqlay.2.1), pw_i4 (fun e => absurd (by omega) e) (fun _ => ⟨(pw_Eg (c := 110) I h187E rfl rfl 2 : pw_g h187 110 2 = pw_g h 110 2), (pw_Eg (c := 110) I h187E rfl rfl 3 : pw_g h187 110 3 = pw_g h 110 3)⟩) (fun _ => ⟨(pw_Eg (c := 115) I h187E rfl rfl 2 : pw_g h187 115 2 = pw_g h 115 2), (pw_Eg (c := 115) I h187E rfl rfl 3 : pw_g h187 115 3 = pw_g h 115 3)⟩) (fun _ => ⟨(pw_Eg (c := 120) I h187E rfl rfl 2 : pw_g h187 120 2 = pw_g h 120 2), (pw_Eg (c := 120) I h187E rfl rfl 3 : pw_g h187 120 3 = pw_g h 120 3)⟩)⟩)
          have hl189 : ∀ j : Nat, pw_g h187 112 j = pw_g h 112 j := fun j => (pw_Eg (c := 112) I h187E rfl rfl j : pw_g h187 112 j = pw_g h 112 j)
          have hl190 : ∀ j : Nat, pw_g h187 114 j = pw_g h 114 j := fun j => (pw_Eg (c := 114) I h187E rfl rfl j : pw_g h187 114 j = pw_g h 114 j)
          have hl191 : ∀ j : Nat, pw_g h187 117 j = pw_g h 117 j := fun j => (pw_Eg (c := 117) I h187E rfl rfl j : pw_g h187 117 j = pw_g h 117 j)
          have hl192 : ∀ j : Nat, pw_g h187 119 j = pw_g h 119 j := fun j => (pw_Eg (c := 119) I h187E rfl rfl j : pw_g h187 119 j = pw_g h 119 j)
          have hl193 : ∀ j : Nat, pw_g h187 122 j = pw_g h 122 j := fun j => (pw_Eg (c := 122) I h187E rfl rfl j : pw_g h187 122 j = pw_g h 122 j)
          have hl194 : ∀ j : Nat, pw_g h187 124 j = pw_g h 124 j := fun j => (pw_Eg (c := 124) I h187E rfl rfl j : pw_g h187 124 j = pw_g h 124 j)
          have hl195 : ∀ j : Nat, pw_g h187 11 j = pw_g h 11 j := fun j => (pw_Eg (c := 11) I h187E rfl rfl j : pw_g h187 11 j = pw_g h 11 j)
          have hl196 : ∀ j : Nat, pw_g h187 13 j = pw_g h 13 j := fun j => (pw_Eg (c := 13) I h187E rfl rfl j : pw_g h187 13 j = pw_g h 13 j)
          have hLT : pw_LT h h187 mk z 1 := Or.inr (Or.inl ⟨rfl, by omega, hl195, hl196, (by rw [hmj]; exact fun j => ⟨hqlay.2.2.1 j, hqlay.2.2.2 j⟩), pw_i4 (fun e => absurd (by omega) e) (fun _ => ⟨hl189, hl190⟩) (fun _ => ⟨hl191, hl192⟩) (fun _ => ⟨hl193, hl194⟩)⟩)
          exact ⟨h187I, h187F, ⟨_, rfl, by omega, by omega, hM, hLT⟩⟩
        · refine pw_aald (b := 126) I E (c := 104) (pc' := 21) rfl rfl (by decide) rfl (by decide) (by omega) (by omega) (by rw [hj181]; rfl) rfl ?_
          refine pw_ld E (pc' := 22) (st' := [.ref 16, .ref 126]) rfl (fun _ => rfl) ?_
          refine pw_getR (b := 26) I E (c := 0) (k := 2) (pc' := 25) rfl rfl rfl rfl rfl rfl rfl ?_
          refine pw_ld E (pc' := 26) (st' := [.ref 16, .ref 26, .ref 126]) rfl (fun _ => rfl) ?_
          refine pw_getR (b := 28) I E (c := 0) (k := 3) (pc' := 29) rfl rfl rfl rfl rfl rfl rfl ?_
          refine pw_ld E (pc' := 30) (st' := [.ref 16, .ref 28, .ref 26, .ref 126]) rfl (fun _ => rfl) ?_
          refine pw_getR (b := 116) I E (c := 0) (k := 18) (pc' := 33) rfl rfl rfl rfl rfl rfl rfl ?_
          obtain ⟨f197l, f197h, -⟩ := pw_obj (c := 100) I rfl
          refine pw_call (m' := 40) (As := [.ref 116]) (rest := [.ref 28, .ref 26, .ref 126]) (ls'' := [some (.ref 116)]) (Nat.le_trans (by decide) hd) E rfl (fun _ => pw_iV rfl rfl rfl rfl (pw_cellI f197h rfl)) (rfl : pm_ent 40 = some (1, 1, 4, 0, pmc_40)) rfl rfl (cm_40_m (pw_dp hd (by decide)) I ) ?_
          rintro u199 v198 ⟨rfl, x200, rfl, hx200a, hx200b, hx200r⟩
          refine ⟨_, rfl, ?_⟩
          show pw X d h 167 36 [some (.ref 16), some (pw_i mk), some (pw_i z)] [pw_i x200, .ref 28, .ref 26, .ref 126] _
          change x200 = pw_g h 100 3 at hx200r
          obtain ⟨f201l, f201h, -⟩ := pw_obj (c := 110) I rfl
          refine pw_call (m' := 31) (As := [.ref 126, .ref 26, .ref 28, pw_i x200]) (rest := []) (ls'' := [some (.ref 126), some (.ref 26), some (.ref 28), some (pw_i x200)]) (Nat.le_trans (by decide) hd) E rfl (fun _ => pw_iV rfl rfl rfl rfl (pw_cellI f201h rfl)) (rfl : pm_ent 31 = some (4, 4, 3, 4, pmc_31)) rfl rfl (cm_31_110h (pw_dp hd (by decide)) I (x200) (by omega) (by omega)) ?_
          rintro h202 v203 ⟨h202I, h202E, hqlay, rfl⟩
          refine ⟨_, rfl, ?_⟩
          have h202F := E0.tr (h202E.wk (W' := [11, 13, 100, 105, 107, 109, 110, 112, 114, 115, 117, 119, 120, 122, 124]) (by first | rfl | simp))
          show pw X d h202 167 39 [some (.ref 16), some (pw_i mk), some (pw_i z)] [] _
          refine pw_ld E (pc' := 40) (st' := [pw_i 1]) rfl (fun _ => rfl) ?_
          refine pw_zret E rfl (by omega) ?_
          have hmj : mk.toNat = 1 := by omega
          have hM : pw_MT (pw_g h 100 3) (pw_g h202 100 3) (pw_om h) (pw_lm h) (pw_om h202) (pw_lm h202) mk z 1 := Or.inr (Or.inl ⟨by omega, by omega, by omega, rfl, (pw_Eg (c := 100) I h202E rfl rfl 3 : pw_g h202 100 3 = pw_g h 100 3), (by rw [hmj]; show pw_g h202 110 2 = pw_g h 100 3; omega), (by rw [hmj]; exact hqlay.2.1), pw_i4 (fun _ => ⟨(pw_Eg (c := 105) I h202E rfl rfl 2 : pw_g h202 105 2 = pw_g h 105 2), (pw_Eg (c := 105) I h202E rfl rfl 3 : pw_g h202 105 3 = pw_g h 105 3)⟩) (fun e => absurd (by omega) e) (fun _ => ⟨(pw_Eg (c := 115) I h202E rfl rfl 2 : pw_g h202 115 2 = pw_g h 115 2), (pw_Eg (c := 115) I h202E rfl rfl 3 : pw_g h202 115 3 = pw_g h 115 3)⟩) (fun _ => ⟨(pw_Eg (c := 120) I h202E rfl rfl 2 : pw_g h202 120 2 = pw_g h 120 2), (pw_Eg (c := 120) I h202E rfl rfl 3 : pw_g h202 120 3 = pw_g h 120 3)⟩)⟩)
          have hl204 : ∀ j : Nat, pw_g h202 107 j = pw_g h 107 j := fun j => (pw_Eg (c := 107) I h202E rfl rfl j : pw_g h202 107 j = pw_g h 107 j)
          have hl205 : ∀ j : Nat, pw_g h202 109 j = pw_g h 109 j := fun j => (pw_Eg (c := 109) I h202E rfl rfl j : pw_g h202 109 j = pw_g h 109 j)
          have hl206 : ∀ j : Nat, pw_g h202 117 j = pw_g h 117 j := fun j => (pw_Eg (c := 117) I h202E rfl rfl j : pw_g h202 117 j = pw_g h 117 j)
          have hl207 : ∀ j : Nat, pw_g h202 119 j = pw_g h 119 j := fun j => (pw_Eg (c := 119) I h202E rfl rfl j : pw_g h202 119 j = pw_g h 119 j)
          have hl208 : ∀ j : Nat, pw_g h202 122 j = pw_g h 122 j := fun j => (pw_Eg (c := 122) I h202E rfl rfl j : pw_g h202 122 j = pw_g h 122 j)
          have hl209 : ∀ j : Nat, pw_g h202 124 j = pw_g h 124 j := fun j => (pw_Eg (c := 124) I h202E rfl rfl j : pw_g h202 124 j = pw_g h 124 j)
          have hl210 : ∀ j : Nat, pw_g h202 11 j = pw_g h 11 j := fun j => (pw_Eg (c := 11) I h202E rfl rfl j : pw_g h202 11 j = pw_g h 11 j)
          have hl211 : ∀ j : Nat, pw_g h202 13 j = pw_g h 13 j := fun j => (pw_Eg (c := 13) I h202E rfl rfl j : pw_g h202 13 j = pw_g h 13 j)
          have hLT : pw_LT h h202 mk z 1 := Or.inr (Or.inl ⟨rfl, by omega, hl210, hl211, (by rw [hmj]; exact fun j => ⟨hqlay.2.2.1 j, hqlay.2.2.2 j⟩), pw_i4 (fun _ => ⟨hl204, hl205⟩) (fun e => absurd (by omega) e) (fun _ => ⟨hl206, hl207⟩) (fun _ => ⟨hl208, hl209⟩)⟩)
          exact ⟨h202I, h202F, ⟨_, rfl, by omega, by omega, hM, hLT⟩⟩
        · refine pw_aald (b := 131) I E (c := 104) (pc' := 21) rfl rfl (by decide) rfl (by decide) (by omega) (by omega) (by rw [hj181]; rfl) rfl ?_
          refine pw_ld E (pc' := 22) (st' := [.ref 16, .ref 131]) rfl (fun _ => rfl) ?_
          refine pw_getR (b := 26) I E (c := 0) (k := 2) (pc' := 25) rfl rfl rfl rfl rfl rfl rfl ?_
          refine pw_ld E (pc' := 26) (st' := [.ref 16, .ref 26, .ref 131]) rfl (fun _ => rfl) ?_
          refine pw_getR (b := 28) I E (c := 0) (k := 3) (pc' := 29) rfl rfl rfl rfl rfl rfl rfl ?_
          refine pw_ld E (pc' := 30) (st' := [.ref 16, .ref 28, .ref 26, .ref 131]) rfl (fun _ => rfl) ?_
          refine pw_getR (b := 116) I E (c := 0) (k := 18) (pc' := 33) rfl rfl rfl rfl rfl rfl rfl ?_
          obtain ⟨f212l, f212h, -⟩ := pw_obj (c := 100) I rfl
          refine pw_call (m' := 40) (As := [.ref 116]) (rest := [.ref 28, .ref 26, .ref 131]) (ls'' := [some (.ref 116)]) (Nat.le_trans (by decide) hd) E rfl (fun _ => pw_iV rfl rfl rfl rfl (pw_cellI f212h rfl)) (rfl : pm_ent 40 = some (1, 1, 4, 0, pmc_40)) rfl rfl (cm_40_m (pw_dp hd (by decide)) I ) ?_
          rintro u214 v213 ⟨rfl, x215, rfl, hx215a, hx215b, hx215r⟩
          refine ⟨_, rfl, ?_⟩
          show pw X d h 167 36 [some (.ref 16), some (pw_i mk), some (pw_i z)] [pw_i x215, .ref 28, .ref 26, .ref 131] _
          change x215 = pw_g h 100 3 at hx215r
          obtain ⟨f216l, f216h, -⟩ := pw_obj (c := 115) I rfl
          refine pw_call (m' := 31) (As := [.ref 131, .ref 26, .ref 28, pw_i x215]) (rest := []) (ls'' := [some (.ref 131), some (.ref 26), some (.ref 28), some (pw_i x215)]) (Nat.le_trans (by decide) hd) E rfl (fun _ => pw_iV rfl rfl rfl rfl (pw_cellI f216h rfl)) (rfl : pm_ent 31 = some (4, 4, 3, 4, pmc_31)) rfl rfl (cm_31_115h (pw_dp hd (by decide)) I (x215) (by omega) (by omega)) ?_
          rintro h217 v218 ⟨h217I, h217E, hqlay, rfl⟩
          refine ⟨_, rfl, ?_⟩
          have h217F := E0.tr (h217E.wk (W' := [11, 13, 100, 105, 107, 109, 110, 112, 114, 115, 117, 119, 120, 122, 124]) (by first | rfl | simp))
          show pw X d h217 167 39 [some (.ref 16), some (pw_i mk), some (pw_i z)] [] _
          refine pw_ld E (pc' := 40) (st' := [pw_i 1]) rfl (fun _ => rfl) ?_
          refine pw_zret E rfl (by omega) ?_
          have hmj : mk.toNat = 2 := by omega
          have hM : pw_MT (pw_g h 100 3) (pw_g h217 100 3) (pw_om h) (pw_lm h) (pw_om h217) (pw_lm h217) mk z 1 := Or.inr (Or.inl ⟨by omega, by omega, by omega, rfl, (pw_Eg (c := 100) I h217E rfl rfl 3 : pw_g h217 100 3 = pw_g h 100 3), (by rw [hmj]; show pw_g h217 115 2 = pw_g h 100 3; omega), (by rw [hmj]; exact hqlay.2.1), pw_i4 (fun _ => ⟨(pw_Eg (c := 105) I h217E rfl rfl 2 : pw_g h217 105 2 = pw_g h 105 2), (pw_Eg (c := 105) I h217E rfl rfl 3 : pw_g h217 105 3 = pw_g h 105 3)⟩) (fun _ => ⟨(pw_Eg (c := 110) I h217E rfl rfl 2 : pw_g h217 110 2 = pw_g h 110 2), (pw_Eg (c := 110) I h217E rfl rfl 3 : pw_g h217 110 3 = pw_g h 110 3)⟩) (fun e => absurd (by omega) e) (fun _ => ⟨(pw_Eg (c := 120) I h217E rfl rfl 2 : pw_g h217 120 2 = pw_g h 120 2), (pw_Eg (c := 120) I h217E rfl rfl 3 : pw_g h217 120 3 = pw_g h 120 3)⟩)⟩)
          have hl219 : ∀ j : Nat, pw_g h217 107 j = pw_g h 107 j := fun j => (pw_Eg (c := 107) I h217E rfl rfl j : pw_g h217 107 j = pw_g h 107 j)
          have hl220 : ∀ j : Nat, pw_g h217 109 j = pw_g h 109 j := fun j => (pw_Eg (c := 109) I h217E rfl rfl j : pw_g h217 109 j = pw_g h 109 j)
          have hl221 : ∀ j : Nat, pw_g h217 112 j = pw_g h 112 j := fun j => (pw_Eg (c := 112) I h217E rfl rfl j : pw_g h217 112 j = pw_g h 112 j)
          have hl222 : ∀ j : Nat, pw_g h217 114 j = pw_g h 114 j := fun j => (pw_Eg (c := 114) I h217E rfl rfl j : pw_g h217 114 j = pw_g h 114 j)
          have hl223 : ∀ j : Nat, pw_g h217 122 j = pw_g h 122 j := fun j => (pw_Eg (c := 122) I h217E rfl rfl j : pw_g h217 122 j = pw_g h 122 j)
          have hl224 : ∀ j : Nat, pw_g h217 124 j = pw_g h 124 j := fun j => (pw_Eg (c := 124) I h217E rfl rfl j : pw_g h217 124 j = pw_g h 124 j)
          have hl225 : ∀ j : Nat, pw_g h217 11 j = pw_g h 11 j := fun j => (pw_Eg (c := 11) I h217E rfl rfl j : pw_g h217 11 j = pw_g h 11 j)
          have hl226 : ∀ j : Nat, pw_g h217 13 j = pw_g h 13 j := fun j => (pw_Eg (c := 13) I h217E rfl rfl j : pw_g h217 13 j = pw_g h 13 j)
          have hLT : pw_LT h h217 mk z 1 := Or.inr (Or.inl ⟨rfl, by omega, hl225, hl226, (by rw [hmj]; exact fun j => ⟨hqlay.2.2.1 j, hqlay.2.2.2 j⟩), pw_i4 (fun _ => ⟨hl219, hl220⟩) (fun _ => ⟨hl221, hl222⟩) (fun e => absurd (by omega) e) (fun _ => ⟨hl223, hl224⟩)⟩)
          exact ⟨h217I, h217F, ⟨_, rfl, by omega, by omega, hM, hLT⟩⟩
        · refine pw_aald (b := 136) I E (c := 104) (pc' := 21) rfl rfl (by decide) rfl (by decide) (by omega) (by omega) (by rw [hj181]; rfl) rfl ?_
          refine pw_ld E (pc' := 22) (st' := [.ref 16, .ref 136]) rfl (fun _ => rfl) ?_
          refine pw_getR (b := 26) I E (c := 0) (k := 2) (pc' := 25) rfl rfl rfl rfl rfl rfl rfl ?_
          refine pw_ld E (pc' := 26) (st' := [.ref 16, .ref 26, .ref 136]) rfl (fun _ => rfl) ?_
          refine pw_getR (b := 28) I E (c := 0) (k := 3) (pc' := 29) rfl rfl rfl rfl rfl rfl rfl ?_
          refine pw_ld E (pc' := 30) (st' := [.ref 16, .ref 28, .ref 26, .ref 136]) rfl (fun _ => rfl) ?_
          refine pw_getR (b := 116) I E (c := 0) (k := 18) (pc' := 33) rfl rfl rfl rfl rfl rfl rfl ?_
          obtain ⟨f227l, f227h, -⟩ := pw_obj (c := 100) I rfl
          refine pw_call (m' := 40) (As := [.ref 116]) (rest := [.ref 28, .ref 26, .ref 136]) (ls'' := [some (.ref 116)]) (Nat.le_trans (by decide) hd) E rfl (fun _ => pw_iV rfl rfl rfl rfl (pw_cellI f227h rfl)) (rfl : pm_ent 40 = some (1, 1, 4, 0, pmc_40)) rfl rfl (cm_40_m (pw_dp hd (by decide)) I ) ?_
          rintro u229 v228 ⟨rfl, x230, rfl, hx230a, hx230b, hx230r⟩
          refine ⟨_, rfl, ?_⟩
          show pw X d h 167 36 [some (.ref 16), some (pw_i mk), some (pw_i z)] [pw_i x230, .ref 28, .ref 26, .ref 136] _
          change x230 = pw_g h 100 3 at hx230r
          obtain ⟨f231l, f231h, -⟩ := pw_obj (c := 120) I rfl
          refine pw_call (m' := 31) (As := [.ref 136, .ref 26, .ref 28, pw_i x230]) (rest := []) (ls'' := [some (.ref 136), some (.ref 26), some (.ref 28), some (pw_i x230)]) (Nat.le_trans (by decide) hd) E rfl (fun _ => pw_iV rfl rfl rfl rfl (pw_cellI f231h rfl)) (rfl : pm_ent 31 = some (4, 4, 3, 4, pmc_31)) rfl rfl (cm_31_120h (pw_dp hd (by decide)) I (x230) (by omega) (by omega)) ?_
          rintro h232 v233 ⟨h232I, h232E, hqlay, rfl⟩
          refine ⟨_, rfl, ?_⟩
          have h232F := E0.tr (h232E.wk (W' := [11, 13, 100, 105, 107, 109, 110, 112, 114, 115, 117, 119, 120, 122, 124]) (by first | rfl | simp))
          show pw X d h232 167 39 [some (.ref 16), some (pw_i mk), some (pw_i z)] [] _
          refine pw_ld E (pc' := 40) (st' := [pw_i 1]) rfl (fun _ => rfl) ?_
          refine pw_zret E rfl (by omega) ?_
          have hmj : mk.toNat = 3 := by omega
          have hM : pw_MT (pw_g h 100 3) (pw_g h232 100 3) (pw_om h) (pw_lm h) (pw_om h232) (pw_lm h232) mk z 1 := Or.inr (Or.inl ⟨by omega, by omega, by omega, rfl, (pw_Eg (c := 100) I h232E rfl rfl 3 : pw_g h232 100 3 = pw_g h 100 3), (by rw [hmj]; show pw_g h232 120 2 = pw_g h 100 3; omega), (by rw [hmj]; exact hqlay.2.1), pw_i4 (fun _ => ⟨(pw_Eg (c := 105) I h232E rfl rfl 2 : pw_g h232 105 2 = pw_g h 105 2), (pw_Eg (c := 105) I h232E rfl rfl 3 : pw_g h232 105 3 = pw_g h 105 3)⟩) (fun _ => ⟨(pw_Eg (c := 110) I h232E rfl rfl 2 : pw_g h232 110 2 = pw_g h 110 2), (pw_Eg (c := 110) I h232E rfl rfl 3 : pw_g h232 110 3 = pw_g h 110 3)⟩) (fun _ => ⟨(pw_Eg (c := 115) I h232E rfl rfl 2 : pw_g h232 115 2 = pw_g h 115 2), (pw_Eg (c := 115) I h232E rfl rfl 3 : pw_g h232 115 3 = pw_g h 115 3)⟩) (fun e => absurd (by omega) e)⟩)
          have hl234 : ∀ j : Nat, pw_g h232 107 j = pw_g h 107 j := fun j => (pw_Eg (c := 107) I h232E rfl rfl j : pw_g h232 107 j = pw_g h 107 j)
          have hl235 : ∀ j : Nat, pw_g h232 109 j = pw_g h 109 j := fun j => (pw_Eg (c := 109) I h232E rfl rfl j : pw_g h232 109 j = pw_g h 109 j)
          have hl236 : ∀ j : Nat, pw_g h232 112 j = pw_g h 112 j := fun j => (pw_Eg (c := 112) I h232E rfl rfl j : pw_g h232 112 j = pw_g h 112 j)
          have hl237 : ∀ j : Nat, pw_g h232 114 j = pw_g h 114 j := fun j => (pw_Eg (c := 114) I h232E rfl rfl j : pw_g h232 114 j = pw_g h 114 j)
          have hl238 : ∀ j : Nat, pw_g h232 117 j = pw_g h 117 j := fun j => (pw_Eg (c := 117) I h232E rfl rfl j : pw_g h232 117 j = pw_g h 117 j)
          have hl239 : ∀ j : Nat, pw_g h232 119 j = pw_g h 119 j := fun j => (pw_Eg (c := 119) I h232E rfl rfl j : pw_g h232 119 j = pw_g h 119 j)
          have hl240 : ∀ j : Nat, pw_g h232 11 j = pw_g h 11 j := fun j => (pw_Eg (c := 11) I h232E rfl rfl j : pw_g h232 11 j = pw_g h 11 j)
          have hl241 : ∀ j : Nat, pw_g h232 13 j = pw_g h 13 j := fun j => (pw_Eg (c := 13) I h232E rfl rfl j : pw_g h232 13 j = pw_g h 13 j)
          have hLT : pw_LT h h232 mk z 1 := Or.inr (Or.inl ⟨rfl, by omega, hl240, hl241, (by rw [hmj]; exact fun j => ⟨hqlay.2.2.1 j, hqlay.2.2.2 j⟩), pw_i4 (fun _ => ⟨hl234, hl235⟩) (fun _ => ⟨hl236, hl237⟩) (fun _ => ⟨hl238, hl239⟩) (fun e => absurd (by omega) e)⟩)
          exact ⟨h232I, h232F, ⟨_, rfl, by omega, by omega, hM, hLT⟩⟩
    · intro hc242
      change ¬ (x3 ≠ (0 : Int)) at hc242
      exfalso; omega
  · skip
    refine pw_if E (pc' := 11) rfl (by decide) (by omega) (by omega) ?_ ?_
    · intro hc244
      change x3 ≠ (0 : Int) at hc244
      exfalso; omega
    · intro hc245
      change ¬ (x3 ≠ (0 : Int)) at hc245
      refine pw_ld E (pc' := 10) (st' := [pw_i 0]) rfl (fun _ => rfl) ?_
      refine pw_zret E rfl (by omega) ?_
      have hsame : ∀ i : Nat, i < 4 → pw_om h i = pw_om h i ∧ pw_lm h i = pw_lm h i := fun _ _ => ⟨rfl, rfl⟩
      have hM : pw_MT (pw_g h 100 3) (pw_g h 100 3) (pw_om h) (pw_lm h) (pw_om h) (pw_lm h) mk z 0 := by
        rcases (by omega : ¬ (0 ≤ mk ∧ mk ≤ 3) ∨ mk = 0 ∨ mk = 1 ∨ mk = 2 ∨ mk = 3) with hq | rfl | rfl | rfl | rfl
        · exact Or.inl ⟨hq, rfl, rfl, hsame⟩
        · exact Or.inr (Or.inr (Or.inl ⟨by omega, by omega, by omega, (by show pw_g h 105 3 = 0 ∨ pw_g h 100 3 < pw_g h 105 2; omega), rfl, rfl, hsame⟩))
        · exact Or.inr (Or.inr (Or.inl ⟨by omega, by omega, by omega, (by show pw_g h 110 3 = 0 ∨ pw_g h 100 3 < pw_g h 110 2; omega), rfl, rfl, hsame⟩))
        · exact Or.inr (Or.inr (Or.inl ⟨by omega, by omega, by omega, (by show pw_g h 115 3 = 0 ∨ pw_g h 100 3 < pw_g h 115 2; omega), rfl, rfl, hsame⟩))
        · exact Or.inr (Or.inr (Or.inl ⟨by omega, by omega, by omega, (by show pw_g h 120 3 = 0 ∨ pw_g h 100 3 < pw_g h 120 2; omega), rfl, rfl, hsame⟩))
      have hLT : pw_LT h h mk z 0 := Or.inl ⟨rfl, fun _ => rfl, fun _ => rfl, fun _ _ => ⟨fun _ => rfl, fun _ => rfl⟩⟩
      exact ⟨I, E0, ⟨_, rfl, by omega, by omega, hM, hLT⟩⟩
set_option maxHeartbeats 4000000 in
theorem cm_307_138h {X : List (Nat × List Value)} {d : Nat} {h : pm_H} (hd : 1 ≤ d) (I : pw_I h) (fr : Int) (hfr1 : 0 ≤ fr) (hfr2 : fr ≤ 6624) (z : Int) (hz1 : 0 ≤ z) (hz2 : z ≤ 1) : pw X d h 307 0 [some (.ref 141), some (pw_i fr), some (.ref 154), some (pw_i z), none] [] (fun h' v => pw_I h' ∧ pw_E [138, 168] h h' ∧ (pw_KP h h' 138 fr z 288) ∧ (v = .inl none)) := by
  have E : pm_ent 307 = some (4, 5, 12, 4, pmc_307) := rfl
  have E0 : pw_E [138, 168] h h := pw_E.rf _ _
  refine pw_ld E (pc' := 1) (st' := [pw_i 0]) rfl (fun _ => rfl) ?_
  refine pw_ist E (pc' := 3) (ls' := [some (.ref 141), some (pw_i fr), some (.ref 154), some (pw_i z), some (pw_i 0)]) rfl rfl rfl rfl ?_
  have L3 : ∀ (n3 : Nat) (k3_4 : Int) (gh3 : pm_H), pw_I gh3 → pw_E [138, 168] h gh3 → 0 ≤ k3_4 → k3_4 ≤ 288 → pw_KP h gh3 138 fr z k3_4 → (288 - k3_4).toNat = n3 → pw X d gh3 307 3 [some (.ref 141), some (pw_i fr), some (.ref 154), some (pw_i z), some (pw_i k3_4)] [] (fun h' v => pw_I h' ∧ pw_E [138, 168] h h' ∧ (pw_KP h h' 138 fr z 288) ∧ (v = .inl none)) := by
    intro n3
    induction n3 using Nat.strongRecOn with
    | ind n3 ih3 =>
      intro k3_4 gh3 I3 E3 k3_4a k3_4b hx3_0 hm3
      refine pw_ld E (pc' := 5) (st' := [pw_i k3_4]) rfl (fun _ => rfl) ?_
      refine pw_sip E (pc' := 8) rfl rfl (by decide) ?_
      refine pw_if2 E (pc' := 50) rfl (by decide) (by omega) (by omega) (by decide) (by decide) ?_ ?_
      · intro hc1
        change (288 : Int) ≤ k3_4 at hc1
        refine pw_vret E rfl ?_
        exact ⟨I3, E3, ⟨(by rw [show (288 : Int) = k3_4 by omega]; exact hx3_0), rfl⟩⟩
      · intro hc2
        change ¬ ((288 : Int) ≤ k3_4) at hc2
        refine pw_ld E (pc' := 12) (st' := [pw_i z]) rfl (fun _ => rfl) ?_
        refine pw_if E (pc' := 31) rfl (by decide) (by omega) (by omega) ?_ ?_
        · intro hc3
          change z = (0 : Int) at hc3
          refine pw_ld E (pc' := 32) (st' := [.ref 141]) rfl (fun _ => rfl) ?_
          refine pw_getR (b := 184) I3 E (c := 125) (k := 57) (pc' := 35) rfl rfl rfl rfl rfl rfl rfl ?_
          refine pw_ld E (pc' := 36) (st' := [pw_i fr, .ref 184]) rfl (fun _ => rfl) ?_
          refine pw_ld E (pc' := 38) (st' := [pw_i k3_4, pw_i fr, .ref 184]) rfl (fun _ => rfl) ?_
          refine pw_add E (pc' := 39) rfl rfl ?_
          refine pw_ld E (pc' := 40) (st' := [.ref 154, pw_i (fr + k3_4), .ref 184]) rfl (fun _ => rfl) ?_
          refine pw_ld E (pc' := 42) (st' := [pw_i k3_4, .ref 154, pw_i (fr + k3_4), .ref 184]) rfl (fun _ => rfl) ?_
          refine pw_ald2 I3 E (c := 138) (pc' := 43) rfl rfl rfl (by decide) rfl (by decide) (by omega) (by omega) rfl (fun hf4a hf4b => ?_)
          refine pw_ast0 I3 E (c := 168) (pc' := 44) rfl rfl rfl (by decide) rfl (by decide) (by omega) (by omega) rfl (by omega) (by omega) (by omega) (by omega) rfl ?_
          intro h5I h5E
          generalize h5w : pw_w gh3 168 ((fr + k3_4).toNat) (pw_i (pw_g gh3 138 (k3_4.toNat))) = h5 at h5I h5E ⊢
          have h5F := E3.tr (h5E.wk (W' := [138, 168]) (by first | rfl | simp))
          refine pw_inc E (pc' := 47) (ls' := [some (.ref 141), some (pw_i fr), some (.ref 154), some (pw_i z), some (pw_i (k3_4 + 1))]) rfl rfl rfl rfl ?_
          refine pw_goto E (pc' := 3) rfl (by decide) ?_
          exact ih3 _ (by omega) (k3_4 + 1) h5 h5I h5F (by omega) (by omega) (by first | exact pw_KP.st0 hx3_0 (by omega) I3 rfl (by omega) (by decide) (by omega) (by omega) (by omega) (by assumption) | exact pw_KP.st1 hx3_0 (by omega) I3 rfl (by omega) (by decide) (by omega) (by omega) (by omega) (by assumption)) rfl
        · intro hc6
          change ¬ (z = (0 : Int)) at hc6
          refine pw_ld E (pc' := 16) (st' := [.ref 154]) rfl (fun _ => rfl) ?_
          refine pw_ld E (pc' := 18) (st' := [pw_i k3_4, .ref 154]) rfl (fun _ => rfl) ?_
          refine pw_ld E (pc' := 19) (st' := [.ref 141, pw_i k3_4, .ref 154]) rfl (fun _ => rfl) ?_
          refine pw_getR (b := 184) I3 E (c := 125) (k := 57) (pc' := 22) rfl rfl rfl rfl rfl rfl rfl ?_
          refine pw_ld E (pc' := 23) (st' := [pw_i fr, .ref 184, pw_i k3_4, .ref 154]) rfl (fun _ => rfl) ?_
          refine pw_ld E (pc' := 25) (st' := [pw_i k3_4, pw_i fr, .ref 184, pw_i k3_4, .ref 154]) rfl (fun _ => rfl) ?_
          refine pw_add E (pc' := 26) rfl rfl ?_
          refine pw_ald2 I3 E (c := 168) (pc' := 27) rfl rfl rfl (by decide) rfl (by decide) (by omega) (by omega) rfl (fun hf7a hf7b => ?_)
          refine pw_ast0 I3 E (c := 138) (pc' := 28) rfl rfl rfl (by decide) rfl (by decide) (by omega) (by omega) rfl (by omega) (by omega) (by omega) (by omega) rfl ?_
          intro h8I h8E
          generalize h8w : pw_w gh3 138 (k3_4.toNat) (pw_i (pw_g gh3 168 ((fr + k3_4).toNat))) = h8 at h8I h8E ⊢
          have h8F := E3.tr (h8E.wk (W' := [138, 168]) (by first | rfl | simp))
          refine pw_goto E (pc' := 44) rfl (by decide) ?_
          refine pw_inc E (pc' := 47) (ls' := [some (.ref 141), some (pw_i fr), some (.ref 154), some (pw_i z), some (pw_i (k3_4 + 1))]) rfl rfl rfl rfl ?_
          refine pw_goto E (pc' := 3) rfl (by decide) ?_
          exact ih3 _ (by omega) (k3_4 + 1) h8 h8I h8F (by omega) (by omega) (by first | exact pw_KP.st0 hx3_0 (by omega) I3 rfl (by omega) (by decide) (by omega) (by omega) (by omega) (by assumption) | exact pw_KP.st1 hx3_0 (by omega) I3 rfl (by omega) (by decide) (by omega) (by omega) (by omega) (by assumption)) rfl
  exact L3 _ (0) h I E0 (by omega) (by omega) (pw_KP.rf (by omega)) rfl
set_option maxHeartbeats 4000000 in
theorem cm_307_139h {X : List (Nat × List Value)} {d : Nat} {h : pm_H} (hd : 1 ≤ d) (I : pw_I h) (fr : Int) (hfr1 : 0 ≤ fr) (hfr2 : fr ≤ 6624) (z : Int) (hz1 : 0 ≤ z) (hz2 : z ≤ 1) : pw X d h 307 0 [some (.ref 141), some (pw_i fr), some (.ref 155), some (pw_i z), none] [] (fun h' v => pw_I h' ∧ pw_E [139, 168] h h' ∧ (pw_KP h h' 139 fr z 288) ∧ (v = .inl none)) := by
  have E : pm_ent 307 = some (4, 5, 12, 4, pmc_307) := rfl
  have E0 : pw_E [139, 168] h h := pw_E.rf _ _
  refine pw_ld E (pc' := 1) (st' := [pw_i 0]) rfl (fun _ => rfl) ?_
  refine pw_ist E (pc' := 3) (ls' := [some (.ref 141), some (pw_i fr), some (.ref 155), some (pw_i z), some (pw_i 0)]) rfl rfl rfl rfl ?_
  have L3 : ∀ (n3 : Nat) (k3_4 : Int) (gh3 : pm_H), pw_I gh3 → pw_E [139, 168] h gh3 → 0 ≤ k3_4 → k3_4 ≤ 288 → pw_KP h gh3 139 fr z k3_4 → (288 - k3_4).toNat = n3 → pw X d gh3 307 3 [some (.ref 141), some (pw_i fr), some (.ref 155), some (pw_i z), some (pw_i k3_4)] [] (fun h' v => pw_I h' ∧ pw_E [139, 168] h h' ∧ (pw_KP h h' 139 fr z 288) ∧ (v = .inl none)) := by
    intro n3
    induction n3 using Nat.strongRecOn with
    | ind n3 ih3 =>
      intro k3_4 gh3 I3 E3 k3_4a k3_4b hx3_0 hm3
      refine pw_ld E (pc' := 5) (st' := [pw_i k3_4]) rfl (fun _ => rfl) ?_
      refine pw_sip E (pc' := 8) rfl rfl (by decide) ?_
      refine pw_if2 E (pc' := 50) rfl (by decide) (by omega) (by omega) (by decide) (by decide) ?_ ?_
      · intro hc1
        change (288 : Int) ≤ k3_4 at hc1
        refine pw_vret E rfl ?_
        exact ⟨I3, E3, ⟨(by rw [show (288 : Int) = k3_4 by omega]; exact hx3_0), rfl⟩⟩
      · intro hc2
        change ¬ ((288 : Int) ≤ k3_4) at hc2
        refine pw_ld E (pc' := 12) (st' := [pw_i z]) rfl (fun _ => rfl) ?_
        refine pw_if E (pc' := 31) rfl (by decide) (by omega) (by omega) ?_ ?_
        · intro hc3
          change z = (0 : Int) at hc3
          refine pw_ld E (pc' := 32) (st' := [.ref 141]) rfl (fun _ => rfl) ?_
          refine pw_getR (b := 184) I3 E (c := 125) (k := 57) (pc' := 35) rfl rfl rfl rfl rfl rfl rfl ?_
          refine pw_ld E (pc' := 36) (st' := [pw_i fr, .ref 184]) rfl (fun _ => rfl) ?_
          refine pw_ld E (pc' := 38) (st' := [pw_i k3_4, pw_i fr, .ref 184]) rfl (fun _ => rfl) ?_
          refine pw_add E (pc' := 39) rfl rfl ?_
          refine pw_ld E (pc' := 40) (st' := [.ref 155, pw_i (fr + k3_4), .ref 184]) rfl (fun _ => rfl) ?_
          refine pw_ld E (pc' := 42) (st' := [pw_i k3_4, .ref 155, pw_i (fr + k3_4), .ref 184]) rfl (fun _ => rfl) ?_
          refine pw_ald2 I3 E (c := 139) (pc' := 43) rfl rfl rfl (by decide) rfl (by decide) (by omega) (by omega) rfl (fun hf4a hf4b => ?_)
          refine pw_ast0 I3 E (c := 168) (pc' := 44) rfl rfl rfl (by decide) rfl (by decide) (by omega) (by omega) rfl (by omega) (by omega) (by omega) (by omega) rfl ?_
          intro h5I h5E
          generalize h5w : pw_w gh3 168 ((fr + k3_4).toNat) (pw_i (pw_g gh3 139 (k3_4.toNat))) = h5 at h5I h5E ⊢
          have h5F := E3.tr (h5E.wk (W' := [139, 168]) (by first | rfl | simp))
          refine pw_inc E (pc' := 47) (ls' := [some (.ref 141), some (pw_i fr), some (.ref 155), some (pw_i z), some (pw_i (k3_4 + 1))]) rfl rfl rfl rfl ?_
          refine pw_goto E (pc' := 3) rfl (by decide) ?_
          exact ih3 _ (by omega) (k3_4 + 1) h5 h5I h5F (by omega) (by omega) (by first | exact pw_KP.st0 hx3_0 (by omega) I3 rfl (by omega) (by decide) (by omega) (by omega) (by omega) (by assumption) | exact pw_KP.st1 hx3_0 (by omega) I3 rfl (by omega) (by decide) (by omega) (by omega) (by omega) (by assumption)) rfl
        · intro hc6
          change ¬ (z = (0 : Int)) at hc6
          refine pw_ld E (pc' := 16) (st' := [.ref 155]) rfl (fun _ => rfl) ?_
          refine pw_ld E (pc' := 18) (st' := [pw_i k3_4, .ref 155]) rfl (fun _ => rfl) ?_
          refine pw_ld E (pc' := 19) (st' := [.ref 141, pw_i k3_4, .ref 155]) rfl (fun _ => rfl) ?_
          refine pw_getR (b := 184) I3 E (c := 125) (k := 57) (pc' := 22) rfl rfl rfl rfl rfl rfl rfl ?_
          refine pw_ld E (pc' := 23) (st' := [pw_i fr, .ref 184, pw_i k3_4, .ref 155]) rfl (fun _ => rfl) ?_
          refine pw_ld E (pc' := 25) (st' := [pw_i k3_4, pw_i fr, .ref 184, pw_i k3_4, .ref 155]) rfl (fun _ => rfl) ?_
          refine pw_add E (pc' := 26) rfl rfl ?_
          refine pw_ald2 I3 E (c := 168) (pc' := 27) rfl rfl rfl (by decide) rfl (by decide) (by omega) (by omega) rfl (fun hf7a hf7b => ?_)
          refine pw_ast0 I3 E (c := 139) (pc' := 28) rfl rfl rfl (by decide) rfl (by decide) (by omega) (by omega) rfl (by omega) (by omega) (by omega) (by omega) rfl ?_
          intro h8I h8E
          generalize h8w : pw_w gh3 139 (k3_4.toNat) (pw_i (pw_g gh3 168 ((fr + k3_4).toNat))) = h8 at h8I h8E ⊢
          have h8F := E3.tr (h8E.wk (W' := [139, 168]) (by first | rfl | simp))
          refine pw_goto E (pc' := 44) rfl (by decide) ?_
          refine pw_inc E (pc' := 47) (ls' := [some (.ref 141), some (pw_i fr), some (.ref 155), some (pw_i z), some (pw_i (k3_4 + 1))]) rfl rfl rfl rfl ?_
          refine pw_goto E (pc' := 3) rfl (by decide) ?_
          exact ih3 _ (by omega) (k3_4 + 1) h8 h8I h8F (by omega) (by omega) (by first | exact pw_KP.st0 hx3_0 (by omega) I3 rfl (by omega) (by decide) (by omega) (by omega) (by omega) (by assumption) | exact pw_KP.st1 hx3_0 (by omega) I3 rfl (by omega) (by decide) (by omega) (by omega) (by omega) (by assumption)) rfl
  exact L3 _ (0) h I E0 (by omega) (by omega) (pw_KP.rf (by omega)) rfl
set_option maxHeartbeats 4000000 in
theorem cm_307_140h {X : List (Nat × List Value)} {d : Nat} {h : pm_H} (hd : 1 ≤ d) (I : pw_I h) (fr : Int) (hfr1 : 0 ≤ fr) (hfr2 : fr ≤ 6624) (z : Int) (hz1 : 0 ≤ z) (hz2 : z ≤ 1) : pw X d h 307 0 [some (.ref 141), some (pw_i fr), some (.ref 156), some (pw_i z), none] [] (fun h' v => pw_I h' ∧ pw_E [140, 168] h h' ∧ (pw_KP h h' 140 fr z 288) ∧ (v = .inl none)) := by
  have E : pm_ent 307 = some (4, 5, 12, 4, pmc_307) := rfl
  have E0 : pw_E [140, 168] h h := pw_E.rf _ _
  refine pw_ld E (pc' := 1) (st' := [pw_i 0]) rfl (fun _ => rfl) ?_
  refine pw_ist E (pc' := 3) (ls' := [some (.ref 141), some (pw_i fr), some (.ref 156), some (pw_i z), some (pw_i 0)]) rfl rfl rfl rfl ?_
  have L3 : ∀ (n3 : Nat) (k3_4 : Int) (gh3 : pm_H), pw_I gh3 → pw_E [140, 168] h gh3 → 0 ≤ k3_4 → k3_4 ≤ 288 → pw_KP h gh3 140 fr z k3_4 → (288 - k3_4).toNat = n3 → pw X d gh3 307 3 [some (.ref 141), some (pw_i fr), some (.ref 156), some (pw_i z), some (pw_i k3_4)] [] (fun h' v => pw_I h' ∧ pw_E [140, 168] h h' ∧ (pw_KP h h' 140 fr z 288) ∧ (v = .inl none)) := by
    intro n3
    induction n3 using Nat.strongRecOn with
    | ind n3 ih3 =>
      intro k3_4 gh3 I3 E3 k3_4a k3_4b hx3_0 hm3
      refine pw_ld E (pc' := 5) (st' := [pw_i k3_4]) rfl (fun _ => rfl) ?_
      refine pw_sip E (pc' := 8) rfl rfl (by decide) ?_
      refine pw_if2 E (pc' := 50) rfl (by decide) (by omega) (by omega) (by decide) (by decide) ?_ ?_
      · intro hc1
        change (288 : Int) ≤ k3_4 at hc1
        refine pw_vret E rfl ?_
        exact ⟨I3, E3, ⟨(by rw [show (288 : Int) = k3_4 by omega]; exact hx3_0), rfl⟩⟩
      · intro hc2
        change ¬ ((288 : Int) ≤ k3_4) at hc2
        refine pw_ld E (pc' := 12) (st' := [pw_i z]) rfl (fun _ => rfl) ?_
        refine pw_if E (pc' := 31) rfl (by decide) (by omega) (by omega) ?_ ?_
        · intro hc3
          change z = (0 : Int) at hc3
          refine pw_ld E (pc' := 32) (st' := [.ref 141]) rfl (fun _ => rfl) ?_
          refine pw_getR (b := 184) I3 E (c := 125) (k := 57) (pc' := 35) rfl rfl rfl rfl rfl rfl rfl ?_
          refine pw_ld E (pc' := 36) (st' := [pw_i fr, .ref 184]) rfl (fun _ => rfl) ?_
          refine pw_ld E (pc' := 38) (st' := [pw_i k3_4, pw_i fr, .ref 184]) rfl (fun _ => rfl) ?_
          refine pw_add E (pc' := 39) rfl rfl ?_
          refine pw_ld E (pc' := 40) (st' := [.ref 156, pw_i (fr + k3_4), .ref 184]) rfl (fun _ => rfl) ?_
          refine pw_ld E (pc' := 42) (st' := [pw_i k3_4, .ref 156, pw_i (fr + k3_4), .ref 184]) rfl (fun _ => rfl) ?_
          refine pw_ald2 I3 E (c := 140) (pc' := 43) rfl rfl rfl (by decide) rfl (by decide) (by omega) (by omega) rfl (fun hf4a hf4b => ?_)
          refine pw_ast0 I3 E (c := 168) (pc' := 44) rfl rfl rfl (by decide) rfl (by decide) (by omega) (by omega) rfl (by omega) (by omega) (by omega) (by omega) rfl ?_
          intro h5I h5E
          generalize h5w : pw_w gh3 168 ((fr + k3_4).toNat) (pw_i (pw_g gh3 140 (k3_4.toNat))) = h5 at h5I h5E ⊢
          have h5F := E3.tr (h5E.wk (W' := [140, 168]) (by first | rfl | simp))
          refine pw_inc E (pc' := 47) (ls' := [some (.ref 141), some (pw_i fr), some (.ref 156), some (pw_i z), some (pw_i (k3_4 + 1))]) rfl rfl rfl rfl ?_
          refine pw_goto E (pc' := 3) rfl (by decide) ?_
          exact ih3 _ (by omega) (k3_4 + 1) h5 h5I h5F (by omega) (by omega) (by first | exact pw_KP.st0 hx3_0 (by omega) I3 rfl (by omega) (by decide) (by omega) (by omega) (by omega) (by assumption) | exact pw_KP.st1 hx3_0 (by omega) I3 rfl (by omega) (by decide) (by omega) (by omega) (by omega) (by assumption)) rfl
        · intro hc6
          change ¬ (z = (0 : Int)) at hc6
          refine pw_ld E (pc' := 16) (st' := [.ref 156]) rfl (fun _ => rfl) ?_
          refine pw_ld E (pc' := 18) (st' := [pw_i k3_4, .ref 156]) rfl (fun _ => rfl) ?_
          refine pw_ld E (pc' := 19) (st' := [.ref 141, pw_i k3_4, .ref 156]) rfl (fun _ => rfl) ?_
          refine pw_getR (b := 184) I3 E (c := 125) (k := 57) (pc' := 22) rfl rfl rfl rfl rfl rfl rfl ?_
          refine pw_ld E (pc' := 23) (st' := [pw_i fr, .ref 184, pw_i k3_4, .ref 156]) rfl (fun _ => rfl) ?_
          refine pw_ld E (pc' := 25) (st' := [pw_i k3_4, pw_i fr, .ref 184, pw_i k3_4, .ref 156]) rfl (fun _ => rfl) ?_
          refine pw_add E (pc' := 26) rfl rfl ?_
          refine pw_ald2 I3 E (c := 168) (pc' := 27) rfl rfl rfl (by decide) rfl (by decide) (by omega) (by omega) rfl (fun hf7a hf7b => ?_)
          refine pw_ast0 I3 E (c := 140) (pc' := 28) rfl rfl rfl (by decide) rfl (by decide) (by omega) (by omega) rfl (by omega) (by omega) (by omega) (by omega) rfl ?_
          intro h8I h8E
          generalize h8w : pw_w gh3 140 (k3_4.toNat) (pw_i (pw_g gh3 168 ((fr + k3_4).toNat))) = h8 at h8I h8E ⊢
          have h8F := E3.tr (h8E.wk (W' := [140, 168]) (by first | rfl | simp))
          refine pw_goto E (pc' := 44) rfl (by decide) ?_
          refine pw_inc E (pc' := 47) (ls' := [some (.ref 141), some (pw_i fr), some (.ref 156), some (pw_i z), some (pw_i (k3_4 + 1))]) rfl rfl rfl rfl ?_
          refine pw_goto E (pc' := 3) rfl (by decide) ?_
          exact ih3 _ (by omega) (k3_4 + 1) h8 h8I h8F (by omega) (by omega) (by first | exact pw_KP.st0 hx3_0 (by omega) I3 rfl (by omega) (by decide) (by omega) (by omega) (by omega) (by assumption) | exact pw_KP.st1 hx3_0 (by omega) I3 rfl (by omega) (by decide) (by omega) (by omega) (by omega) (by assumption)) rfl
  exact L3 _ (0) h I E0 (by omega) (by omega) (pw_KP.rf (by omega)) rfl
set_option maxHeartbeats 4000000 in
theorem cm_307_141h {X : List (Nat × List Value)} {d : Nat} {h : pm_H} (hd : 1 ≤ d) (I : pw_I h) (fr : Int) (hfr1 : 0 ≤ fr) (hfr2 : fr ≤ 6624) (z : Int) (hz1 : 0 ≤ z) (hz2 : z ≤ 1) : pw X d h 307 0 [some (.ref 141), some (pw_i fr), some (.ref 157), some (pw_i z), none] [] (fun h' v => pw_I h' ∧ pw_E [141, 168] h h' ∧ (pw_KP h h' 141 fr z 288) ∧ (v = .inl none)) := by
  have E : pm_ent 307 = some (4, 5, 12, 4, pmc_307) := rfl
  have E0 : pw_E [141, 168] h h := pw_E.rf _ _
  refine pw_ld E (pc' := 1) (st' := [pw_i 0]) rfl (fun _ => rfl) ?_
  refine pw_ist E (pc' := 3) (ls' := [some (.ref 141), some (pw_i fr), some (.ref 157), some (pw_i z), some (pw_i 0)]) rfl rfl rfl rfl ?_
  have L3 : ∀ (n3 : Nat) (k3_4 : Int) (gh3 : pm_H), pw_I gh3 → pw_E [141, 168] h gh3 → 0 ≤ k3_4 → k3_4 ≤ 288 → pw_KP h gh3 141 fr z k3_4 → (288 - k3_4).toNat = n3 → pw X d gh3 307 3 [some (.ref 141), some (pw_i fr), some (.ref 157), some (pw_i z), some (pw_i k3_4)] [] (fun h' v => pw_I h' ∧ pw_E [141, 168] h h' ∧ (pw_KP h h' 141 fr z 288) ∧ (v = .inl none)) := by
    intro n3
    induction n3 using Nat.strongRecOn with
    | ind n3 ih3 =>
      intro k3_4 gh3 I3 E3 k3_4a k3_4b hx3_0 hm3
      refine pw_ld E (pc' := 5) (st' := [pw_i k3_4]) rfl (fun _ => rfl) ?_
      refine pw_sip E (pc' := 8) rfl rfl (by decide) ?_
      refine pw_if2 E (pc' := 50) rfl (by decide) (by omega) (by omega) (by decide) (by decide) ?_ ?_
      · intro hc1
        change (288 : Int) ≤ k3_4 at hc1
        refine pw_vret E rfl ?_
        exact ⟨I3, E3, ⟨(by rw [show (288 : Int) = k3_4 by omega]; exact hx3_0), rfl⟩⟩
      · intro hc2
        change ¬ ((288 : Int) ≤ k3_4) at hc2
        refine pw_ld E (pc' := 12) (st' := [pw_i z]) rfl (fun _ => rfl) ?_
        refine pw_if E (pc' := 31) rfl (by decide) (by omega) (by omega) ?_ ?_
        · intro hc3
          change z = (0 : Int) at hc3
          refine pw_ld E (pc' := 32) (st' := [.ref 141]) rfl (fun _ => rfl) ?_
          refine pw_getR (b := 184) I3 E (c := 125) (k := 57) (pc' := 35) rfl rfl rfl rfl rfl rfl rfl ?_
          refine pw_ld E (pc' := 36) (st' := [pw_i fr, .ref 184]) rfl (fun _ => rfl) ?_
          refine pw_ld E (pc' := 38) (st' := [pw_i k3_4, pw_i fr, .ref 184]) rfl (fun _ => rfl) ?_
          refine pw_add E (pc' := 39) rfl rfl ?_
          refine pw_ld E (pc' := 40) (st' := [.ref 157, pw_i (fr + k3_4), .ref 184]) rfl (fun _ => rfl) ?_
          refine pw_ld E (pc' := 42) (st' := [pw_i k3_4, .ref 157, pw_i (fr + k3_4), .ref 184]) rfl (fun _ => rfl) ?_
          refine pw_ald2 I3 E (c := 141) (pc' := 43) rfl rfl rfl (by decide) rfl (by decide) (by omega) (by omega) rfl (fun hf4a hf4b => ?_)
          refine pw_ast0 I3 E (c := 168) (pc' := 44) rfl rfl rfl (by decide) rfl (by decide) (by omega) (by omega) rfl (by omega) (by omega) (by omega) (by omega) rfl ?_
          intro h5I h5E
          generalize h5w : pw_w gh3 168 ((fr + k3_4).toNat) (pw_i (pw_g gh3 141 (k3_4.toNat))) = h5 at h5I h5E ⊢
          have h5F := E3.tr (h5E.wk (W' := [141, 168]) (by first | rfl | simp))
          refine pw_inc E (pc' := 47) (ls' := [some (.ref 141), some (pw_i fr), some (.ref 157), some (pw_i z), some (pw_i (k3_4 + 1))]) rfl rfl rfl rfl ?_
          refine pw_goto E (pc' := 3) rfl (by decide) ?_
          exact ih3 _ (by omega) (k3_4 + 1) h5 h5I h5F (by omega) (by omega) (by first | exact pw_KP.st0 hx3_0 (by omega) I3 rfl (by omega) (by decide) (by omega) (by omega) (by omega) (by assumption) | exact pw_KP.st1 hx3_0 (by omega) I3 rfl (by omega) (by decide) (by omega) (by omega) (by omega) (by assumption)) rfl
        · intro hc6
          change ¬ (z = (0 : Int)) at hc6
          refine pw_ld E (pc' := 16) (st' := [.ref 157]) rfl (fun _ => rfl) ?_
          refine pw_ld E (pc' := 18) (st' := [pw_i k3_4, .ref 157]) rfl (fun _ => rfl) ?_
          refine pw_ld E (pc' := 19) (st' := [.ref 141, pw_i k3_4, .ref 157]) rfl (fun _ => rfl) ?_
          refine pw_getR (b := 184) I3 E (c := 125) (k := 57) (pc' := 22) rfl rfl rfl rfl rfl rfl rfl ?_
          refine pw_ld E (pc' := 23) (st' := [pw_i fr, .ref 184, pw_i k3_4, .ref 157]) rfl (fun _ => rfl) ?_
          refine pw_ld E (pc' := 25) (st' := [pw_i k3_4, pw_i fr, .ref 184, pw_i k3_4, .ref 157]) rfl (fun _ => rfl) ?_
          refine pw_add E (pc' := 26) rfl rfl ?_
          refine pw_ald2 I3 E (c := 168) (pc' := 27) rfl rfl rfl (by decide) rfl (by decide) (by omega) (by omega) rfl (fun hf7a hf7b => ?_)
          refine pw_ast0 I3 E (c := 141) (pc' := 28) rfl rfl rfl (by decide) rfl (by decide) (by omega) (by omega) rfl (by omega) (by omega) (by omega) (by omega) rfl ?_
          intro h8I h8E
          generalize h8w : pw_w gh3 141 (k3_4.toNat) (pw_i (pw_g gh3 168 ((fr + k3_4).toNat))) = h8 at h8I h8E ⊢
          have h8F := E3.tr (h8E.wk (W' := [141, 168]) (by first | rfl | simp))
          refine pw_goto E (pc' := 44) rfl (by decide) ?_
          refine pw_inc E (pc' := 47) (ls' := [some (.ref 141), some (pw_i fr), some (.ref 157), some (pw_i z), some (pw_i (k3_4 + 1))]) rfl rfl rfl rfl ?_
          refine pw_goto E (pc' := 3) rfl (by decide) ?_
          exact ih3 _ (by omega) (k3_4 + 1) h8 h8I h8F (by omega) (by omega) (by first | exact pw_KP.st0 hx3_0 (by omega) I3 rfl (by omega) (by decide) (by omega) (by omega) (by omega) (by assumption) | exact pw_KP.st1 hx3_0 (by omega) I3 rfl (by omega) (by decide) (by omega) (by omega) (by omega) (by assumption)) rfl
  exact L3 _ (0) h I E0 (by omega) (by omega) (pw_KP.rf (by omega)) rfl
set_option maxHeartbeats 4000000 in
theorem cm_307_142h {X : List (Nat × List Value)} {d : Nat} {h : pm_H} (hd : 1 ≤ d) (I : pw_I h) (fr : Int) (hfr1 : 0 ≤ fr) (hfr2 : fr ≤ 6624) (z : Int) (hz1 : 0 ≤ z) (hz2 : z ≤ 1) : pw X d h 307 0 [some (.ref 141), some (pw_i fr), some (.ref 158), some (pw_i z), none] [] (fun h' v => pw_I h' ∧ pw_E [142, 168] h h' ∧ (pw_KP h h' 142 fr z 288) ∧ (v = .inl none)) := by
  have E : pm_ent 307 = some (4, 5, 12, 4, pmc_307) := rfl
  have E0 : pw_E [142, 168] h h := pw_E.rf _ _
  refine pw_ld E (pc' := 1) (st' := [pw_i 0]) rfl (fun _ => rfl) ?_
  refine pw_ist E (pc' := 3) (ls' := [some (.ref 141), some (pw_i fr), some (.ref 158), some (pw_i z), some (pw_i 0)]) rfl rfl rfl rfl ?_
  have L3 : ∀ (n3 : Nat) (k3_4 : Int) (gh3 : pm_H), pw_I gh3 → pw_E [142, 168] h gh3 → 0 ≤ k3_4 → k3_4 ≤ 288 → pw_KP h gh3 142 fr z k3_4 → (288 - k3_4).toNat = n3 → pw X d gh3 307 3 [some (.ref 141), some (pw_i fr), some (.ref 158), some (pw_i z), some (pw_i k3_4)] [] (fun h' v => pw_I h' ∧ pw_E [142, 168] h h' ∧ (pw_KP h h' 142 fr z 288) ∧ (v = .inl none)) := by
    intro n3
    induction n3 using Nat.strongRecOn with
    | ind n3 ih3 =>
      intro k3_4 gh3 I3 E3 k3_4a k3_4b hx3_0 hm3
      refine pw_ld E (pc' := 5) (st' := [pw_i k3_4]) rfl (fun _ => rfl) ?_
      refine pw_sip E (pc' := 8) rfl rfl (by decide) ?_
      refine pw_if2 E (pc' := 50) rfl (by decide) (by omega) (by omega) (by decide) (by decide) ?_ ?_
      · intro hc1
        change (288 : Int) ≤ k3_4 at hc1
        refine pw_vret E rfl ?_
        exact ⟨I3, E3, ⟨(by rw [show (288 : Int) = k3_4 by omega]; exact hx3_0), rfl⟩⟩
      · intro hc2
        change ¬ ((288 : Int) ≤ k3_4) at hc2
        refine pw_ld E (pc' := 12) (st' := [pw_i z]) rfl (fun _ => rfl) ?_
        refine pw_if E (pc' := 31) rfl (by decide) (by omega) (by omega) ?_ ?_
        · intro hc3
          change z = (0 : Int) at hc3
          refine pw_ld E (pc' := 32) (st' := [.ref 141]) rfl (fun _ => rfl) ?_
          refine pw_getR (b := 184) I3 E (c := 125) (k := 57) (pc' := 35) rfl rfl rfl rfl rfl rfl rfl ?_
          refine pw_ld E (pc' := 36) (st' := [pw_i fr, .ref 184]) rfl (fun _ => rfl) ?_
          refine pw_ld E (pc' := 38) (st' := [pw_i k3_4, pw_i fr, .ref 184]) rfl (fun _ => rfl) ?_
          refine pw_add E (pc' := 39) rfl rfl ?_
          refine pw_ld E (pc' := 40) (st' := [.ref 158, pw_i (fr + k3_4), .ref 184]) rfl (fun _ => rfl) ?_
          refine pw_ld E (pc' := 42) (st' := [pw_i k3_4, .ref 158, pw_i (fr + k3_4), .ref 184]) rfl (fun _ => rfl) ?_
          refine pw_ald2 I3 E (c := 142) (pc' := 43) rfl rfl rfl (by decide) rfl (by decide) (by omega) (by omega) rfl (fun hf4a hf4b => ?_)
          refine pw_ast0 I3 E (c := 168) (pc' := 44) rfl rfl rfl (by decide) rfl (by decide) (by omega) (by omega) rfl (by omega) (by omega) (by omega) (by omega) rfl ?_
          intro h5I h5E
          generalize h5w : pw_w gh3 168 ((fr + k3_4).toNat) (pw_i (pw_g gh3 142 (k3_4.toNat))) = h5 at h5I h5E ⊢
          have h5F := E3.tr (h5E.wk (W' := [142, 168]) (by first | rfl | simp))
          refine pw_inc E (pc' := 47) (ls' := [some (.ref 141), some (pw_i fr), some (.ref 158), some (pw_i z), some (pw_i (k3_4 + 1))]) rfl rfl rfl rfl ?_
          refine pw_goto E (pc' := 3) rfl (by decide) ?_
          exact ih3 _ (by omega) (k3_4 + 1) h5 h5I h5F (by omega) (by omega) (by first | exact pw_KP.st0 hx3_0 (by omega) I3 rfl (by omega) (by decide) (by omega) (by omega) (by omega) (by assumption) | exact pw_KP.st1 hx3_0 (by omega) I3 rfl (by omega) (by decide) (by omega) (by omega) (by omega) (by assumption)) rfl
        · intro hc6
          change ¬ (z = (0 : Int)) at hc6
          refine pw_ld E (pc' := 16) (st' := [.ref 158]) rfl (fun _ => rfl) ?_
          refine pw_ld E (pc' := 18) (st' := [pw_i k3_4, .ref 158]) rfl (fun _ => rfl) ?_
          refine pw_ld E (pc' := 19) (st' := [.ref 141, pw_i k3_4, .ref 158]) rfl (fun _ => rfl) ?_
          refine pw_getR (b := 184) I3 E (c := 125) (k := 57) (pc' := 22) rfl rfl rfl rfl rfl rfl rfl ?_
          refine pw_ld E (pc' := 23) (st' := [pw_i fr, .ref 184, pw_i k3_4, .ref 158]) rfl (fun _ => rfl) ?_
          refine pw_ld E (pc' := 25) (st' := [pw_i k3_4, pw_i fr, .ref 184, pw_i k3_4, .ref 158]) rfl (fun _ => rfl) ?_
          refine pw_add E (pc' := 26) rfl rfl ?_
          refine pw_ald2 I3 E (c := 168) (pc' := 27) rfl rfl rfl (by decide) rfl (by decide) (by omega) (by omega) rfl (fun hf7a hf7b => ?_)
          refine pw_ast0 I3 E (c := 142) (pc' := 28) rfl rfl rfl (by decide) rfl (by decide) (by omega) (by omega) rfl (by omega) (by omega) (by omega) (by omega) rfl ?_
          intro h8I h8E
          generalize h8w : pw_w gh3 142 (k3_4.toNat) (pw_i (pw_g gh3 168 ((fr + k3_4).toNat))) = h8 at h8I h8E ⊢
          have h8F := E3.tr (h8E.wk (W' := [142, 168]) (by first | rfl | simp))
          refine pw_goto E (pc' := 44) rfl (by decide) ?_
          refine pw_inc E (pc' := 47) (ls' := [some (.ref 141), some (pw_i fr), some (.ref 158), some (pw_i z), some (pw_i (k3_4 + 1))]) rfl rfl rfl rfl ?_
          refine pw_goto E (pc' := 3) rfl (by decide) ?_
          exact ih3 _ (by omega) (k3_4 + 1) h8 h8I h8F (by omega) (by omega) (by first | exact pw_KP.st0 hx3_0 (by omega) I3 rfl (by omega) (by decide) (by omega) (by omega) (by omega) (by assumption) | exact pw_KP.st1 hx3_0 (by omega) I3 rfl (by omega) (by decide) (by omega) (by omega) (by omega) (by assumption)) rfl
  exact L3 _ (0) h I E0 (by omega) (by omega) (pw_KP.rf (by omega)) rfl
set_option maxHeartbeats 4000000 in
theorem cm_307_143h {X : List (Nat × List Value)} {d : Nat} {h : pm_H} (hd : 1 ≤ d) (I : pw_I h) (fr : Int) (hfr1 : 0 ≤ fr) (hfr2 : fr ≤ 6624) (z : Int) (hz1 : 0 ≤ z) (hz2 : z ≤ 1) : pw X d h 307 0 [some (.ref 141), some (pw_i fr), some (.ref 159), some (pw_i z), none] [] (fun h' v => pw_I h' ∧ pw_E [143, 168] h h' ∧ (pw_KP h h' 143 fr z 288) ∧ (v = .inl none)) := by
  have E : pm_ent 307 = some (4, 5, 12, 4, pmc_307) := rfl
  have E0 : pw_E [143, 168] h h := pw_E.rf _ _
  refine pw_ld E (pc' := 1) (st' := [pw_i 0]) rfl (fun _ => rfl) ?_
  refine pw_ist E (pc' := 3) (ls' := [some (.ref 141), some (pw_i fr), some (.ref 159), some (pw_i z), some (pw_i 0)]) rfl rfl rfl rfl ?_
  have L3 : ∀ (n3 : Nat) (k3_4 : Int) (gh3 : pm_H), pw_I gh3 → pw_E [143, 168] h gh3 → 0 ≤ k3_4 → k3_4 ≤ 288 → pw_KP h gh3 143 fr z k3_4 → (288 - k3_4).toNat = n3 → pw X d gh3 307 3 [some (.ref 141), some (pw_i fr), some (.ref 159), some (pw_i z), some (pw_i k3_4)] [] (fun h' v => pw_I h' ∧ pw_E [143, 168] h h' ∧ (pw_KP h h' 143 fr z 288) ∧ (v = .inl none)) := by
    intro n3
    induction n3 using Nat.strongRecOn with
    | ind n3 ih3 =>
      intro k3_4 gh3 I3 E3 k3_4a k3_4b hx3_0 hm3
      refine pw_ld E (pc' := 5) (st' := [pw_i k3_4]) rfl (fun _ => rfl) ?_
      refine pw_sip E (pc' := 8) rfl rfl (by decide) ?_
      refine pw_if2 E (pc' := 50) rfl (by decide) (by omega) (by omega) (by decide) (by decide) ?_ ?_
      · intro hc1
        change (288 : Int) ≤ k3_4 at hc1
        refine pw_vret E rfl ?_
        exact ⟨I3, E3, ⟨(by rw [show (288 : Int) = k3_4 by omega]; exact hx3_0), rfl⟩⟩
      · intro hc2
        change ¬ ((288 : Int) ≤ k3_4) at hc2
        refine pw_ld E (pc' := 12) (st' := [pw_i z]) rfl (fun _ => rfl) ?_
        refine pw_if E (pc' := 31) rfl (by decide) (by omega) (by omega) ?_ ?_
        · intro hc3
          change z = (0 : Int) at hc3
          refine pw_ld E (pc' := 32) (st' := [.ref 141]) rfl (fun _ => rfl) ?_
          refine pw_getR (b := 184) I3 E (c := 125) (k := 57) (pc' := 35) rfl rfl rfl rfl rfl rfl rfl ?_
          refine pw_ld E (pc' := 36) (st' := [pw_i fr, .ref 184]) rfl (fun _ => rfl) ?_
          refine pw_ld E (pc' := 38) (st' := [pw_i k3_4, pw_i fr, .ref 184]) rfl (fun _ => rfl) ?_
          refine pw_add E (pc' := 39) rfl rfl ?_
          refine pw_ld E (pc' := 40) (st' := [.ref 159, pw_i (fr + k3_4), .ref 184]) rfl (fun _ => rfl) ?_
          refine pw_ld E (pc' := 42) (st' := [pw_i k3_4, .ref 159, pw_i (fr + k3_4), .ref 184]) rfl (fun _ => rfl) ?_
          refine pw_ald2 I3 E (c := 143) (pc' := 43) rfl rfl rfl (by decide) rfl (by decide) (by omega) (by omega) rfl (fun hf4a hf4b => ?_)
          refine pw_ast0 I3 E (c := 168) (pc' := 44) rfl rfl rfl (by decide) rfl (by decide) (by omega) (by omega) rfl (by omega) (by omega) (by omega) (by omega) rfl ?_
          intro h5I h5E
          generalize h5w : pw_w gh3 168 ((fr + k3_4).toNat) (pw_i (pw_g gh3 143 (k3_4.toNat))) = h5 at h5I h5E ⊢
          have h5F := E3.tr (h5E.wk (W' := [143, 168]) (by first | rfl | simp))
          refine pw_inc E (pc' := 47) (ls' := [some (.ref 141), some (pw_i fr), some (.ref 159), some (pw_i z), some (pw_i (k3_4 + 1))]) rfl rfl rfl rfl ?_
          refine pw_goto E (pc' := 3) rfl (by decide) ?_
          exact ih3 _ (by omega) (k3_4 + 1) h5 h5I h5F (by omega) (by omega) (by first | exact pw_KP.st0 hx3_0 (by omega) I3 rfl (by omega) (by decide) (by omega) (by omega) (by omega) (by assumption) | exact pw_KP.st1 hx3_0 (by omega) I3 rfl (by omega) (by decide) (by omega) (by omega) (by omega) (by assumption)) rfl
        · intro hc6
          change ¬ (z = (0 : Int)) at hc6
          refine pw_ld E (pc' := 16) (st' := [.ref 159]) rfl (fun _ => rfl) ?_
          refine pw_ld E (pc' := 18) (st' := [pw_i k3_4, .ref 159]) rfl (fun _ => rfl) ?_
          refine pw_ld E (pc' := 19) (st' := [.ref 141, pw_i k3_4, .ref 159]) rfl (fun _ => rfl) ?_
          refine pw_getR (b := 184) I3 E (c := 125) (k := 57) (pc' := 22) rfl rfl rfl rfl rfl rfl rfl ?_
          refine pw_ld E (pc' := 23) (st' := [pw_i fr, .ref 184, pw_i k3_4, .ref 159]) rfl (fun _ => rfl) ?_
          refine pw_ld E (pc' := 25) (st' := [pw_i k3_4, pw_i fr, .ref 184, pw_i k3_4, .ref 159]) rfl (fun _ => rfl) ?_
          refine pw_add E (pc' := 26) rfl rfl ?_
          refine pw_ald2 I3 E (c := 168) (pc' := 27) rfl rfl rfl (by decide) rfl (by decide) (by omega) (by omega) rfl (fun hf7a hf7b => ?_)
          refine pw_ast0 I3 E (c := 143) (pc' := 28) rfl rfl rfl (by decide) rfl (by decide) (by omega) (by omega) rfl (by omega) (by omega) (by omega) (by omega) rfl ?_
          intro h8I h8E
          generalize h8w : pw_w gh3 143 (k3_4.toNat) (pw_i (pw_g gh3 168 ((fr + k3_4).toNat))) = h8 at h8I h8E ⊢
          have h8F := E3.tr (h8E.wk (W' := [143, 168]) (by first | rfl | simp))
          refine pw_goto E (pc' := 44) rfl (by decide) ?_
          refine pw_inc E (pc' := 47) (ls' := [some (.ref 141), some (pw_i fr), some (.ref 159), some (pw_i z), some (pw_i (k3_4 + 1))]) rfl rfl rfl rfl ?_
          refine pw_goto E (pc' := 3) rfl (by decide) ?_
          exact ih3 _ (by omega) (k3_4 + 1) h8 h8I h8F (by omega) (by omega) (by first | exact pw_KP.st0 hx3_0 (by omega) I3 rfl (by omega) (by decide) (by omega) (by omega) (by omega) (by assumption) | exact pw_KP.st1 hx3_0 (by omega) I3 rfl (by omega) (by decide) (by omega) (by omega) (by omega) (by assumption)) rfl
  exact L3 _ (0) h I E0 (by omega) (by omega) (pw_KP.rf (by omega)) rfl
set_option maxHeartbeats 4000000 in
theorem cm_306_h {X : List (Nat × List Value)} {d : Nat} {h : pm_H} (hd : 2 ≤ d) (I : pw_I h) (mk : Int) (hmk1 : (-2147483648) ≤ mk) (hmk2 : mk ≤ 2147483647) (z : Int) (hz1 : 0 ≤ z) (hz2 : z ≤ 1) : pw X d h 306 0 [some (.ref 141), some (pw_i mk), some (pw_i z), none] [] (fun h' v => pw_I h' ∧ pw_E [125, 138, 139, 140, 141, 142, 143, 166, 167, 168, 1041] h h' ∧ ∃ a : Int, v = .inl (some (pw_i a)) ∧ 0 ≤ a ∧ a ≤ 1 ∧ (pw_MT (pw_g h 125 41) (pw_g h' 125 41) (pw_g h 167) (pw_g h 166) (pw_g h' 167) (pw_g h' 166) mk z a ∧ pw_ST h h' mk z a)) := by
  have E : pm_ent 306 = some (3, 4, 12, 1, pmc_306) := rfl
  have E0 : pw_E [125, 138, 139, 140, 141, 142, 143, 166, 167, 168, 1041] h h := pw_E.rf _ _
  refine pw_ld E (pc' := 1) (st' := [.ref 141]) rfl (fun _ => rfl) ?_
  refine pw_ld E (pc' := 2) (st' := [pw_i 0, .ref 141]) rfl (fun _ => rfl) ?_
  refine pw_putI I E (c := 125) (k := 0) (pc' := 5) rfl rfl rfl rfl (by omega) (by omega) (by omega) (by omega) rfl rfl ?_
  intro h1I h1E
  generalize h1w : pw_w h 125 0 (pw_i 0) = h1 at h1I h1E ⊢
  have h1F := E0.tr (h1E.wk (W' := [125, 138, 139, 140, 141, 142, 143, 166, 167, 168, 1041]) (by first | rfl | simp))
  refine pw_ld E (pc' := 6) (st' := [pw_i mk]) rfl (fun _ => rfl) ?_
  refine pw_ld E (pc' := 7) (st' := [pw_i 0, pw_i mk]) rfl (fun _ => rfl) ?_
  refine pw_ld E (pc' := 8) (st' := [pw_i 3, pw_i 0, pw_i mk]) rfl (fun _ => rfl) ?_
  refine pw_call (m' := 202) (As := [pw_i mk, pw_i 0, pw_i 3]) (rest := []) (ls'' := [some (pw_i mk), some (pw_i 0), some (pw_i 3)]) (Nat.le_trans (by decide) hd) E rfl (fun _ => pw_iS rfl rfl rfl) (rfl : pm_ent 202 = some (3, 3, 12, 1, pmc_202)) rfl rfl (cm_202 (pw_dp hd (by decide)) h1I (mk) (by omega) (by omega) (0) (by omega) (by omega) (3) (by omega) (by omega)) ?_
  rintro u3 v2 ⟨rfl, x4, rfl, hx4a, hx4b, hx4r⟩
  refine ⟨_, rfl, ?_⟩
  show pw X d h1 306 11 [some (.ref 141), some (pw_i mk), some (pw_i z), none] [pw_i x4] _
  change (x4 = 1 ∧ 0 ≤ mk ∧ mk ≤ 3) ∨ (x4 = 0 ∧ ¬ (0 ≤ mk ∧ mk ≤ 3)) at hx4r
  rcases (by omega : x4 = 1 ∨ x4 = 0) with hb5 | hb5
  · skip
    refine pw_if E (pc' := 40) rfl (by decide) (by omega) (by omega) ?_ ?_
    · intro hc6
      change x4 = (0 : Int) at hc6
      exfalso; omega
    · intro hc7
      change ¬ (x4 = (0 : Int)) at hc7
      refine pw_ld E (pc' := 15) (st' := [pw_i z]) rfl (fun _ => rfl) ?_
      refine pw_if E (pc' := 42) rfl (by decide) (by omega) (by omega) ?_ ?_
      · intro hc8
        change z = (0 : Int) at hc8
        refine pw_ld E (pc' := 43) (st' := [pw_i z]) rfl (fun _ => rfl) ?_
        refine pw_if E (pc' := 59) rfl (by decide) (by omega) (by omega) ?_ ?_
        · intro hc9
          change z = (0 : Int) at hc9
          refine pw_ld E (pc' := 60) (st' := [.ref 141]) rfl (fun _ => rfl) ?_
          refine pw_getR (b := 182) h1I E (c := 125) (k := 55) (pc' := 63) rfl rfl rfl rfl rfl rfl rfl ?_
          refine pw_ld E (pc' := 64) (st' := [pw_i mk, .ref 182]) rfl (fun _ => rfl) ?_
          refine pw_ld E (pc' := 65) (st' := [pw_i 1, pw_i mk, .ref 182]) rfl (fun _ => rfl) ?_
          refine pw_ast0 h1I E (c := 166) (pc' := 66) rfl rfl rfl (by decide) rfl (by decide) (by omega) (by omega) (pw_b1 (by omega) (by omega)) (by omega) (by omega) (by omega) (by omega) rfl ?_
          intro h10I h10E
          generalize h10w : pw_w h1 166 (mk.toNat) (pw_i 1) = h10 at h10I h10E ⊢
          have h10F := h1F.tr (h10E.wk (W' := [125, 138, 139, 140, 141, 142, 143, 166, 167, 168, 1041]) (by first | rfl | simp))
          refine pw_ld E (pc' := 67) (st' := [.ref 141]) rfl (fun _ => rfl) ?_
          refine pw_getR (b := 183) h10I E (c := 125) (k := 56) (pc' := 70) rfl rfl rfl rfl rfl rfl rfl ?_
          refine pw_ld E (pc' := 71) (st' := [pw_i mk, .ref 183]) rfl (fun _ => rfl) ?_
          refine pw_ld E (pc' := 72) (st' := [.ref 141, pw_i mk, .ref 183]) rfl (fun _ => rfl) ?_
          refine pw_getI2 h10I E (c := 125) (k := 41) (pc' := 75) rfl rfl rfl rfl rfl rfl (fun hf11a hf11b => ?_)
          refine pw_ast0 h10I E (c := 167) (pc' := 76) rfl rfl rfl (by decide) rfl (by decide) (by omega) (by omega) rfl (by omega) (by omega) (by omega) (by omega) rfl ?_
          intro h12I h12E
          generalize h12w : pw_w h10 167 (mk.toNat) (pw_i (pw_g h10 125 41)) = h12 at h12I h12E ⊢
          have h12F := h10F.tr (h12E.wk (W' := [125, 138, 139, 140, 141, 142, 143, 166, 167, 168, 1041]) (by first | rfl | simp))
          refine pw_sip E (pc' := 79) rfl rfl (by decide) ?_
          refine pw_ld E (pc' := 80) (st' := [pw_i mk, pw_i 1728]) rfl (fun _ => rfl) ?_
          refine pw_mul E (pc' := 81) rfl rfl ?_
          refine pw_istn E (pc' := 82) (ls' := [some (.ref 141), some (pw_i mk), some (pw_i z), some (pw_i (1728 * mk))]) rfl rfl rfl rfl ?_
          refine pw_ld E (pc' := 83) (st' := [.ref 141]) rfl (fun _ => rfl) ?_
          refine pw_ld E (pc' := 84) (st' := [pw_i (1728 * mk), .ref 141]) rfl (fun _ => rfl) ?_
          refine pw_ld E (pc' := 85) (st' := [.ref 141, pw_i (1728 * mk), .ref 141]) rfl (fun _ => rfl) ?_
          refine pw_getR (b := 154) h12I E (c := 125) (k := 18) (pc' := 88) rfl rfl rfl rfl rfl rfl rfl ?_
          refine pw_ld E (pc' := 89) (st' := [pw_i z, .ref 154, pw_i (1728 * mk), .ref 141]) rfl (fun _ => rfl) ?_
          obtain ⟨f13l, f13h, -⟩ := pw_obj (c := 125) h12I rfl
          refine pw_call (m' := 307) (As := [.ref 141, pw_i (1728 * mk), .ref 154, pw_i z]) (rest := []) (ls'' := [some (.ref 141), some (pw_i (1728 * mk)), some (.ref 154), some (pw_i z), none]) (Nat.le_trans (by decide) hd) E rfl (fun _ => pw_iV rfl rfl rfl rfl (pw_cellI f13h rfl)) (rfl : pm_ent 307 = some (4, 5, 12, 4, pmc_307)) rfl rfl (cm_307_138h (pw_dp hd (by decide)) h12I (1728 * mk) (by omega) (by omega) (z) (by omega) (by omega)) ?_
          rintro h14 v15 ⟨h14I, h14E, hqk138, rfl⟩
          refine ⟨_, rfl, ?_⟩
          have h14F := h12F.tr (h14E.wk (W' := [125, 138, 139, 140, 141, 142, 143, 166, 167, 168, 1041]) (by first | rfl | simp))
          show pw X d h14 306 92 [some (.ref 141), some (pw_i mk), some (pw_i z), some (pw_i (1728 * mk))] [] _
          refine pw_ld E (pc' := 93) (st' := [.ref 141]) rfl (fun _ => rfl) ?_
          refine pw_ld E (pc' := 94) (st' := [pw_i (1728 * mk), .ref 141]) rfl (fun _ => rfl) ?_
          refine pw_sip E (pc' := 97) rfl rfl (by decide) ?_
          refine pw_add E (pc' := 98) rfl rfl ?_
          refine pw_ld E (pc' := 99) (st' := [.ref 141, pw_i ((1728 * mk) + 288), .ref 141]) rfl (fun _ => rfl) ?_
          refine pw_getR (b := 155) h14I E (c := 125) (k := 19) (pc' := 102) rfl rfl rfl rfl rfl rfl rfl ?_
          refine pw_ld E (pc' := 103) (st' := [pw_i z, .ref 155, pw_i ((1728 * mk) + 288), .ref 141]) rfl (fun _ => rfl) ?_
          obtain ⟨f16l, f16h, -⟩ := pw_obj (c := 125) h14I rfl
          refine pw_call (m' := 307) (As := [.ref 141, pw_i ((1728 * mk) + 288), .ref 155, pw_i z]) (rest := []) (ls'' := [some (.ref 141), some (pw_i ((1728 * mk) + 288)), some (.ref 155), some (pw_i z), none]) (Nat.le_trans (by decide) hd) E rfl (fun _ => pw_iV rfl rfl rfl rfl (pw_cellI f16h rfl)) (rfl : pm_ent 307 = some (4, 5, 12, 4, pmc_307)) rfl rfl (cm_307_139h (pw_dp hd (by decide)) h14I ((1728 * mk) + 288) (by omega) (by omega) (z) (by omega) (by omega)) ?_
          rintro h17 v18 ⟨h17I, h17E, hqk139, rfl⟩
          refine ⟨_, rfl, ?_⟩
          have h17F := h14F.tr (h17E.wk (W' := [125, 138, 139, 140, 141, 142, 143, 166, 167, 168, 1041]) (by first | rfl | simp))
          show pw X d h17 306 106 [some (.ref 141), some (pw_i mk), some (pw_i z), some (pw_i (1728 * mk))] [] _
          refine pw_ld E (pc' := 107) (st' := [.ref 141]) rfl (fun _ => rfl) ?_
          refine pw_ld E (pc' := 108) (st' := [pw_i (1728 * mk), .ref 141]) rfl (fun _ => rfl) ?_
          refine pw_sip E (pc' := 111) rfl rfl (by decide) ?_
          refine pw_add E (pc' := 112) rfl rfl ?_
          refine pw_ld E (pc' := 113) (st' := [.ref 141, pw_i ((1728 * mk) + 576), .ref 141]) rfl (fun _ => rfl) ?_
          refine pw_getR (b := 156) h17I E (c := 125) (k := 20) (pc' := 116) rfl rfl rfl rfl rfl rfl rfl ?_
          refine pw_ld E (pc' := 117) (st' := [pw_i z, .ref 156, pw_i ((1728 * mk) + 576), .ref 141]) rfl (fun _ => rfl) ?_
          obtain ⟨f19l, f19h, -⟩ := pw_obj (c := 125) h17I rfl
          refine pw_call (m' := 307) (As := [.ref 141, pw_i ((1728 * mk) + 576), .ref 156, pw_i z]) (rest := []) (ls'' := [some (.ref 141), some (pw_i ((1728 * mk) + 576)), some (.ref 156), some (pw_i z), none]) (Nat.le_trans (by decide) hd) E rfl (fun _ => pw_iV rfl rfl rfl rfl (pw_cellI f19h rfl)) (rfl : pm_ent 307 = some (4, 5, 12, 4, pmc_307)) rfl rfl (cm_307_140h (pw_dp hd (by decide)) h17I ((1728 * mk) + 576) (by omega) (by omega) (z) (by omega) (by omega)) ?_
          rintro h20 v21 ⟨h20I, h20E, hqk140, rfl⟩
          refine ⟨_, rfl, ?_⟩
          have h20F := h17F.tr (h20E.wk (W' := [125, 138, 139, 140, 141, 142, 143, 166, 167, 168, 1041]) (by first | rfl | simp))
          show pw X d h20 306 120 [some (.ref 141), some (pw_i mk), some (pw_i z), some (pw_i (1728 * mk))] [] _
          refine pw_ld E (pc' := 121) (st' := [.ref 141]) rfl (fun _ => rfl) ?_
          refine pw_ld E (pc' := 122) (st' := [pw_i (1728 * mk), .ref 141]) rfl (fun _ => rfl) ?_
          refine pw_sip E (pc' := 125) rfl rfl (by decide) ?_
          refine pw_add E (pc' := 126) rfl rfl ?_
          refine pw_ld E (pc' := 127) (st' := [.ref 141, pw_i ((1728 * mk) + 864), .ref 141]) rfl (fun _ => rfl) ?_
          refine pw_getR (b := 157) h20I E (c := 125) (k := 21) (pc' := 130) rfl rfl rfl rfl rfl rfl rfl ?_
          refine pw_ld E (pc' := 131) (st' := [pw_i z, .ref 157, pw_i ((1728 * mk) + 864), .ref 141]) rfl (fun _ => rfl) ?_
          obtain ⟨f22l, f22h, -⟩ := pw_obj (c := 125) h20I rfl
          refine pw_call (m' := 307) (As := [.ref 141, pw_i ((1728 * mk) + 864), .ref 157, pw_i z]) (rest := []) (ls'' := [some (.ref 141), some (pw_i ((1728 * mk) + 864)), some (.ref 157), some (pw_i z), none]) (Nat.le_trans (by decide) hd) E rfl (fun _ => pw_iV rfl rfl rfl rfl (pw_cellI f22h rfl)) (rfl : pm_ent 307 = some (4, 5, 12, 4, pmc_307)) rfl rfl (cm_307_141h (pw_dp hd (by decide)) h20I ((1728 * mk) + 864) (by omega) (by omega) (z) (by omega) (by omega)) ?_
          rintro h23 v24 ⟨h23I, h23E, hqk141, rfl⟩
          refine ⟨_, rfl, ?_⟩
          have h23F := h20F.tr (h23E.wk (W' := [125, 138, 139, 140, 141, 142, 143, 166, 167, 168, 1041]) (by first | rfl | simp))
          show pw X d h23 306 134 [some (.ref 141), some (pw_i mk), some (pw_i z), some (pw_i (1728 * mk))] [] _
          refine pw_ld E (pc' := 135) (st' := [.ref 141]) rfl (fun _ => rfl) ?_
          refine pw_ld E (pc' := 136) (st' := [pw_i (1728 * mk), .ref 141]) rfl (fun _ => rfl) ?_
          refine pw_sip E (pc' := 139) rfl rfl (by decide) ?_
          refine pw_add E (pc' := 140) rfl rfl ?_
          refine pw_ld E (pc' := 141) (st' := [.ref 141, pw_i ((1728 * mk) + 1152), .ref 141]) rfl (fun _ => rfl) ?_
          refine pw_getR (b := 158) h23I E (c := 125) (k := 22) (pc' := 144) rfl rfl rfl rfl rfl rfl rfl ?_
          refine pw_ld E (pc' := 145) (st' := [pw_i z, .ref 158, pw_i ((1728 * mk) + 1152), .ref 141]) rfl (fun _ => rfl) ?_
          obtain ⟨f25l, f25h, -⟩ := pw_obj (c := 125) h23I rfl
          refine pw_call (m' := 307) (As := [.ref 141, pw_i ((1728 * mk) + 1152), .ref 158, pw_i z]) (rest := []) (ls'' := [some (.ref 141), some (pw_i ((1728 * mk) + 1152)), some (.ref 158), some (pw_i z), none]) (Nat.le_trans (by decide) hd) E rfl (fun _ => pw_iV rfl rfl rfl rfl (pw_cellI f25h rfl)) (rfl : pm_ent 307 = some (4, 5, 12, 4, pmc_307)) rfl rfl (cm_307_142h (pw_dp hd (by decide)) h23I ((1728 * mk) + 1152) (by omega) (by omega) (z) (by omega) (by omega)) ?_
          rintro h26 v27 ⟨h26I, h26E, hqk142, rfl⟩
          refine ⟨_, rfl, ?_⟩
          have h26F := h23F.tr (h26E.wk (W' := [125, 138, 139, 140, 141, 142, 143, 166, 167, 168, 1041]) (by first | rfl | simp))
          show pw X d h26 306 148 [some (.ref 141), some (pw_i mk), some (pw_i z), some (pw_i (1728 * mk))] [] _
          refine pw_ld E (pc' := 149) (st' := [.ref 141]) rfl (fun _ => rfl) ?_
          refine pw_ld E (pc' := 150) (st' := [pw_i (1728 * mk), .ref 141]) rfl (fun _ => rfl) ?_
          refine pw_sip E (pc' := 153) rfl rfl (by decide) ?_
          refine pw_add E (pc' := 154) rfl rfl ?_
          refine pw_ld E (pc' := 155) (st' := [.ref 141, pw_i ((1728 * mk) + 1440), .ref 141]) rfl (fun _ => rfl) ?_
          refine pw_getR (b := 159) h26I E (c := 125) (k := 23) (pc' := 158) rfl rfl rfl rfl rfl rfl rfl ?_
          refine pw_ld E (pc' := 159) (st' := [pw_i z, .ref 159, pw_i ((1728 * mk) + 1440), .ref 141]) rfl (fun _ => rfl) ?_
          obtain ⟨f28l, f28h, -⟩ := pw_obj (c := 125) h26I rfl
          refine pw_call (m' := 307) (As := [.ref 141, pw_i ((1728 * mk) + 1440), .ref 159, pw_i z]) (rest := []) (ls'' := [some (.ref 141), some (pw_i ((1728 * mk) + 1440)), some (.ref 159), some (pw_i z), none]) (Nat.le_trans (by decide) hd) E rfl (fun _ => pw_iV rfl rfl rfl rfl (pw_cellI f28h rfl)) (rfl : pm_ent 307 = some (4, 5, 12, 4, pmc_307)) rfl rfl (cm_307_143h (pw_dp hd (by decide)) h26I ((1728 * mk) + 1440) (by omega) (by omega) (z) (by omega) (by omega)) ?_
          rintro h29 v30 ⟨h29I, h29E, hqk143, rfl⟩
          refine ⟨_, rfl, ?_⟩
          have h29F := h26F.tr (h29E.wk (W' := [125, 138, 139, 140, 141, 142, 143, 166, 167, 168, 1041]) (by first | rfl | simp))
          show pw X d h29 306 162 [some (.ref 141), some (pw_i mk), some (pw_i z), some (pw_i (1728 * mk))] [] _
          refine pw_ld E (pc' := 163) (st' := [pw_i 1]) rfl (fun _ => rfl) ?_
          refine pw_zret E rfl (by omega) ?_
          have hl31 : ∀ j : Nat, pw_g h29 166 j = pw_g h10 166 j := fun j => (((((((pw_Eg (c := 166) h26I h29E rfl rfl j : pw_g h29 166 j = pw_g h26 166 j)).trans (pw_Eg (c := 166) h23I h26E rfl rfl j : pw_g h26 166 j = pw_g h23 166 j)).trans (pw_Eg (c := 166) h20I h23E rfl rfl j : pw_g h23 166 j = pw_g h20 166 j)).trans (pw_Eg (c := 166) h17I h20E rfl rfl j : pw_g h20 166 j = pw_g h17 166 j)).trans (pw_Eg (c := 166) h14I h17E rfl rfl j : pw_g h17 166 j = pw_g h14 166 j)).trans (pw_Eg (c := 166) h12I h14E rfl rfl j : pw_g h14 166 j = pw_g h12 166 j)).trans (by rw [← h12w]; exact pw_g_ne (by omega) : pw_g h12 166 j = pw_g h10 166 j)
          have hl32 : ∀ j : Nat, pw_g h1 166 j = pw_g h 166 j := fun j => (by rw [← h1w]; exact pw_g_ne (by omega) : pw_g h1 166 j = pw_g h 166 j)
          have hl33 : ∀ j : Nat, pw_g h29 167 j = pw_g h12 167 j := fun j => ((((((pw_Eg (c := 167) h26I h29E rfl rfl j : pw_g h29 167 j = pw_g h26 167 j)).trans (pw_Eg (c := 167) h23I h26E rfl rfl j : pw_g h26 167 j = pw_g h23 167 j)).trans (pw_Eg (c := 167) h20I h23E rfl rfl j : pw_g h23 167 j = pw_g h20 167 j)).trans (pw_Eg (c := 167) h17I h20E rfl rfl j : pw_g h20 167 j = pw_g h17 167 j)).trans (pw_Eg (c := 167) h14I h17E rfl rfl j : pw_g h17 167 j = pw_g h14 167 j)).trans (pw_Eg (c := 167) h12I h14E rfl rfl j : pw_g h14 167 j = pw_g h12 167 j)
          have hl34 : ∀ j : Nat, pw_g h10 167 j = pw_g h 167 j := fun j => ((by rw [← h10w]; exact pw_g_ne (by omega) : pw_g h10 167 j = pw_g h1 167 j)).trans (by rw [← h1w]; exact pw_g_ne (by omega) : pw_g h1 167 j = pw_g h 167 j)
          have h41 : pw_g h29 125 41 = pw_g h 125 41 := (((((((((pw_Ef h29E (by unfold pw_pf; omega) rfl : pw_g h29 125 41 = pw_g h26 125 41)).trans (pw_Ef h26E (by unfold pw_pf; omega) rfl : pw_g h26 125 41 = pw_g h23 125 41)).trans (pw_Ef h23E (by unfold pw_pf; omega) rfl : pw_g h23 125 41 = pw_g h20 125 41)).trans (pw_Ef h20E (by unfold pw_pf; omega) rfl : pw_g h20 125 41 = pw_g h17 125 41)).trans (pw_Ef h17E (by unfold pw_pf; omega) rfl : pw_g h17 125 41 = pw_g h14 125 41)).trans (pw_Ef h14E (by unfold pw_pf; omega) rfl : pw_g h14 125 41 = pw_g h12 125 41)).trans (by rw [← h12w]; exact pw_g_ne (by omega) : pw_g h12 125 41 = pw_g h10 125 41)).trans (by rw [← h10w]; exact pw_g_ne (by omega) : pw_g h10 125 41 = pw_g h1 125 41)).trans (by rw [← h1w]; exact pw_g_ne (by omega) : pw_g h1 125 41 = pw_g h 125 41)
          have h41b : pw_g h10 125 41 = pw_g h 125 41 := ((by rw [← h10w]; exact pw_g_ne (by omega) : pw_g h10 125 41 = pw_g h1 125 41)).trans (by rw [← h1w]; exact pw_g_ne (by omega) : pw_g h1 125 41 = pw_g h 125 41)
          have p6 : pw_g h10 166 mk.toNat = 1 := by rw [← h10w]; exact pw_g_eqA h1I rfl (by omega) (by omega) (by omega)
          have p7 : pw_g h12 167 mk.toNat = pw_g h10 125 41 := by rw [← h12w]; exact pw_g_eqA h10I rfl (by omega) (by omega) (by omega)
          have n6 : ∀ j : Nat, j ≠ mk.toNat → pw_g h10 166 j = pw_g h1 166 j := fun j hj => by rw [← h10w]; exact pw_g_ne (fun q => hj q.2.symm)
          have n7 : ∀ j : Nat, j ≠ mk.toNat → pw_g h12 167 j = pw_g h10 167 j := fun j hj => by rw [← h12w]; exact pw_g_ne (fun q => hj q.2.symm)
          have hM : pw_MT (pw_g h 125 41) (pw_g h29 125 41) (pw_g h 167) (pw_g h 166) (pw_g h29 167) (pw_g h29 166) mk z 1 := Or.inr (Or.inl ⟨by omega, by omega, by omega, rfl, h41, (hl33 _).trans (p7.trans h41b), (hl31 _).trans p6, fun i _ e => ⟨(hl33 i).trans ((n7 i e).trans (hl34 i)), (hl31 i).trans ((n6 i e).trans (hl32 i))⟩⟩)
          have hmr : 0 ≤ mk ∧ mk ≤ 3 := by omega
          have kp0 : pw_KP h12 h14 138 (1728 * mk) z 288 := hqk138
          obtain ⟨-, ka0, kb0, kc0⟩ := kp0.resolve_right (fun e => by omega)
          have kp1 : pw_KP h14 h17 139 (1728 * mk + 288) z 288 := hqk139
          obtain ⟨-, ka1, kb1, kc1⟩ := kp1.resolve_right (fun e => by omega)
          have kp2 : pw_KP h17 h20 140 (1728 * mk + 576) z 288 := hqk140
          obtain ⟨-, ka2, kb2, kc2⟩ := kp2.resolve_right (fun e => by omega)
          have kp3 : pw_KP h20 h23 141 (1728 * mk + 864) z 288 := hqk141
          obtain ⟨-, ka3, kb3, kc3⟩ := kp3.resolve_right (fun e => by omega)
          have kp4 : pw_KP h23 h26 142 (1728 * mk + 1152) z 288 := hqk142
          obtain ⟨-, ka4, kb4, kc4⟩ := kp4.resolve_right (fun e => by omega)
          have kp5 : pw_KP h26 h29 143 (1728 * mk + 1440) z 288 := hqk143
          obtain ⟨-, ka5, kb5, kc5⟩ := kp5.resolve_right (fun e => by omega)
          have hl35 : ∀ j : Nat, pw_g h12 138 j = pw_g h 138 j := fun j => (((by rw [← h12w]; exact pw_g_ne (by omega) : pw_g h12 138 j = pw_g h10 138 j)).trans (by rw [← h10w]; exact pw_g_ne (by omega) : pw_g h10 138 j = pw_g h1 138 j)).trans (by rw [← h1w]; exact pw_g_ne (by omega) : pw_g h1 138 j = pw_g h 138 j)
          have hl36 : ∀ j : Nat, pw_g h14 139 j = pw_g h 139 j := fun j => ((((pw_Eg (c := 139) h12I h14E rfl rfl j : pw_g h14 139 j = pw_g h12 139 j)).trans (by rw [← h12w]; exact pw_g_ne (by omega) : pw_g h12 139 j = pw_g h10 139 j)).trans (by rw [← h10w]; exact pw_g_ne (by omega) : pw_g h10 139 j = pw_g h1 139 j)).trans (by rw [← h1w]; exact pw_g_ne (by omega) : pw_g h1 139 j = pw_g h 139 j)
          have hl37 : ∀ j : Nat, pw_g h17 140 j = pw_g h 140 j := fun j => (((((pw_Eg (c := 140) h14I h17E rfl rfl j : pw_g h17 140 j = pw_g h14 140 j)).trans (pw_Eg (c := 140) h12I h14E rfl rfl j : pw_g h14 140 j = pw_g h12 140 j)).trans (by rw [← h12w]; exact pw_g_ne (by omega) : pw_g h12 140 j = pw_g h10 140 j)).trans (by rw [← h10w]; exact pw_g_ne (by omega) : pw_g h10 140 j = pw_g h1 140 j)).trans (by rw [← h1w]; exact pw_g_ne (by omega) : pw_g h1 140 j = pw_g h 140 j)
          have hl38 : ∀ j : Nat, pw_g h20 141 j = pw_g h 141 j := fun j => ((((((pw_Eg (c := 141) h17I h20E rfl rfl j : pw_g h20 141 j = pw_g h17 141 j)).trans (pw_Eg (c := 141) h14I h17E rfl rfl j : pw_g h17 141 j = pw_g h14 141 j)).trans (pw_Eg (c := 141) h12I h14E rfl rfl j : pw_g h14 141 j = pw_g h12 141 j)).trans (by rw [← h12w]; exact pw_g_ne (by omega) : pw_g h12 141 j = pw_g h10 141 j)).trans (by rw [← h10w]; exact pw_g_ne (by omega) : pw_g h10 141 j = pw_g h1 141 j)).trans (by rw [← h1w]; exact pw_g_ne (by omega) : pw_g h1 141 j = pw_g h 141 j)
          have hl39 : ∀ j : Nat, pw_g h23 142 j = pw_g h 142 j := fun j => (((((((pw_Eg (c := 142) h20I h23E rfl rfl j : pw_g h23 142 j = pw_g h20 142 j)).trans (pw_Eg (c := 142) h17I h20E rfl rfl j : pw_g h20 142 j = pw_g h17 142 j)).trans (pw_Eg (c := 142) h14I h17E rfl rfl j : pw_g h17 142 j = pw_g h14 142 j)).trans (pw_Eg (c := 142) h12I h14E rfl rfl j : pw_g h14 142 j = pw_g h12 142 j)).trans (by rw [← h12w]; exact pw_g_ne (by omega) : pw_g h12 142 j = pw_g h10 142 j)).trans (by rw [← h10w]; exact pw_g_ne (by omega) : pw_g h10 142 j = pw_g h1 142 j)).trans (by rw [← h1w]; exact pw_g_ne (by omega) : pw_g h1 142 j = pw_g h 142 j)
          have hl40 : ∀ j : Nat, pw_g h26 143 j = pw_g h 143 j := fun j => ((((((((pw_Eg (c := 143) h23I h26E rfl rfl j : pw_g h26 143 j = pw_g h23 143 j)).trans (pw_Eg (c := 143) h20I h23E rfl rfl j : pw_g h23 143 j = pw_g h20 143 j)).trans (pw_Eg (c := 143) h17I h20E rfl rfl j : pw_g h20 143 j = pw_g h17 143 j)).trans (pw_Eg (c := 143) h14I h17E rfl rfl j : pw_g h17 143 j = pw_g h14 143 j)).trans (pw_Eg (c := 143) h12I h14E rfl rfl j : pw_g h14 143 j = pw_g h12 143 j)).trans (by rw [← h12w]; exact pw_g_ne (by omega) : pw_g h12 143 j = pw_g h10 143 j)).trans (by rw [← h10w]; exact pw_g_ne (by omega) : pw_g h10 143 j = pw_g h1 143 j)).trans (by rw [← h1w]; exact pw_g_ne (by omega) : pw_g h1 143 j = pw_g h 143 j)
          have hl41 : ∀ j : Nat, pw_g h12 168 j = pw_g h 168 j := fun j => (((by rw [← h12w]; exact pw_g_ne (by omega) : pw_g h12 168 j = pw_g h10 168 j)).trans (by rw [← h10w]; exact pw_g_ne (by omega) : pw_g h10 168 j = pw_g h1 168 j)).trans (by rw [← h1w]; exact pw_g_ne (by omega) : pw_g h1 168 j = pw_g h 168 j)
          have hl42 : ∀ j : Nat, pw_g h29 138 j = pw_g h14 138 j := fun j => (((((pw_Eg (c := 138) h26I h29E rfl rfl j : pw_g h29 138 j = pw_g h26 138 j)).trans (pw_Eg (c := 138) h23I h26E rfl rfl j : pw_g h26 138 j = pw_g h23 138 j)).trans (pw_Eg (c := 138) h20I h23E rfl rfl j : pw_g h23 138 j = pw_g h20 138 j)).trans (pw_Eg (c := 138) h17I h20E rfl rfl j : pw_g h20 138 j = pw_g h17 138 j)).trans (pw_Eg (c := 138) h14I h17E rfl rfl j : pw_g h17 138 j = pw_g h14 138 j)
          have hl43 : ∀ j : Nat, pw_g h12 138 j = pw_g h 138 j := fun j => (((by rw [← h12w]; exact pw_g_ne (by omega) : pw_g h12 138 j = pw_g h10 138 j)).trans (by rw [← h10w]; exact pw_g_ne (by omega) : pw_g h10 138 j = pw_g h1 138 j)).trans (by rw [← h1w]; exact pw_g_ne (by omega) : pw_g h1 138 j = pw_g h 138 j)
          have hl44 : ∀ j : Nat, pw_g h29 139 j = pw_g h17 139 j := fun j => ((((pw_Eg (c := 139) h26I h29E rfl rfl j : pw_g h29 139 j = pw_g h26 139 j)).trans (pw_Eg (c := 139) h23I h26E rfl rfl j : pw_g h26 139 j = pw_g h23 139 j)).trans (pw_Eg (c := 139) h20I h23E rfl rfl j : pw_g h23 139 j = pw_g h20 139 j)).trans (pw_Eg (c := 139) h17I h20E rfl rfl j : pw_g h20 139 j = pw_g h17 139 j)
          have hl45 : ∀ j : Nat, pw_g h14 139 j = pw_g h 139 j := fun j => ((((pw_Eg (c := 139) h12I h14E rfl rfl j : pw_g h14 139 j = pw_g h12 139 j)).trans (by rw [← h12w]; exact pw_g_ne (by omega) : pw_g h12 139 j = pw_g h10 139 j)).trans (by rw [← h10w]; exact pw_g_ne (by omega) : pw_g h10 139 j = pw_g h1 139 j)).trans (by rw [← h1w]; exact pw_g_ne (by omega) : pw_g h1 139 j = pw_g h 139 j)
          have hl46 : ∀ j : Nat, pw_g h29 140 j = pw_g h20 140 j := fun j => (((pw_Eg (c := 140) h26I h29E rfl rfl j : pw_g h29 140 j = pw_g h26 140 j)).trans (pw_Eg (c := 140) h23I h26E rfl rfl j : pw_g h26 140 j = pw_g h23 140 j)).trans (pw_Eg (c := 140) h20I h23E rfl rfl j : pw_g h23 140 j = pw_g h20 140 j)
          have hl47 : ∀ j : Nat, pw_g h17 140 j = pw_g h 140 j := fun j => (((((pw_Eg (c := 140) h14I h17E rfl rfl j : pw_g h17 140 j = pw_g h14 140 j)).trans (pw_Eg (c := 140) h12I h14E rfl rfl j : pw_g h14 140 j = pw_g h12 140 j)).trans (by rw [← h12w]; exact pw_g_ne (by omega) : pw_g h12 140 j = pw_g h10 140 j)).trans (by rw [← h10w]; exact pw_g_ne (by omega) : pw_g h10 140 j = pw_g h1 140 j)).trans (by rw [← h1w]; exact pw_g_ne (by omega) : pw_g h1 140 j = pw_g h 140 j)
          have hl48 : ∀ j : Nat, pw_g h29 141 j = pw_g h23 141 j := fun j => ((pw_Eg (c := 141) h26I h29E rfl rfl j : pw_g h29 141 j = pw_g h26 141 j)).trans (pw_Eg (c := 141) h23I h26E rfl rfl j : pw_g h26 141 j = pw_g h23 141 j)
          have hl49 : ∀ j : Nat, pw_g h20 141 j = pw_g h 141 j := fun j => ((((((pw_Eg (c := 141) h17I h20E rfl rfl j : pw_g h20 141 j = pw_g h17 141 j)).trans (pw_Eg (c := 141) h14I h17E rfl rfl j : pw_g h17 141 j = pw_g h14 141 j)).trans (pw_Eg (c := 141) h12I h14E rfl rfl j : pw_g h14 141 j = pw_g h12 141 j)).trans (by rw [← h12w]; exact pw_g_ne (by omega) : pw_g h12 141 j = pw_g h10 141 j)).trans (by rw [← h10w]; exact pw_g_ne (by omega) : pw_g h10 141 j = pw_g h1 141 j)).trans (by rw [← h1w]; exact pw_g_ne (by omega) : pw_g h1 141 j = pw_g h 141 j)
          have hl50 : ∀ j : Nat, pw_g h29 142 j = pw_g h26 142 j := fun j => (pw_Eg (c := 142) h26I h29E rfl rfl j : pw_g h29 142 j = pw_g h26 142 j)
          have hl51 : ∀ j : Nat, pw_g h23 142 j = pw_g h 142 j := fun j => (((((((pw_Eg (c := 142) h20I h23E rfl rfl j : pw_g h23 142 j = pw_g h20 142 j)).trans (pw_Eg (c := 142) h17I h20E rfl rfl j : pw_g h20 142 j = pw_g h17 142 j)).trans (pw_Eg (c := 142) h14I h17E rfl rfl j : pw_g h17 142 j = pw_g h14 142 j)).trans (pw_Eg (c := 142) h12I h14E rfl rfl j : pw_g h14 142 j = pw_g h12 142 j)).trans (by rw [← h12w]; exact pw_g_ne (by omega) : pw_g h12 142 j = pw_g h10 142 j)).trans (by rw [← h10w]; exact pw_g_ne (by omega) : pw_g h10 142 j = pw_g h1 142 j)).trans (by rw [← h1w]; exact pw_g_ne (by omega) : pw_g h1 142 j = pw_g h 142 j)
          have hl52 : ∀ j : Nat, pw_g h29 143 j = pw_g h29 143 j := fun j => rfl
          have hl53 : ∀ j : Nat, pw_g h26 143 j = pw_g h 143 j := fun j => ((((((((pw_Eg (c := 143) h23I h26E rfl rfl j : pw_g h26 143 j = pw_g h23 143 j)).trans (pw_Eg (c := 143) h20I h23E rfl rfl j : pw_g h23 143 j = pw_g h20 143 j)).trans (pw_Eg (c := 143) h17I h20E rfl rfl j : pw_g h20 143 j = pw_g h17 143 j)).trans (pw_Eg (c := 143) h14I h17E rfl rfl j : pw_g h17 143 j = pw_g h14 143 j)).trans (pw_Eg (c := 143) h12I h14E rfl rfl j : pw_g h14 143 j = pw_g h12 143 j)).trans (by rw [← h12w]; exact pw_g_ne (by omega) : pw_g h12 143 j = pw_g h10 143 j)).trans (by rw [← h10w]; exact pw_g_ne (by omega) : pw_g h10 143 j = pw_g h1 143 j)).trans (by rw [← h1w]; exact pw_g_ne (by omega) : pw_g h1 143 j = pw_g h 143 j)
          have hpar : ∀ q : Nat, q < 6 → ∀ j : Nat, j < 288 → pw_g h29 168 (1728 * mk.toNat + 288 * q + j) = pw_g h (138 + q) j := pw_i6 (fun j (hj : j < 288) => (by rw [show 1728 * mk.toNat + 288 * 0 + j = (1728 * mk).toNat + j by omega]; rw [kc5 _ (by omega)]; rw [kc4 _ (by omega)]; rw [kc3 _ (by omega)]; rw [kc2 _ (by omega)]; rw [kc1 _ (by omega)]; exact (kb0 j (by omega)).trans (hl35 j) : pw_g h29 168 (1728 * mk.toNat + 288 * 0 + j) = pw_g h 138 j)) (fun j (hj : j < 288) => (by rw [show 1728 * mk.toNat + 288 * 1 + j = (1728 * mk + 288).toNat + j by omega]; rw [kc5 _ (by omega)]; rw [kc4 _ (by omega)]; rw [kc3 _ (by omega)]; rw [kc2 _ (by omega)]; exact (kb1 j (by omega)).trans (hl36 j) : pw_g h29 168 (1728 * mk.toNat + 288 * 1 + j) = pw_g h 139 j)) (fun j (hj : j < 288) => (by rw [show 1728 * mk.toNat + 288 * 2 + j = (1728 * mk + 576).toNat + j by omega]; rw [kc5 _ (by omega)]; rw [kc4 _ (by omega)]; rw [kc3 _ (by omega)]; exact (kb2 j (by omega)).trans (hl37 j) : pw_g h29 168 (1728 * mk.toNat + 288 * 2 + j) = pw_g h 140 j)) (fun j (hj : j < 288) => (by rw [show 1728 * mk.toNat + 288 * 3 + j = (1728 * mk + 864).toNat + j by omega]; rw [kc5 _ (by omega)]; rw [kc4 _ (by omega)]; exact (kb3 j (by omega)).trans (hl38 j) : pw_g h29 168 (1728 * mk.toNat + 288 * 3 + j) = pw_g h 141 j)) (fun j (hj : j < 288) => (by rw [show 1728 * mk.toNat + 288 * 4 + j = (1728 * mk + 1152).toNat + j by omega]; rw [kc5 _ (by omega)]; exact (kb4 j (by omega)).trans (hl39 j) : pw_g h29 168 (1728 * mk.toNat + 288 * 4 + j) = pw_g h 142 j)) (fun j (hj : j < 288) => (by rw [show 1728 * mk.toNat + 288 * 5 + j = (1728 * mk + 1440).toNat + j by omega]; exact (kb5 j (by omega)).trans (hl40 j) : pw_g h29 168 (1728 * mk.toNat + 288 * 5 + j) = pw_g h 143 j))
          have hST : pw_ST h h29 mk z 1 := Or.inr (Or.inl ⟨rfl, by omega, pw_i6 (fun j => (hl42 j).trans ((ka0 j).trans (hl43 j))) (fun j => (hl44 j).trans ((ka1 j).trans (hl45 j))) (fun j => (hl46 j).trans ((ka2 j).trans (hl47 j))) (fun j => (hl48 j).trans ((ka3 j).trans (hl49 j))) (fun j => (hl50 j).trans ((ka4 j).trans (hl51 j))) (fun j => (hl52 j).trans ((ka5 j).trans (hl53 j))), fun q j hq hj => hpar q hq j hj, fun j hj => by rw [kc5 _ (by omega)]; rw [kc4 _ (by omega)]; rw [kc3 _ (by omega)]; rw [kc2 _ (by omega)]; rw [kc1 _ (by omega)]; rw [kc0 _ (by omega)]; exact hl41 j⟩)
          exact ⟨h29I, h29F, ⟨_, rfl, by omega, by omega, hM, hST⟩⟩
        · intro hc54
          change ¬ (z = (0 : Int)) at hc54
          exfalso; omega
      · intro hc55
        change ¬ (z = (0 : Int)) at hc55
        refine pw_ld E (pc' := 19) (st' := [.ref 141]) rfl (fun _ => rfl) ?_
        refine pw_getR (b := 182) h1I E (c := 125) (k := 55) (pc' := 22) rfl rfl rfl rfl rfl rfl rfl ?_
        refine pw_ld E (pc' := 23) (st' := [pw_i mk, .ref 182]) rfl (fun _ => rfl) ?_
        refine pw_ald2 h1I E (c := 166) (pc' := 24) rfl rfl rfl (by decide) rfl (by decide) (by omega) (by omega) rfl (fun hf56a hf56b => ?_)
        refine pw_if E (pc' := 40) rfl (by decide) (by omega) (by omega) ?_ ?_
        · intro hc57
          change pw_g h1 166 (mk.toNat) = (0 : Int) at hc57
          refine pw_ld E (pc' := 41) (st' := [pw_i 0]) rfl (fun _ => rfl) ?_
          refine pw_zret E rfl (by omega) ?_
          have hl58 : ∀ j : Nat, pw_g h1 167 j = pw_g h 167 j := fun j => (by rw [← h1w]; exact pw_g_ne (by omega) : pw_g h1 167 j = pw_g h 167 j)
          have hl59 : ∀ j : Nat, pw_g h1 166 j = pw_g h 166 j := fun j => (by rw [← h1w]; exact pw_g_ne (by omega) : pw_g h1 166 j = pw_g h 166 j)
          have h41 : pw_g h1 125 41 = pw_g h 125 41 := (by rw [← h1w]; exact pw_g_ne (by omega) : pw_g h1 125 41 = pw_g h 125 41)
          have q7 := hl58 mk.toNat
          have q6 := hl59 mk.toNat
          have hM : pw_MT (pw_g h 125 41) (pw_g h1 125 41) (pw_g h 167) (pw_g h 166) (pw_g h1 167) (pw_g h1 166) mk z 0 := by
            rcases (by omega : ¬ (0 ≤ mk ∧ mk ≤ 3) ∨ (0 ≤ mk ∧ mk ≤ 3)) with hq | hq
            · exact Or.inl ⟨hq, rfl, h41, fun i _ => ⟨hl58 i, hl59 i⟩⟩
            · exact Or.inr (Or.inr (Or.inl ⟨by omega, by omega, by omega, by omega, rfl, h41, fun i _ => ⟨hl58 i, hl59 i⟩⟩))
          have hl60 : ∀ j : Nat, pw_g h1 138 j = pw_g h 138 j := fun j => (by rw [← h1w]; exact pw_g_ne (by omega) : pw_g h1 138 j = pw_g h 138 j)
          have hl61 : ∀ j : Nat, pw_g h1 139 j = pw_g h 139 j := fun j => (by rw [← h1w]; exact pw_g_ne (by omega) : pw_g h1 139 j = pw_g h 139 j)
          have hl62 : ∀ j : Nat, pw_g h1 140 j = pw_g h 140 j := fun j => (by rw [← h1w]; exact pw_g_ne (by omega) : pw_g h1 140 j = pw_g h 140 j)
          have hl63 : ∀ j : Nat, pw_g h1 141 j = pw_g h 141 j := fun j => (by rw [← h1w]; exact pw_g_ne (by omega) : pw_g h1 141 j = pw_g h 141 j)
          have hl64 : ∀ j : Nat, pw_g h1 142 j = pw_g h 142 j := fun j => (by rw [← h1w]; exact pw_g_ne (by omega) : pw_g h1 142 j = pw_g h 142 j)
          have hl65 : ∀ j : Nat, pw_g h1 143 j = pw_g h 143 j := fun j => (by rw [← h1w]; exact pw_g_ne (by omega) : pw_g h1 143 j = pw_g h 143 j)
          have hl66 : ∀ j : Nat, pw_g h1 168 j = pw_g h 168 j := fun j => (by rw [← h1w]; exact pw_g_ne (by omega) : pw_g h1 168 j = pw_g h 168 j)
          have hST : pw_ST h h1 mk z 0 := Or.inl ⟨rfl, pw_i6 hl60 hl61 hl62 hl63 hl64 hl65, hl66⟩
          exact ⟨h1I, h1F, ⟨_, rfl, by omega, by omega, hM, hST⟩⟩
        · intro hc67
          change ¬ (pw_g h1 166 (mk.toNat) = (0 : Int)) at hc67
          refine pw_ld E (pc' := 28) (st' := [.ref 141]) rfl (fun _ => rfl) ?_
          refine pw_getI2 h1I E (c := 125) (k := 41) (pc' := 31) rfl rfl rfl rfl rfl rfl (fun hf68a hf68b => ?_)
          refine pw_ld E (pc' := 32) (st' := [.ref 141, pw_i (pw_g h1 125 41)]) rfl (fun _ => rfl) ?_
          refine pw_getR (b := 183) h1I E (c := 125) (k := 56) (pc' := 35) rfl rfl rfl rfl rfl rfl rfl ?_
          refine pw_ld E (pc' := 36) (st' := [pw_i mk, .ref 183, pw_i (pw_g h1 125 41)]) rfl (fun _ => rfl) ?_
          refine pw_ald2 h1I E (c := 167) (pc' := 37) rfl rfl rfl (by decide) rfl (by decide) (by omega) (by omega) rfl (fun hf69a hf69b => ?_)
          refine pw_if2 E (pc' := 42) rfl (by decide) (by omega) (by omega) (by omega) (by omega) ?_ ?_
          · intro hc70
            change pw_g h1 167 (mk.toNat) ≤ pw_g h1 125 41 at hc70
            refine pw_ld E (pc' := 43) (st' := [pw_i z]) rfl (fun _ => rfl) ?_
            refine pw_if E (pc' := 59) rfl (by decide) (by omega) (by omega) ?_ ?_
            · intro hc71
              change z = (0 : Int) at hc71
              exfalso; omega
            · intro hc72
              change ¬ (z = (0 : Int)) at hc72
              refine pw_ld E (pc' := 47) (st' := [.ref 141]) rfl (fun _ => rfl) ?_
              refine pw_ld E (pc' := 48) (st' := [.ref 141, .ref 141]) rfl (fun _ => rfl) ?_
              refine pw_getR (b := 183) h1I E (c := 125) (k := 56) (pc' := 51) rfl rfl rfl rfl rfl rfl rfl ?_
              refine pw_ld E (pc' := 52) (st' := [pw_i mk, .ref 183, .ref 141]) rfl (fun _ => rfl) ?_
              refine pw_ald2 h1I E (c := 167) (pc' := 53) rfl rfl rfl (by decide) rfl (by decide) (by omega) (by omega) rfl (fun hf73a hf73b => ?_)
              refine pw_putP h1I E (k := 41) (pc' := 56) rfl rfl rfl rfl (by omega) (by omega) (by omega) (by omega) rfl rfl ?_
              intro h74I h74E
              generalize h74w : pw_w h1 125 41 (pw_i (pw_g h1 167 (mk.toNat))) = h74 at h74I h74E ⊢
              have h74F := h1F.tr (h74E.wk (W' := [125, 138, 139, 140, 141, 142, 143, 166, 167, 168, 1041]) (by first | rfl | simp))
              refine pw_goto E (pc' := 76) rfl (by decide) ?_
              refine pw_sip E (pc' := 79) rfl rfl (by decide) ?_
              refine pw_ld E (pc' := 80) (st' := [pw_i mk, pw_i 1728]) rfl (fun _ => rfl) ?_
              refine pw_mul E (pc' := 81) rfl rfl ?_
              refine pw_istn E (pc' := 82) (ls' := [some (.ref 141), some (pw_i mk), some (pw_i z), some (pw_i (1728 * mk))]) rfl rfl rfl rfl ?_
              refine pw_ld E (pc' := 83) (st' := [.ref 141]) rfl (fun _ => rfl) ?_
              refine pw_ld E (pc' := 84) (st' := [pw_i (1728 * mk), .ref 141]) rfl (fun _ => rfl) ?_
              refine pw_ld E (pc' := 85) (st' := [.ref 141, pw_i (1728 * mk), .ref 141]) rfl (fun _ => rfl) ?_
              refine pw_getR (b := 154) h74I E (c := 125) (k := 18) (pc' := 88) rfl rfl rfl rfl rfl rfl rfl ?_
              refine pw_ld E (pc' := 89) (st' := [pw_i z, .ref 154, pw_i (1728 * mk), .ref 141]) rfl (fun _ => rfl) ?_
              obtain ⟨f75l, f75h, -⟩ := pw_obj (c := 125) h74I rfl
              refine pw_call (m' := 307) (As := [.ref 141, pw_i (1728 * mk), .ref 154, pw_i z]) (rest := []) (ls'' := [some (.ref 141), some (pw_i (1728 * mk)), some (.ref 154), some (pw_i z), none]) (Nat.le_trans (by decide) hd) E rfl (fun _ => pw_iV rfl rfl rfl rfl (pw_cellI f75h rfl)) (rfl : pm_ent 307 = some (4, 5, 12, 4, pmc_307)) rfl rfl (cm_307_138h (pw_dp hd (by decide)) h74I (1728 * mk) (by omega) (by omega) (z) (by omega) (by omega)) ?_
              rintro h76 v77 ⟨h76I, h76E, hqk138, rfl⟩
              refine ⟨_, rfl, ?_⟩
              have h76F := h74F.tr (h76E.wk (W' := [125, 138, 139, 140, 141, 142, 143, 166, 167, 168, 1041]) (by first | rfl | simp))
              show pw X d h76 306 92 [some (.ref 141), some (pw_i mk), some (pw_i z), some (pw_i (1728 * mk))] [] _
              refine pw_ld E (pc' := 93) (st' := [.ref 141]) rfl (fun _ => rfl) ?_
              refine pw_ld E (pc' := 94) (st' := [pw_i (1728 * mk), .ref 141]) rfl (fun _ => rfl) ?_
              refine pw_sip E (pc' := 97) rfl rfl (by decide) ?_
              refine pw_add E (pc' := 98) rfl rfl ?_
              refine pw_ld E (pc' := 99) (st' := [.ref 141, pw_i ((1728 * mk) + 288), .ref 141]) rfl (fun _ => rfl) ?_
              refine pw_getR (b := 155) h76I E (c := 125) (k := 19) (pc' := 102) rfl rfl rfl rfl rfl rfl rfl ?_
              refine pw_ld E (pc' := 103) (st' := [pw_i z, .ref 155, pw_i ((1728 * mk) + 288), .ref 141]) rfl (fun _ => rfl) ?_
              obtain ⟨f78l, f78h, -⟩ := pw_obj (c := 125) h76I rfl
              refine pw_call (m' := 307) (As := [.ref 141, pw_i ((1728 * mk) + 288), .ref 155, pw_i z]) (rest := []) (ls'' := [some (.ref 141), some (pw_i ((1728 * mk) + 288)), some (.ref 155), some (pw_i z), none]) (Nat.le_trans (by decide) hd) E rfl (fun _ => pw_iV rfl rfl rfl rfl (pw_cellI f78h rfl)) (rfl : pm_ent 307 = some (4, 5, 12, 4, pmc_307)) rfl rfl (cm_307_139h (pw_dp hd (by decide)) h76I ((1728 * mk) + 288) (by omega) (by omega) (z) (by omega) (by omega)) ?_
              rintro h79 v80 ⟨h79I, h79E, hqk139, rfl⟩
              refine ⟨_, rfl, ?_⟩
              have h79F := h76F.tr (h79E.wk (W' := [125, 138, 139, 140, 141, 142, 143, 166, 167, 168, 1041]) (by first | rfl | simp))
              show pw X d h79 306 106 [some (.ref 141), some (pw_i mk), some (pw_i z), some (pw_i (1728 * mk))] [] _
              refine pw_ld E (pc' := 107) (st' := [.ref 141]) rfl (fun _ => rfl) ?_
              refine pw_ld E (pc' := 108) (st' := [pw_i (1728 * mk), .ref 141]) rfl (fun _ => rfl) ?_
              refine pw_sip E (pc' := 111) rfl rfl (by decide) ?_
              refine pw_add E (pc' := 112) rfl rfl ?_
              refine pw_ld E (pc' := 113) (st' := [.ref 141, pw_i ((1728 * mk) + 576), .ref 141]) rfl (fun _ => rfl) ?_
              refine pw_getR (b := 156) h79I E (c := 125) (k := 20) (pc' := 116) rfl rfl rfl rfl rfl rfl rfl ?_
              refine pw_ld E (pc' := 117) (st' := [pw_i z, .ref 156, pw_i ((1728 * mk) + 576), .ref 141]) rfl (fun _ => rfl) ?_
              obtain ⟨f81l, f81h, -⟩ := pw_obj (c := 125) h79I rfl
              refine pw_call (m' := 307) (As := [.ref 141, pw_i ((1728 * mk) + 576), .ref 156, pw_i z]) (rest := []) (ls'' := [some (.ref 141), some (pw_i ((1728 * mk) + 576)), some (.ref 156), some (pw_i z), none]) (Nat.le_trans (by decide) hd) E rfl (fun _ => pw_iV rfl rfl rfl rfl (pw_cellI f81h rfl)) (rfl : pm_ent 307 = some (4, 5, 12, 4, pmc_307)) rfl rfl (cm_307_140h (pw_dp hd (by decide)) h79I ((1728 * mk) + 576) (by omega) (by omega) (z) (by omega) (by omega)) ?_
              rintro h82 v83 ⟨h82I, h82E, hqk140, rfl⟩
              refine ⟨_, rfl, ?_⟩
              have h82F := h79F.tr (h82E.wk (W' := [125, 138, 139, 140, 141, 142, 143, 166, 167, 168, 1041]) (by first | rfl | simp))
              show pw X d h82 306 120 [some (.ref 141), some (pw_i mk), some (pw_i z), some (pw_i (1728 * mk))] [] _
              refine pw_ld E (pc' := 121) (st' := [.ref 141]) rfl (fun _ => rfl) ?_
              refine pw_ld E (pc' := 122) (st' := [pw_i (1728 * mk), .ref 141]) rfl (fun _ => rfl) ?_
              refine pw_sip E (pc' := 125) rfl rfl (by decide) ?_
              refine pw_add E (pc' := 126) rfl rfl ?_
              refine pw_ld E (pc' := 127) (st' := [.ref 141, pw_i ((1728 * mk) + 864), .ref 141]) rfl (fun _ => rfl) ?_
              refine pw_getR (b := 157) h82I E (c := 125) (k := 21) (pc' := 130) rfl rfl rfl rfl rfl rfl rfl ?_
              refine pw_ld E (pc' := 131) (st' := [pw_i z, .ref 157, pw_i ((1728 * mk) + 864), .ref 141]) rfl (fun _ => rfl) ?_
              obtain ⟨f84l, f84h, -⟩ := pw_obj (c := 125) h82I rfl
              refine pw_call (m' := 307) (As := [.ref 141, pw_i ((1728 * mk) + 864), .ref 157, pw_i z]) (rest := []) (ls'' := [some (.ref 141), some (pw_i ((1728 * mk) + 864)), some (.ref 157), some (pw_i z), none]) (Nat.le_trans (by decide) hd) E rfl (fun _ => pw_iV rfl rfl rfl rfl (pw_cellI f84h rfl)) (rfl : pm_ent 307 = some (4, 5, 12, 4, pmc_307)) rfl rfl (cm_307_141h (pw_dp hd (by decide)) h82I ((1728 * mk) + 864) (by omega) (by omega) (z) (by omega) (by omega)) ?_
              rintro h85 v86 ⟨h85I, h85E, hqk141, rfl⟩
              refine ⟨_, rfl, ?_⟩
              have h85F := h82F.tr (h85E.wk (W' := [125, 138, 139, 140, 141, 142, 143, 166, 167, 168, 1041]) (by first | rfl | simp))
              show pw X d h85 306 134 [some (.ref 141), some (pw_i mk), some (pw_i z), some (pw_i (1728 * mk))] [] _
              refine pw_ld E (pc' := 135) (st' := [.ref 141]) rfl (fun _ => rfl) ?_
              refine pw_ld E (pc' := 136) (st' := [pw_i (1728 * mk), .ref 141]) rfl (fun _ => rfl) ?_
              refine pw_sip E (pc' := 139) rfl rfl (by decide) ?_
              refine pw_add E (pc' := 140) rfl rfl ?_
              refine pw_ld E (pc' := 141) (st' := [.ref 141, pw_i ((1728 * mk) + 1152), .ref 141]) rfl (fun _ => rfl) ?_
              refine pw_getR (b := 158) h85I E (c := 125) (k := 22) (pc' := 144) rfl rfl rfl rfl rfl rfl rfl ?_
              refine pw_ld E (pc' := 145) (st' := [pw_i z, .ref 158, pw_i ((1728 * mk) + 1152), .ref 141]) rfl (fun _ => rfl) ?_
              obtain ⟨f87l, f87h, -⟩ := pw_obj (c := 125) h85I rfl
              refine pw_call (m' := 307) (As := [.ref 141, pw_i ((1728 * mk) + 1152), .ref 158, pw_i z]) (rest := []) (ls'' := [some (.ref 141), some (pw_i ((1728 * mk) + 1152)), some (.ref 158), some (pw_i z), none]) (Nat.le_trans (by decide) hd) E rfl (fun _ => pw_iV rfl rfl rfl rfl (pw_cellI f87h rfl)) (rfl : pm_ent 307 = some (4, 5, 12, 4, pmc_307)) rfl rfl (cm_307_142h (pw_dp hd (by decide)) h85I ((1728 * mk) + 1152) (by omega) (by omega) (z) (by omega) (by omega)) ?_
              rintro h88 v89 ⟨h88I, h88E, hqk142, rfl⟩
              refine ⟨_, rfl, ?_⟩
              have h88F := h85F.tr (h88E.wk (W' := [125, 138, 139, 140, 141, 142, 143, 166, 167, 168, 1041]) (by first | rfl | simp))
              show pw X d h88 306 148 [some (.ref 141), some (pw_i mk), some (pw_i z), some (pw_i (1728 * mk))] [] _
              refine pw_ld E (pc' := 149) (st' := [.ref 141]) rfl (fun _ => rfl) ?_
              refine pw_ld E (pc' := 150) (st' := [pw_i (1728 * mk), .ref 141]) rfl (fun _ => rfl) ?_
              refine pw_sip E (pc' := 153) rfl rfl (by decide) ?_
              refine pw_add E (pc' := 154) rfl rfl ?_
              refine pw_ld E (pc' := 155) (st' := [.ref 141, pw_i ((1728 * mk) + 1440), .ref 141]) rfl (fun _ => rfl) ?_
              refine pw_getR (b := 159) h88I E (c := 125) (k := 23) (pc' := 158) rfl rfl rfl rfl rfl rfl rfl ?_
              refine pw_ld E (pc' := 159) (st' := [pw_i z, .ref 159, pw_i ((1728 * mk) + 1440), .ref 141]) rfl (fun _ => rfl) ?_
              obtain ⟨f90l, f90h, -⟩ := pw_obj (c := 125) h88I rfl
              refine pw_call (m' := 307) (As := [.ref 141, pw_i ((1728 * mk) + 1440), .ref 159, pw_i z]) (rest := []) (ls'' := [some (.ref 141), some (pw_i ((1728 * mk) + 1440)), some (.ref 159), some (pw_i z), none]) (Nat.le_trans (by decide) hd) E rfl (fun _ => pw_iV rfl rfl rfl rfl (pw_cellI f90h rfl)) (rfl : pm_ent 307 = some (4, 5, 12, 4, pmc_307)) rfl rfl (cm_307_143h (pw_dp hd (by decide)) h88I ((1728 * mk) + 1440) (by omega) (by omega) (z) (by omega) (by omega)) ?_
              rintro h91 v92 ⟨h91I, h91E, hqk143, rfl⟩
              refine ⟨_, rfl, ?_⟩
              have h91F := h88F.tr (h91E.wk (W' := [125, 138, 139, 140, 141, 142, 143, 166, 167, 168, 1041]) (by first | rfl | simp))
              show pw X d h91 306 162 [some (.ref 141), some (pw_i mk), some (pw_i z), some (pw_i (1728 * mk))] [] _
              refine pw_ld E (pc' := 163) (st' := [pw_i 1]) rfl (fun _ => rfl) ?_
              refine pw_zret E rfl (by omega) ?_
              have hl93 : ∀ j : Nat, pw_g h91 167 j = pw_g h 167 j := fun j => ((((((((pw_Eg (c := 167) h88I h91E rfl rfl j : pw_g h91 167 j = pw_g h88 167 j)).trans (pw_Eg (c := 167) h85I h88E rfl rfl j : pw_g h88 167 j = pw_g h85 167 j)).trans (pw_Eg (c := 167) h82I h85E rfl rfl j : pw_g h85 167 j = pw_g h82 167 j)).trans (pw_Eg (c := 167) h79I h82E rfl rfl j : pw_g h82 167 j = pw_g h79 167 j)).trans (pw_Eg (c := 167) h76I h79E rfl rfl j : pw_g h79 167 j = pw_g h76 167 j)).trans (pw_Eg (c := 167) h74I h76E rfl rfl j : pw_g h76 167 j = pw_g h74 167 j)).trans (by rw [← h74w]; exact pw_g_ne (by omega) : pw_g h74 167 j = pw_g h1 167 j)).trans (by rw [← h1w]; exact pw_g_ne (by omega) : pw_g h1 167 j = pw_g h 167 j)
              have hl94 : ∀ j : Nat, pw_g h91 166 j = pw_g h 166 j := fun j => ((((((((pw_Eg (c := 166) h88I h91E rfl rfl j : pw_g h91 166 j = pw_g h88 166 j)).trans (pw_Eg (c := 166) h85I h88E rfl rfl j : pw_g h88 166 j = pw_g h85 166 j)).trans (pw_Eg (c := 166) h82I h85E rfl rfl j : pw_g h85 166 j = pw_g h82 166 j)).trans (pw_Eg (c := 166) h79I h82E rfl rfl j : pw_g h82 166 j = pw_g h79 166 j)).trans (pw_Eg (c := 166) h76I h79E rfl rfl j : pw_g h79 166 j = pw_g h76 166 j)).trans (pw_Eg (c := 166) h74I h76E rfl rfl j : pw_g h76 166 j = pw_g h74 166 j)).trans (by rw [← h74w]; exact pw_g_ne (by omega) : pw_g h74 166 j = pw_g h1 166 j)).trans (by rw [← h1w]; exact pw_g_ne (by omega) : pw_g h1 166 j = pw_g h 166 j)
              have hl95 : ∀ j : Nat, pw_g h1 167 j = pw_g h 167 j := fun j => (by rw [← h1w]; exact pw_g_ne (by omega) : pw_g h1 167 j = pw_g h 167 j)
              have hl96 : ∀ j : Nat, pw_g h1 166 j = pw_g h 166 j := fun j => (by rw [← h1w]; exact pw_g_ne (by omega) : pw_g h1 166 j = pw_g h 166 j)
              have c41 : pw_g h91 125 41 = pw_g h74 125 41 := ((((((pw_Ef h91E (by unfold pw_pf; omega) rfl : pw_g h91 125 41 = pw_g h88 125 41)).trans (pw_Ef h88E (by unfold pw_pf; omega) rfl : pw_g h88 125 41 = pw_g h85 125 41)).trans (pw_Ef h85E (by unfold pw_pf; omega) rfl : pw_g h85 125 41 = pw_g h82 125 41)).trans (pw_Ef h82E (by unfold pw_pf; omega) rfl : pw_g h82 125 41 = pw_g h79 125 41)).trans (pw_Ef h79E (by unfold pw_pf; omega) rfl : pw_g h79 125 41 = pw_g h76 125 41)).trans (pw_Ef h76E (by unfold pw_pf; omega) rfl : pw_g h76 125 41 = pw_g h74 125 41)
              have d41 : pw_g h74 125 41 = pw_g h1 167 mk.toNat := by rw [← h74w]; exact pw_g_eq (c := 125) (k := 41) h1I rfl rfl (by omega) (by omega)
              have f41 : pw_g h1 125 41 = pw_g h 125 41 := (by rw [← h1w]; exact pw_g_ne (by omega) : pw_g h1 125 41 = pw_g h 125 41)
              have q7 := hl95 mk.toNat
              have q6 := hl96 mk.toNat
              have hM : pw_MT (pw_g h 125 41) (pw_g h91 125 41) (pw_g h 167) (pw_g h 166) (pw_g h91 167) (pw_g h91 166) mk z 1 := Or.inr (Or.inr (Or.inr ⟨by omega, by omega, by omega, by omega, by omega, rfl, by omega, fun i _ => ⟨hl93 i, hl94 i⟩⟩))
              have hmr : 0 ≤ mk ∧ mk ≤ 3 := by omega
              have kp0 : pw_KP h74 h76 138 (1728 * mk) z 288 := hqk138
              obtain ⟨-, ka0, kb0⟩ := kp0.resolve_left (fun e => by omega)
              have kp1 : pw_KP h76 h79 139 (1728 * mk + 288) z 288 := hqk139
              obtain ⟨-, ka1, kb1⟩ := kp1.resolve_left (fun e => by omega)
              have kp2 : pw_KP h79 h82 140 (1728 * mk + 576) z 288 := hqk140
              obtain ⟨-, ka2, kb2⟩ := kp2.resolve_left (fun e => by omega)
              have kp3 : pw_KP h82 h85 141 (1728 * mk + 864) z 288 := hqk141
              obtain ⟨-, ka3, kb3⟩ := kp3.resolve_left (fun e => by omega)
              have kp4 : pw_KP h85 h88 142 (1728 * mk + 1152) z 288 := hqk142
              obtain ⟨-, ka4, kb4⟩ := kp4.resolve_left (fun e => by omega)
              have kp5 : pw_KP h88 h91 143 (1728 * mk + 1440) z 288 := hqk143
              obtain ⟨-, ka5, kb5⟩ := kp5.resolve_left (fun e => by omega)
              have hl97 : ∀ j : Nat, pw_g h74 168 j = pw_g h 168 j := fun j => ((by rw [← h74w]; exact pw_g_ne (by omega) : pw_g h74 168 j = pw_g h1 168 j)).trans (by rw [← h1w]; exact pw_g_ne (by omega) : pw_g h1 168 j = pw_g h 168 j)
              have hl98 : ∀ j : Nat, pw_g h91 138 j = pw_g h76 138 j := fun j => (((((pw_Eg (c := 138) h88I h91E rfl rfl j : pw_g h91 138 j = pw_g h88 138 j)).trans (pw_Eg (c := 138) h85I h88E rfl rfl j : pw_g h88 138 j = pw_g h85 138 j)).trans (pw_Eg (c := 138) h82I h85E rfl rfl j : pw_g h85 138 j = pw_g h82 138 j)).trans (pw_Eg (c := 138) h79I h82E rfl rfl j : pw_g h82 138 j = pw_g h79 138 j)).trans (pw_Eg (c := 138) h76I h79E rfl rfl j : pw_g h79 138 j = pw_g h76 138 j)
              have hl99 : ∀ j : Nat, pw_g h91 139 j = pw_g h79 139 j := fun j => ((((pw_Eg (c := 139) h88I h91E rfl rfl j : pw_g h91 139 j = pw_g h88 139 j)).trans (pw_Eg (c := 139) h85I h88E rfl rfl j : pw_g h88 139 j = pw_g h85 139 j)).trans (pw_Eg (c := 139) h82I h85E rfl rfl j : pw_g h85 139 j = pw_g h82 139 j)).trans (pw_Eg (c := 139) h79I h82E rfl rfl j : pw_g h82 139 j = pw_g h79 139 j)
              have hl100 : ∀ j : Nat, pw_g h91 140 j = pw_g h82 140 j := fun j => (((pw_Eg (c := 140) h88I h91E rfl rfl j : pw_g h91 140 j = pw_g h88 140 j)).trans (pw_Eg (c := 140) h85I h88E rfl rfl j : pw_g h88 140 j = pw_g h85 140 j)).trans (pw_Eg (c := 140) h82I h85E rfl rfl j : pw_g h85 140 j = pw_g h82 140 j)
              have hl101 : ∀ j : Nat, pw_g h91 141 j = pw_g h85 141 j := fun j => ((pw_Eg (c := 141) h88I h91E rfl rfl j : pw_g h91 141 j = pw_g h88 141 j)).trans (pw_Eg (c := 141) h85I h88E rfl rfl j : pw_g h88 141 j = pw_g h85 141 j)
              have hl102 : ∀ j : Nat, pw_g h91 142 j = pw_g h88 142 j := fun j => (pw_Eg (c := 142) h88I h91E rfl rfl j : pw_g h91 142 j = pw_g h88 142 j)
              have hl103 : ∀ j : Nat, pw_g h91 143 j = pw_g h91 143 j := fun j => rfl
              have hpar : ∀ q : Nat, q < 6 → ∀ j : Nat, j < 288 → pw_g h91 (138 + q) j = pw_g h 168 (1728 * mk.toNat + 288 * q + j) := pw_i6 (fun j (hj : j < 288) => (by rw [show 1728 * mk.toNat + 288 * 0 + j = (1728 * mk).toNat + j by omega]; exact (hl98 j).trans (((kb0 j (by omega))).trans (hl97 _)) : pw_g h91 138 j = pw_g h 168 (1728 * mk.toNat + 288 * 0 + j))) (fun j (hj : j < 288) => (by rw [show 1728 * mk.toNat + 288 * 1 + j = (1728 * mk + 288).toNat + j by omega]; exact (hl99 j).trans ((((kb1 j (by omega))).trans (ka0 _)).trans (hl97 _)) : pw_g h91 139 j = pw_g h 168 (1728 * mk.toNat + 288 * 1 + j))) (fun j (hj : j < 288) => (by rw [show 1728 * mk.toNat + 288 * 2 + j = (1728 * mk + 576).toNat + j by omega]; exact (hl100 j).trans (((((kb2 j (by omega))).trans (ka1 _)).trans (ka0 _)).trans (hl97 _)) : pw_g h91 140 j = pw_g h 168 (1728 * mk.toNat + 288 * 2 + j))) (fun j (hj : j < 288) => (by rw [show 1728 * mk.toNat + 288 * 3 + j = (1728 * mk + 864).toNat + j by omega]; exact (hl101 j).trans ((((((kb3 j (by omega))).trans (ka2 _)).trans (ka1 _)).trans (ka0 _)).trans (hl97 _)) : pw_g h91 141 j = pw_g h 168 (1728 * mk.toNat + 288 * 3 + j))) (fun j (hj : j < 288) => (by rw [show 1728 * mk.toNat + 288 * 4 + j = (1728 * mk + 1152).toNat + j by omega]; exact (hl102 j).trans (((((((kb4 j (by omega))).trans (ka3 _)).trans (ka2 _)).trans (ka1 _)).trans (ka0 _)).trans (hl97 _)) : pw_g h91 142 j = pw_g h 168 (1728 * mk.toNat + 288 * 4 + j))) (fun j (hj : j < 288) => (by rw [show 1728 * mk.toNat + 288 * 5 + j = (1728 * mk + 1440).toNat + j by omega]; exact (hl103 j).trans ((((((((kb5 j (by omega))).trans (ka4 _)).trans (ka3 _)).trans (ka2 _)).trans (ka1 _)).trans (ka0 _)).trans (hl97 _)) : pw_g h91 143 j = pw_g h 168 (1728 * mk.toNat + 288 * 5 + j)))
              have hST : pw_ST h h91 mk z 1 := Or.inr (Or.inr ⟨rfl, by omega, (fun j => ((((((ka5 j).trans (ka4 j)).trans (ka3 j)).trans (ka2 j)).trans (ka1 j)).trans (ka0 j)).trans (hl97 j)), fun q j hq hj => hpar q hq j hj⟩)
              exact ⟨h91I, h91F, ⟨_, rfl, by omega, by omega, hM, hST⟩⟩
          · intro hc104
            change ¬ (pw_g h1 167 (mk.toNat) ≤ pw_g h1 125 41) at hc104
            refine pw_ld E (pc' := 41) (st' := [pw_i 0]) rfl (fun _ => rfl) ?_
            refine pw_zret E rfl (by omega) ?_
            have hl105 : ∀ j : Nat, pw_g h1 167 j = pw_g h 167 j := fun j => (by rw [← h1w]; exact pw_g_ne (by omega) : pw_g h1 167 j = pw_g h 167 j)
            have hl106 : ∀ j : Nat, pw_g h1 166 j = pw_g h 166 j := fun j => (by rw [← h1w]; exact pw_g_ne (by omega) : pw_g h1 166 j = pw_g h 166 j)
            have h41 : pw_g h1 125 41 = pw_g h 125 41 := (by rw [← h1w]; exact pw_g_ne (by omega) : pw_g h1 125 41 = pw_g h 125 41)
            have q7 := hl105 mk.toNat
            have q6 := hl106 mk.toNat
            have hM : pw_MT (pw_g h 125 41) (pw_g h1 125 41) (pw_g h 167) (pw_g h 166) (pw_g h1 167) (pw_g h1 166) mk z 0 := by
              rcases (by omega : ¬ (0 ≤ mk ∧ mk ≤ 3) ∨ (0 ≤ mk ∧ mk ≤ 3)) with hq | hq
              · exact Or.inl ⟨hq, rfl, h41, fun i _ => ⟨hl105 i, hl106 i⟩⟩
              · exact Or.inr (Or.inr (Or.inl ⟨by omega, by omega, by omega, by omega, rfl, h41, fun i _ => ⟨hl105 i, hl106 i⟩⟩))
            have hl107 : ∀ j : Nat, pw_g h1 138 j = pw_g h 138 j := fun j => (by rw [← h1w]; exact pw_g_ne (by omega) : pw_g h1 138 j = pw_g h 138 j)
            have hl108 : ∀ j : Nat, pw_g h1 139 j = pw_g h 139 j := fun j => (by rw [← h1w]; exact pw_g_ne (by omega) : pw_g h1 139 j = pw_g h 139 j)
            have hl109 : ∀ j : Nat, pw_g h1 140 j = pw_g h 140 j := fun j => (by rw [← h1w]; exact pw_g_ne (by omega) : pw_g h1 140 j = pw_g h 140 j)
            have hl110 : ∀ j : Nat, pw_g h1 141 j = pw_g h 141 j := fun j => (by rw [← h1w]; exact pw_g_ne (by omega) : pw_g h1 141 j = pw_g h 141 j)
            have hl111 : ∀ j : Nat, pw_g h1 142 j = pw_g h 142 j := fun j => (by rw [← h1w]; exact pw_g_ne (by omega) : pw_g h1 142 j = pw_g h 142 j)
            have hl112 : ∀ j : Nat, pw_g h1 143 j = pw_g h 143 j := fun j => (by rw [← h1w]; exact pw_g_ne (by omega) : pw_g h1 143 j = pw_g h 143 j)
            have hl113 : ∀ j : Nat, pw_g h1 168 j = pw_g h 168 j := fun j => (by rw [← h1w]; exact pw_g_ne (by omega) : pw_g h1 168 j = pw_g h 168 j)
            have hST : pw_ST h h1 mk z 0 := Or.inl ⟨rfl, pw_i6 hl107 hl108 hl109 hl110 hl111 hl112, hl113⟩
            exact ⟨h1I, h1F, ⟨_, rfl, by omega, by omega, hM, hST⟩⟩
  · skip
    refine pw_if E (pc' := 40) rfl (by decide) (by omega) (by omega) ?_ ?_
    · intro hc115
      change x4 = (0 : Int) at hc115
      refine pw_ld E (pc' := 41) (st' := [pw_i 0]) rfl (fun _ => rfl) ?_
      refine pw_zret E rfl (by omega) ?_
      have hl116 : ∀ j : Nat, pw_g h1 167 j = pw_g h 167 j := fun j => (by rw [← h1w]; exact pw_g_ne (by omega) : pw_g h1 167 j = pw_g h 167 j)
      have hl117 : ∀ j : Nat, pw_g h1 166 j = pw_g h 166 j := fun j => (by rw [← h1w]; exact pw_g_ne (by omega) : pw_g h1 166 j = pw_g h 166 j)
      have h41 : pw_g h1 125 41 = pw_g h 125 41 := (by rw [← h1w]; exact pw_g_ne (by omega) : pw_g h1 125 41 = pw_g h 125 41)
      have q7 := hl116 mk.toNat
      have q6 := hl117 mk.toNat
      have hM : pw_MT (pw_g h 125 41) (pw_g h1 125 41) (pw_g h 167) (pw_g h 166) (pw_g h1 167) (pw_g h1 166) mk z 0 := by
        rcases (by omega : ¬ (0 ≤ mk ∧ mk ≤ 3) ∨ (0 ≤ mk ∧ mk ≤ 3)) with hq | hq
        · exact Or.inl ⟨hq, rfl, h41, fun i _ => ⟨hl116 i, hl117 i⟩⟩
        · exact Or.inr (Or.inr (Or.inl ⟨by omega, by omega, by omega, by omega, rfl, h41, fun i _ => ⟨hl116 i, hl117 i⟩⟩))
      have hl118 : ∀ j : Nat, pw_g h1 138 j = pw_g h 138 j := fun j => (by rw [← h1w]; exact pw_g_ne (by omega) : pw_g h1 138 j = pw_g h 138 j)
      have hl119 : ∀ j : Nat, pw_g h1 139 j = pw_g h 139 j := fun j => (by rw [← h1w]; exact pw_g_ne (by omega) : pw_g h1 139 j = pw_g h 139 j)
      have hl120 : ∀ j : Nat, pw_g h1 140 j = pw_g h 140 j := fun j => (by rw [← h1w]; exact pw_g_ne (by omega) : pw_g h1 140 j = pw_g h 140 j)
      have hl121 : ∀ j : Nat, pw_g h1 141 j = pw_g h 141 j := fun j => (by rw [← h1w]; exact pw_g_ne (by omega) : pw_g h1 141 j = pw_g h 141 j)
      have hl122 : ∀ j : Nat, pw_g h1 142 j = pw_g h 142 j := fun j => (by rw [← h1w]; exact pw_g_ne (by omega) : pw_g h1 142 j = pw_g h 142 j)
      have hl123 : ∀ j : Nat, pw_g h1 143 j = pw_g h 143 j := fun j => (by rw [← h1w]; exact pw_g_ne (by omega) : pw_g h1 143 j = pw_g h 143 j)
      have hl124 : ∀ j : Nat, pw_g h1 168 j = pw_g h 168 j := fun j => (by rw [← h1w]; exact pw_g_ne (by omega) : pw_g h1 168 j = pw_g h 168 j)
      have hST : pw_ST h h1 mk z 0 := Or.inl ⟨rfl, pw_i6 hl118 hl119 hl120 hl121 hl122 hl123, hl124⟩
      exact ⟨h1I, h1F, ⟨_, rfl, by omega, by omega, hM, hST⟩⟩
    · intro hc125
      change ¬ (x4 = (0 : Int)) at hc125
      exfalso; omega
