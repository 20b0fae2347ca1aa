/-! kitchen, floor, book, exactly (printed by wip/tool/mkit.py) -/
/-- a stretch of an array has one value, the rest is as it was -/
def pw_FP (h g : pm_H) (c : Nat) (lo k v : Int) : Prop := ∀ j : Nat, (lo ≤ (j : Int) ∧ (j : Int) < k → pw_g g c j = v) ∧ (¬ (lo ≤ (j : Int) ∧ (j : Int) < k) → pw_g g c j = pw_g h c j)
theorem pw_FP.rf {h : pm_H} {c : Nat} {lo v : Int} : pw_FP h h c lo lo v := fun j => ⟨fun q => by omega, fun _ => rfl⟩
theorem pw_FP.eq {h g g' : pm_H} {c : Nat} {lo k v : Int} (H : pw_FP h g c lo k v) (e : ∀ j : Nat, pw_g g' c j = pw_g g c j) : pw_FP h g' c lo k v := fun j => by rw [e j]; exact H j
theorem pw_FP.fr {h g g' : pm_H} {c : Nat} {lo k v : Int} (H : pw_FP h g c lo k v) (e : ∀ j : Nat, pw_g h c j = pw_g g' c j) : pw_FP g' g c lo k v := fun j => by rw [← e j]; exact H j
theorem pw_FP.ne {h g g' : pm_H} {c c2 i : Nat} {x : Value} {lo k v : Int} (H : pw_FP h g c lo k v) (hc : c2 ≠ c) (w : pw_w g c2 i x = g') : pw_FP h g' c lo k v := H.eq (fun j => by rw [← w]; exact pw_g_ne (fun q => hc q.1))
theorem pw_FP.st {h g g' : pm_H} {c n : Nat} {lo k v l u : Int} (H : pw_FP h g c lo k v) (I : pw_I g) (hs : pw_T[c]? = some (.inl (0, n, l, u))) (h0 : 0 ≤ k) (h1 : k < n) (h2 : lo ≤ k) (v1 : -2147483648 ≤ v) (v2 : v ≤ 2147483647) (w : pw_w g c k.toNat (pw_i v) = g') : pw_FP h g' c lo (k + 1) v := by
  have e1 : pw_g g' c k.toNat = v := by rw [← w]; exact pw_g_eqA I hs (by omega) v1 v2
  have n1 : ∀ j : Nat, j ≠ k.toNat → pw_g g' c j = pw_g g c j := fun j hj => by rw [← w]; exact pw_g_ne (fun q => hj q.2.symm)
  intro j
  rcases (by omega : j = k.toNat ∨ j ≠ k.toNat) with q | q
  · exact ⟨fun _ => by rw [q, e1], fun z => by omega⟩
  · refine ⟨fun z => ?_, fun z => ?_⟩
    · rw [n1 j q]; exact (H j).1 (by omega)
    · rw [n1 j q]; exact (H j).2 (by omega)

set_option maxHeartbeats 4000000 in
theorem cm_58_k {X : List (Nat × List Value)} {d : Nat} {h : pm_H} (hd : 1 ≤ d) (I : pw_I h) (k : Int) (hk1 : 0 ≤ k) (hk2 : k ≤ 23) (b : Int) (hb1 : 0 ≤ b) (hb2 : b ≤ 1) (w : Int) (hw1 : 0 ≤ w) (hw2 : w ≤ 999) (mx : Int) (hmx1 : 0 ≤ mx) (hmx2 : mx ≤ 99) (z : Int) (hz1 : 0 ≤ z) (hz2 : z ≤ 1) : pw X d h 58 0 [some (.ref 17), some (pw_i k), some (pw_i b), some (pw_i w), some (pw_i mx), some (pw_i z)] [] (fun h' v => pw_I h' ∧ pw_E [2, 3, 4, 5, 6] h h' ∧ (pw_up h h' 2 (k) (1) ∧ pw_up h h' 3 (k) (z) ∧ pw_up h h' 4 (k) (b) ∧ pw_up h h' 5 (k) (w) ∧ pw_up h h' 6 (k) (mx)) ∧ (v = .inl none)) := by
  have E : pm_ent 58 = some (6, 6, 6, 4, pmc_58) := rfl
  have E0 : pw_E [2, 3, 4, 5, 6] h h := pw_E.rf _ _
  refine pw_ld E (pc' := 1) (st' := [.ref 17]) rfl (fun _ => rfl) ?_
  refine pw_getR (b := 18) I E (c := 1) (k := 0) (pc' := 4) rfl rfl rfl rfl rfl rfl rfl ?_
  refine pw_ld E (pc' := 5) (st' := [pw_i k, .ref 18]) rfl (fun _ => rfl) ?_
  refine pw_ld E (pc' := 6) (st' := [pw_i 1, pw_i k, .ref 18]) rfl (fun _ => rfl) ?_
  refine pw_ast0 I E (c := 2) (pc' := 7) rfl rfl rfl (by decide) rfl (by decide) (by omega) (by omega) (pw_b1 (by omega) (by omega)) (by omega) (by omega) (by omega) (by omega) rfl ?_
  intro h1I h1E
  generalize h1w : pw_w h 2 (k.toNat) (pw_i 1) = h1 at h1I h1E ⊢
  have h1F := E0.tr (h1E.wk (W' := [2, 3, 4, 5, 6]) (by first | rfl | simp))
  refine pw_ld E (pc' := 8) (st' := [.ref 17]) rfl (fun _ => rfl) ?_
  refine pw_getR (b := 19) h1I E (c := 1) (k := 1) (pc' := 11) rfl rfl rfl rfl rfl rfl rfl ?_
  refine pw_ld E (pc' := 12) (st' := [pw_i k, .ref 19]) rfl (fun _ => rfl) ?_
  refine pw_ld E (pc' := 14) (st' := [pw_i z, pw_i k, .ref 19]) rfl (fun _ => rfl) ?_
  refine pw_ast0 h1I E (c := 3) (pc' := 15) rfl rfl rfl (by decide) rfl (by decide) (by omega) (by omega) (pw_b1 (by omega) (by omega)) (by omega) (by omega) (by omega) (by omega) rfl ?_
  intro h2I h2E
  generalize h2w : pw_w h1 3 (k.toNat) (pw_i z) = h2 at h2I h2E ⊢
  have h2F := h1F.tr (h2E.wk (W' := [2, 3, 4, 5, 6]) (by first | rfl | simp))
  refine pw_ld E (pc' := 16) (st' := [.ref 17]) rfl (fun _ => rfl) ?_
  refine pw_getR (b := 20) h2I E (c := 1) (k := 2) (pc' := 19) rfl rfl rfl rfl rfl rfl rfl ?_
  refine pw_ld E (pc' := 20) (st' := [pw_i k, .ref 20]) rfl (fun _ => rfl) ?_
  refine pw_ld E (pc' := 21) (st' := [pw_i b, pw_i k, .ref 20]) rfl (fun _ => rfl) ?_
  refine pw_ast0 h2I E (c := 4) (pc' := 22) rfl rfl rfl (by decide) rfl (by decide) (by omega) (by omega) rfl (by omega) (by omega) (by omega) (by omega) rfl ?_
  intro h3I h3E
  generalize h3w : pw_w h2 4 (k.toNat) (pw_i b) = h3 at h3I h3E ⊢
  have h3F := h2F.tr (h3E.wk (W' := [2, 3, 4, 5, 6]) (by first | rfl | simp))
  refine pw_ld E (pc' := 23) (st' := [.ref 17]) rfl (fun _ => rfl) ?_
  refine pw_getR (b := 21) h3I E (c := 1) (k := 3) (pc' := 26) rfl rfl rfl rfl rfl rfl rfl ?_
  refine pw_ld E (pc' := 27) (st' := [pw_i k, .ref 21]) rfl (fun _ => rfl) ?_
  refine pw_ld E (pc' := 28) (st' := [pw_i w, pw_i k, .ref 21]) rfl (fun _ => rfl) ?_
  refine pw_ast0 h3I E (c := 5) (pc' := 29) rfl rfl rfl (by decide) rfl (by decide) (by omega) (by omega) rfl (by omega) (by omega) (by omega) (by omega) rfl ?_
  intro h4I h4E
  generalize h4w : pw_w h3 5 (k.toNat) (pw_i w) = h4 at h4I h4E ⊢
  have h4F := h3F.tr (h4E.wk (W' := [2, 3, 4, 5, 6]) (by first | rfl | simp))
  refine pw_ld E (pc' := 30) (st' := [.ref 17]) rfl (fun _ => rfl) ?_
  refine pw_getR (b := 22) h4I E (c := 1) (k := 4) (pc' := 33) rfl rfl rfl rfl rfl rfl rfl ?_
  refine pw_ld E (pc' := 34) (st' := [pw_i k, .ref 22]) rfl (fun _ => rfl) ?_
  refine pw_ld E (pc' := 36) (st' := [pw_i mx, pw_i k, .ref 22]) rfl (fun _ => rfl) ?_
  refine pw_ast0 h4I E (c := 6) (pc' := 37) rfl rfl rfl (by decide) rfl (by decide) (by omega) (by omega) rfl (by omega) (by omega) (by omega) (by omega) rfl ?_
  intro h5I h5E
  generalize h5w : pw_w h4 6 (k.toNat) (pw_i mx) = h5 at h5I h5E ⊢
  have h5F := h4F.tr (h5E.wk (W' := [2, 3, 4, 5, 6]) (by first | rfl | simp))
  refine pw_vret E rfl ?_
  have hl7 : ∀ j : Nat, pw_g h5 2 j = pw_g h1 2 j := fun j => ((((by rw [← h5w]; exact pw_g_ne (by omega) : pw_g h5 2 j = pw_g h4 2 j)).trans (by rw [← h4w]; exact pw_g_ne (by omega) : pw_g h4 2 j = pw_g h3 2 j)).trans (by rw [← h3w]; exact pw_g_ne (by omega) : pw_g h3 2 j = pw_g h2 2 j)).trans (by rw [← h2w]; exact pw_g_ne (by omega) : pw_g h2 2 j = pw_g h1 2 j)
  have hl8 : ∀ j : Nat, pw_g h 2 j = pw_g h 2 j := fun j => rfl
  have hu6a : pw_g h1 2 (k.toNat) = 1 := by rw [← h1w]; exact pw_g_eqA I rfl (by omega) (by omega) (by omega)
  have hu6b : ∀ j : Nat, j ≠ k.toNat → pw_g h1 2 j = pw_g h 2 j := fun j hj => by rw [← h1w]; exact pw_g_ne (fun q => hj q.2.symm)
  have hl10 : ∀ j : Nat, pw_g h5 3 j = pw_g h2 3 j := fun j => (((by rw [← h5w]; exact pw_g_ne (by omega) : pw_g h5 3 j = pw_g h4 3 j)).trans (by rw [← h4w]; exact pw_g_ne (by omega) : pw_g h4 3 j = pw_g h3 3 j)).trans (by rw [← h3w]; exact pw_g_ne (by omega) : pw_g h3 3 j = pw_g h2 3 j)
  have hl11 : ∀ j : Nat, pw_g h1 3 j = pw_g h 3 j := fun j => (by rw [← h1w]; exact pw_g_ne (by omega) : pw_g h1 3 j = pw_g h 3 j)
  have hu9a : pw_g h2 3 (k.toNat) = z := by rw [← h2w]; exact pw_g_eqA h1I rfl (by omega) (by omega) (by omega)
  have hu9b : ∀ j : Nat, j ≠ k.toNat → pw_g h2 3 j = pw_g h1 3 j := fun j hj => by rw [← h2w]; exact pw_g_ne (fun q => hj q.2.symm)
  have hl13 : ∀ j : Nat, pw_g h5 4 j = pw_g h3 4 j := fun j => ((by rw [← h5w]; exact pw_g_ne (by omega) : pw_g h5 4 j = pw_g h4 4 j)).trans (by rw [← h4w]; exact pw_g_ne (by omega) : pw_g h4 4 j = pw_g h3 4 j)
  have hl14 : ∀ j : Nat, pw_g h2 4 j = pw_g h 4 j := fun j => ((by rw [← h2w]; exact pw_g_ne (by omega) : pw_g h2 4 j = pw_g h1 4 j)).trans (by rw [← h1w]; exact pw_g_ne (by omega) : pw_g h1 4 j = pw_g h 4 j)
  have hu12a : pw_g h3 4 (k.toNat) = b := by rw [← h3w]; exact pw_g_eqA h2I rfl (by omega) (by omega) (by omega)
  have hu12b : ∀ j : Nat, j ≠ k.toNat → pw_g h3 4 j = pw_g h2 4 j := fun j hj => by rw [← h3w]; exact pw_g_ne (fun q => hj q.2.symm)
  have hl16 : ∀ j : Nat, pw_g h5 5 j = pw_g h4 5 j := fun j => (by rw [← h5w]; exact pw_g_ne (by omega) : pw_g h5 5 j = pw_g h4 5 j)
  have hl17 : ∀ j : Nat, pw_g h3 5 j = pw_g h 5 j := fun j => (((by rw [← h3w]; exact pw_g_ne (by omega) : pw_g h3 5 j = pw_g h2 5 j)).trans (by rw [← h2w]; exact pw_g_ne (by omega) : pw_g h2 5 j = pw_g h1 5 j)).trans (by rw [← h1w]; exact pw_g_ne (by omega) : pw_g h1 5 j = pw_g h 5 j)
  have hu15a : pw_g h4 5 (k.toNat) = w := by rw [← h4w]; exact pw_g_eqA h3I rfl (by omega) (by omega) (by omega)
  have hu15b : ∀ j : Nat, j ≠ k.toNat → pw_g h4 5 j = pw_g h3 5 j := fun j hj => by rw [← h4w]; exact pw_g_ne (fun q => hj q.2.symm)
  have hl19 : ∀ j : Nat, pw_g h5 6 j = pw_g h5 6 j := fun j => rfl
  have hl20 : ∀ j : Nat, pw_g h4 6 j = pw_g h 6 j := fun j => ((((by rw [← h4w]; exact pw_g_ne (by omega) : pw_g h4 6 j = pw_g h3 6 j)).trans (by rw [← h3w]; exact pw_g_ne (by omega) : pw_g h3 6 j = pw_g h2 6 j)).trans (by rw [← h2w]; exact pw_g_ne (by omega) : pw_g h2 6 j = pw_g h1 6 j)).trans (by rw [← h1w]; exact pw_g_ne (by omega) : pw_g h1 6 j = pw_g h 6 j)
  have hu18a : pw_g h5 6 (k.toNat) = mx := by rw [← h5w]; exact pw_g_eqA h4I rfl (by omega) (by omega) (by omega)
  have hu18b : ∀ j : Nat, j ≠ k.toNat → pw_g h5 6 j = pw_g h4 6 j := fun j hj => by rw [← h5w]; exact pw_g_ne (fun q => hj q.2.symm)
  exact ⟨h5I, h5F, ⟨⟨(hl7 _).trans hu6a, fun j hj => (hl7 j).trans ((hu6b j hj).trans (hl8 j))⟩, ⟨(hl10 _).trans hu9a, fun j hj => (hl10 j).trans ((hu9b j hj).trans (hl11 j))⟩, ⟨(hl13 _).trans hu12a, fun j hj => (hl13 j).trans ((hu12b j hj).trans (hl14 j))⟩, ⟨(hl16 _).trans hu15a, fun j hj => (hl16 j).trans ((hu15b j hj).trans (hl17 j))⟩, ⟨(hl19 _).trans hu18a, fun j hj => (hl19 j).trans ((hu18b j hj).trans (hl20 j))⟩⟩, rfl⟩
set_option maxHeartbeats 4000000 in
theorem cm_119_k {X : List (Nat × List Value)} {d : Nat} {h : pm_H} (hd : 3 ≤ d) (I : pw_I h) (k : Int) (hk1 : (-2147483648) ≤ k) (hk2 : k ≤ 2147483647) (b : Int) (hb1 : (-2147483648) ≤ b) (hb2 : b ≤ 2147483647) (w : Int) (hw1 : (-2147483648) ≤ w) (hw2 : w ≤ 2147483647) (mx : Int) (hmx1 : (-2147483648) ≤ mx) (hmx2 : mx ≤ 2147483647) (z : Int) (hz1 : 0 ≤ z) (hz2 : z ≤ 1) : pw X d h 119 0 [some (.ref 16), some (pw_i k), some (pw_i b), some (pw_i w), some (pw_i mx), some (pw_i z)] [] (fun h' v => pw_I h' ∧ pw_E [2, 3, 4, 5, 6] h h' ∧ ∃ a : Int, v = .inl (some (pw_i a)) ∧ 0 ≤ a ∧ a ≤ 1 ∧ (((a = 1 ∧ 0 ≤ k ∧ k ≤ 23 ∧ 0 ≤ b ∧ b ≤ 1 ∧ 0 ≤ w ∧ w ≤ 999 ∧ 0 ≤ mx ∧ mx ≤ 99) ∨ (a = 0 ∧ ¬ (0 ≤ k ∧ k ≤ 23 ∧ 0 ≤ b ∧ b ≤ 1 ∧ 0 ≤ w ∧ w ≤ 999 ∧ 0 ≤ mx ∧ mx ≤ 99))) ∧ (a = 1 → pw_up h h' 2 (k) (1) ∧ pw_up h h' 3 (k) (z) ∧ pw_up h h' 4 (k) (b) ∧ pw_up h h' 5 (k) (w) ∧ pw_up h h' 6 (k) (mx)) ∧ (a = 0 → pw_sm h h' 2 ∧ pw_sm h h' 3 ∧ pw_sm h h' 4 ∧ pw_sm h h' 5 ∧ pw_sm h h' 6))) := by
  have E : pm_ent 119 = some (6, 6, 11, 1, pmc_119) := rfl
  have E0 : pw_E [2, 3, 4, 5, 6] h h := pw_E.rf _ _
  refine pw_ld E (pc' := 1) (st' := [pw_i k]) rfl (fun _ => rfl) ?_
  refine pw_call (m' := 120) (As := [pw_i k]) (rest := []) (ls'' := [some (pw_i k)]) (Nat.le_trans (by decide) hd) E rfl (fun _ => pw_iS rfl rfl rfl) (rfl : pm_ent 120 = some (1, 1, 11, 1, pmc_120)) rfl rfl (cm_120 (pw_dp hd (by decide)) I (k) (by omega) (by omega)) ?_
  rintro u2 v1 ⟨rfl, x3, rfl, hx3a, hx3b, hx3r⟩
  refine ⟨_, rfl, ?_⟩
  show pw X d h 119 4 [some (.ref 16), some (pw_i k), some (pw_i b), some (pw_i w), some (pw_i mx), some (pw_i z)] [pw_i x3] _
  change (x3 = 1 ∧ 0 ≤ k ∧ k ≤ 23) ∨ (x3 = 0 ∧ ¬ (0 ≤ k ∧ k ≤ 23)) at hx3r
  rcases (by omega : x3 = 1 ∨ x3 = 0) with hb4 | hb4
  · skip
    refine pw_if E (pc' := 36) rfl (by decide) (by omega) (by omega) ?_ ?_
    · intro hc5
      change x3 = (0 : Int) at hc5
      exfalso; omega
    · intro hc6
      change ¬ (x3 = (0 : Int)) at hc6
      refine pw_ld E (pc' := 8) (st' := [pw_i b]) rfl (fun _ => rfl) ?_
      refine pw_call (m' := 122) (As := [pw_i b]) (rest := []) (ls'' := [some (pw_i b)]) (Nat.le_trans (by decide) hd) E rfl (fun _ => pw_iS rfl rfl rfl) (rfl : pm_ent 122 = some (1, 1, 11, 1, pmc_122)) rfl rfl (cm_122 (pw_dp hd (by decide)) I (b) (by omega) (by omega)) ?_
      rintro u8 v7 ⟨rfl, x9, rfl, hx9a, hx9b, hx9r⟩
      refine ⟨_, rfl, ?_⟩
      show pw X d h 119 11 [some (.ref 16), some (pw_i k), some (pw_i b), some (pw_i w), some (pw_i mx), some (pw_i z)] [pw_i x9] _
      change (x9 = 1 ∧ 0 ≤ b ∧ b ≤ 1) ∨ (x9 = 0 ∧ ¬ (0 ≤ b ∧ b ≤ 1)) at hx9r
      rcases (by omega : x9 = 1 ∨ x9 = 0) with hb10 | hb10
      · skip
        refine pw_if E (pc' := 36) rfl (by decide) (by omega) (by omega) ?_ ?_
        · intro hc11
          change x9 = (0 : Int) at hc11
          exfalso; omega
        · intro hc12
          change ¬ (x9 = (0 : Int)) at hc12
          refine pw_ld E (pc' := 15) (st' := [pw_i w]) rfl (fun _ => rfl) ?_
          refine pw_ld E (pc' := 16) (st' := [pw_i 0, pw_i w]) rfl (fun _ => rfl) ?_
          refine pw_sip E (pc' := 19) rfl rfl (by decide) ?_
          refine pw_call (m' := 121) (As := [pw_i w, pw_i 0, pw_i 999]) (rest := []) (ls'' := [some (pw_i w), some (pw_i 0), some (pw_i 999)]) (Nat.le_trans (by decide) hd) E rfl (fun _ => pw_iS rfl rfl rfl) (rfl : pm_ent 121 = some (3, 3, 11, 1, pmc_121)) rfl rfl (cm_121 (pw_dp hd (by decide)) I (w) (by omega) (by omega) (0) (by omega) (by omega) (999) (by omega) (by omega)) ?_
          rintro u14 v13 ⟨rfl, x15, rfl, hx15a, hx15b, hx15r⟩
          refine ⟨_, rfl, ?_⟩
          show pw X d h 119 22 [some (.ref 16), some (pw_i k), some (pw_i b), some (pw_i w), some (pw_i mx), some (pw_i z)] [pw_i x15] _
          change (x15 = 1 ∧ 0 ≤ w ∧ w ≤ 999) ∨ (x15 = 0 ∧ ¬ (0 ≤ w ∧ w ≤ 999)) at hx15r
          rcases (by omega : x15 = 1 ∨ x15 = 0) with hb16 | hb16
          · skip
            refine pw_if E (pc' := 36) rfl (by decide) (by omega) (by omega) ?_ ?_
            · intro hc17
              change x15 = (0 : Int) at hc17
              exfalso; omega
            · intro hc18
              change ¬ (x15 = (0 : Int)) at hc18
              refine pw_ld E (pc' := 27) (st' := [pw_i mx]) rfl (fun _ => rfl) ?_
              refine pw_ld E (pc' := 28) (st' := [pw_i 0, pw_i mx]) rfl (fun _ => rfl) ?_
              refine pw_bip E (pc' := 30) rfl rfl (by decide) ?_
              refine pw_call (m' := 121) (As := [pw_i mx, pw_i 0, pw_i 99]) (rest := []) (ls'' := [some (pw_i mx), some (pw_i 0), some (pw_i 99)]) (Nat.le_trans (by decide) hd) E rfl (fun _ => pw_iS rfl rfl rfl) (rfl : pm_ent 121 = some (3, 3, 11, 1, pmc_121)) rfl rfl (cm_121 (pw_dp hd (by decide)) I (mx) (by omega) (by omega) (0) (by omega) (by omega) (99) (by omega) (by omega)) ?_
              rintro u20 v19 ⟨rfl, x21, rfl, hx21a, hx21b, hx21r⟩
              refine ⟨_, rfl, ?_⟩
              show pw X d h 119 33 [some (.ref 16), some (pw_i k), some (pw_i b), some (pw_i w), some (pw_i mx), some (pw_i z)] [pw_i x21] _
              change (x21 = 1 ∧ 0 ≤ mx ∧ mx ≤ 99) ∨ (x21 = 0 ∧ ¬ (0 ≤ mx ∧ mx ≤ 99)) at hx21r
              rcases (by omega : x21 = 1 ∨ x21 = 0) with hb22 | hb22
              · skip
                refine pw_if E (pc' := 38) rfl (by decide) (by omega) (by omega) ?_ ?_
                · intro hc23
                  change x21 ≠ (0 : Int) at hc23
                  refine pw_ld E (pc' := 39) (st' := [.ref 16]) rfl (fun _ => rfl) ?_
                  refine pw_getR (b := 17) I E (c := 0) (k := 0) (pc' := 42) rfl rfl rfl rfl rfl rfl rfl ?_
                  refine pw_ld E (pc' := 43) (st' := [pw_i k, .ref 17]) rfl (fun _ => rfl) ?_
                  refine pw_ld E (pc' := 44) (st' := [pw_i b, pw_i k, .ref 17]) rfl (fun _ => rfl) ?_
                  refine pw_ld E (pc' := 45) (st' := [pw_i w, pw_i b, pw_i k, .ref 17]) rfl (fun _ => rfl) ?_
                  refine pw_ld E (pc' := 47) (st' := [pw_i mx, pw_i w, pw_i b, pw_i k, .ref 17]) rfl (fun _ => rfl) ?_
                  refine pw_ld E (pc' := 49) (st' := [pw_i z, pw_i mx, pw_i w, pw_i b, pw_i k, .ref 17]) rfl (fun _ => rfl) ?_
                  obtain ⟨f24l, f24h, -⟩ := pw_obj (c := 1) I rfl
                  refine pw_call (m' := 58) (As := [.ref 17, pw_i k, pw_i b, pw_i w, pw_i mx, pw_i z]) (rest := []) (ls'' := [some (.ref 17), some (pw_i k), some (pw_i b), some (pw_i w), some (pw_i mx), some (pw_i z)]) (Nat.le_trans (by decide) hd) E rfl (fun _ => pw_iV rfl rfl rfl rfl (pw_cellI f24h rfl)) (rfl : pm_ent 58 = some (6, 6, 6, 4, pmc_58)) rfl rfl (cm_58_k (pw_dp hd (by decide)) I (k) (by omega) (by omega) (b) (by omega) (by omega) (w) (by omega) (by omega) (mx) (by omega) (by omega) (z) (by omega) (by omega)) ?_
                  rintro h25 v26 ⟨h25I, h25E, hqput, rfl⟩
                  refine ⟨_, rfl, ?_⟩
                  have h25F := E0.tr (h25E.wk (W' := [2, 3, 4, 5, 6]) (by first | rfl | simp))
                  show pw X d h25 119 52 [some (.ref 16), some (pw_i k), some (pw_i b), some (pw_i w), some (pw_i mx), some (pw_i z)] [] _
                  refine pw_ld E (pc' := 53) (st' := [pw_i 1]) rfl (fun _ => rfl) ?_
                  refine pw_zret E rfl (by omega) ?_
                  exact ⟨h25I, h25F, ⟨_, rfl, by omega, by omega, ⟨by omega, fun _ => hqput, fun q => absurd q (by omega)⟩⟩⟩
                · intro hc27
                  change ¬ (x21 ≠ (0 : Int)) at hc27
                  exfalso; omega
              · skip
                refine pw_if E (pc' := 38) rfl (by decide) (by omega) (by omega) ?_ ?_
                · intro hc29
                  change x21 ≠ (0 : Int) at hc29
                  exfalso; omega
                · intro hc30
                  change ¬ (x21 ≠ (0 : Int)) at hc30
                  refine pw_ld E (pc' := 37) (st' := [pw_i 0]) rfl (fun _ => rfl) ?_
                  refine pw_zret E rfl (by omega) ?_
                  have hl31 : ∀ j : Nat, pw_g h 2 j = pw_g h 2 j := fun j => rfl
                  have hl32 : ∀ j : Nat, pw_g h 3 j = pw_g h 3 j := fun j => rfl
                  have hl33 : ∀ j : Nat, pw_g h 4 j = pw_g h 4 j := fun j => rfl
                  have hl34 : ∀ j : Nat, pw_g h 5 j = pw_g h 5 j := fun j => rfl
                  have hl35 : ∀ j : Nat, pw_g h 6 j = pw_g h 6 j := fun j => rfl
                  exact ⟨I, E0, ⟨_, rfl, by omega, by omega, ⟨by omega, fun q => absurd q (by omega), fun _ => ⟨hl31, hl32, hl33, hl34, hl35⟩⟩⟩⟩
          · skip
            refine pw_if E (pc' := 36) rfl (by decide) (by omega) (by omega) ?_ ?_
            · intro hc37
              change x15 = (0 : Int) at hc37
              refine pw_ld E (pc' := 37) (st' := [pw_i 0]) rfl (fun _ => rfl) ?_
              refine pw_zret E rfl (by omega) ?_
              have hl38 : ∀ j : Nat, pw_g h 2 j = pw_g h 2 j := fun j => rfl
              have hl39 : ∀ j : Nat, pw_g h 3 j = pw_g h 3 j := fun j => rfl
              have hl40 : ∀ j : Nat, pw_g h 4 j = pw_g h 4 j := fun j => rfl
              have hl41 : ∀ j : Nat, pw_g h 5 j = pw_g h 5 j := fun j => rfl
              have hl42 : ∀ j : Nat, pw_g h 6 j = pw_g h 6 j := fun j => rfl
              exact ⟨I, E0, ⟨_, rfl, by omega, by omega, ⟨by omega, fun q => absurd q (by omega), fun _ => ⟨hl38, hl39, hl40, hl41, hl42⟩⟩⟩⟩
            · intro hc43
              change ¬ (x15 = (0 : Int)) at hc43
              exfalso; omega
      · skip
        refine pw_if E (pc' := 36) rfl (by decide) (by omega) (by omega) ?_ ?_
        · intro hc45
          change x9 = (0 : Int) at hc45
          refine pw_ld E (pc' := 37) (st' := [pw_i 0]) rfl (fun _ => rfl) ?_
          refine pw_zret E rfl (by omega) ?_
          have hl46 : ∀ j : Nat, pw_g h 2 j = pw_g h 2 j := fun j => rfl
          have hl47 : ∀ j : Nat, pw_g h 3 j = pw_g h 3 j := fun j => rfl
          have hl48 : ∀ j : Nat, pw_g h 4 j = pw_g h 4 j := fun j => rfl
          have hl49 : ∀ j : Nat, pw_g h 5 j = pw_g h 5 j := fun j => rfl
          have hl50 : ∀ j : Nat, pw_g h 6 j = pw_g h 6 j := fun j => rfl
          exact ⟨I, E0, ⟨_, rfl, by omega, by omega, ⟨by omega, fun q => absurd q (by omega), fun _ => ⟨hl46, hl47, hl48, hl49, hl50⟩⟩⟩⟩
        · intro hc51
          change ¬ (x9 = (0 : Int)) at hc51
          exfalso; omega
  · skip
    refine pw_if E (pc' := 36) rfl (by decide) (by omega) (by omega) ?_ ?_
    · intro hc53
      change x3 = (0 : Int) at hc53
      refine pw_ld E (pc' := 37) (st' := [pw_i 0]) rfl (fun _ => rfl) ?_
      refine pw_zret E rfl (by omega) ?_
      have hl54 : ∀ j : Nat, pw_g h 2 j = pw_g h 2 j := fun j => rfl
      have hl55 : ∀ j : Nat, pw_g h 3 j = pw_g h 3 j := fun j => rfl
      have hl56 : ∀ j : Nat, pw_g h 4 j = pw_g h 4 j := fun j => rfl
      have hl57 : ∀ j : Nat, pw_g h 5 j = pw_g h 5 j := fun j => rfl
      have hl58 : ∀ j : Nat, pw_g h 6 j = pw_g h 6 j := fun j => rfl
      exact ⟨I, E0, ⟨_, rfl, by omega, by omega, ⟨by omega, fun q => absurd q (by omega), fun _ => ⟨hl54, hl55, hl56, hl57, hl58⟩⟩⟩⟩
    · intro hc59
      change ¬ (x3 = (0 : Int)) at hc59
      exfalso; omega
set_option maxHeartbeats 4000000 in
theorem cm_201_k {X : List (Nat × List Value)} {d : Nat} {h : pm_H} (hd : 2 ≤ d) (I : pw_I h) (k : Int) (hk1 : (-2147483648) ≤ k) (hk2 : k ≤ 2147483647) (b : Int) (hb1 : (-2147483648) ≤ b) (hb2 : b ≤ 2147483647) (w : Int) (hw1 : (-2147483648) ≤ w) (hw2 : w ≤ 2147483647) (mx : Int) (hmx1 : (-2147483648) ≤ mx) (hmx2 : mx ≤ 2147483647) (z : Int) (hz1 : 0 ≤ z) (hz2 : z ≤ 1) : pw X d h 201 0 [some (.ref 141), some (pw_i k), some (pw_i b), some (pw_i w), some (pw_i mx), some (pw_i z)] [] (fun h' v => pw_I h' ∧ pw_E [125, 131, 132, 133, 134, 135] h h' ∧ ∃ a : Int, v = .inl (some (pw_i a)) ∧ 0 ≤ a ∧ a ≤ 1 ∧ (((a = 1 ∧ 0 ≤ k ∧ k ≤ 23 ∧ 0 ≤ b ∧ b ≤ 1 ∧ 0 ≤ w ∧ w ≤ 999 ∧ 0 ≤ mx ∧ mx ≤ 99) ∨ (a = 0 ∧ ¬ (0 ≤ k ∧ k ≤ 23 ∧ 0 ≤ b ∧ b ≤ 1 ∧ 0 ≤ w ∧ w ≤ 999 ∧ 0 ≤ mx ∧ mx ≤ 99))) ∧ (a = 1 → pw_up h h' 131 (k) (1) ∧ pw_up h h' 135 (k) (z) ∧ pw_up h h' 132 (k) (b) ∧ pw_up h h' 133 (k) (w) ∧ pw_up h h' 134 (k) (mx)) ∧ (a = 0 → pw_sm h h' 131 ∧ pw_sm h h' 135 ∧ pw_sm h h' 132 ∧ pw_sm h h' 133 ∧ pw_sm h h' 134))) := by
  have E : pm_ent 201 = some (6, 6, 12, 1, pmc_201) := rfl
  have E0 : pw_E [125, 131, 132, 133, 134, 135] h h := pw_E.rf _ _
  refine pw_ld E (pc' := 1) (st' := [.ref 141]) rfl (fun _ => rfl) ?_
  refine pw_ld E (pc' := 2) (st' := [pw_i 0, .ref 141]) rfl (fun _ => rfl) ?_
  refine pw_putI I E (c := 125) (k := 0) (pc' := 5) rfl rfl rfl rfl (by omega) (by omega) (by omega) (by omega) rfl rfl ?_
  intro h1I h1E
  generalize h1w : pw_w h 125 0 (pw_i 0) = h1 at h1I h1E ⊢
  have h1F := E0.tr (h1E.wk (W' := [125, 131, 132, 133, 134, 135]) (by first | rfl | simp))
  refine pw_ld E (pc' := 6) (st' := [pw_i k]) rfl (fun _ => rfl) ?_
  refine pw_ld E (pc' := 7) (st' := [pw_i 0, pw_i k]) rfl (fun _ => rfl) ?_
  refine pw_bip E (pc' := 9) rfl rfl (by decide) ?_
  refine pw_call (m' := 202) (As := [pw_i k, pw_i 0, pw_i 23]) (rest := []) (ls'' := [some (pw_i k), some (pw_i 0), some (pw_i 23)]) (Nat.le_trans (by decide) hd) E rfl (fun _ => pw_iS rfl rfl rfl) (rfl : pm_ent 202 = some (3, 3, 12, 1, pmc_202)) rfl rfl (cm_202 (pw_dp hd (by decide)) h1I (k) (by omega) (by omega) (0) (by omega) (by omega) (23) (by omega) (by omega)) ?_
  rintro u3 v2 ⟨rfl, x4, rfl, hx4a, hx4b, hx4r⟩
  refine ⟨_, rfl, ?_⟩
  show pw X d h1 201 12 [some (.ref 141), some (pw_i k), some (pw_i b), some (pw_i w), some (pw_i mx), some (pw_i z)] [pw_i x4] _
  change (x4 = 1 ∧ 0 ≤ k ∧ k ≤ 23) ∨ (x4 = 0 ∧ ¬ (0 ≤ k ∧ k ≤ 23)) at hx4r
  rcases (by omega : x4 = 1 ∨ x4 = 0) with hb5 | hb5
  · skip
    refine pw_if E (pc' := 46) rfl (by decide) (by omega) (by omega) ?_ ?_
    · intro hc6
      change x4 = (0 : Int) at hc6
      exfalso; omega
    · intro hc7
      change ¬ (x4 = (0 : Int)) at hc7
      refine pw_ld E (pc' := 16) (st' := [pw_i b]) rfl (fun _ => rfl) ?_
      refine pw_ld E (pc' := 17) (st' := [pw_i 0, pw_i b]) rfl (fun _ => rfl) ?_
      refine pw_ld E (pc' := 18) (st' := [pw_i 1, pw_i 0, pw_i b]) rfl (fun _ => rfl) ?_
      refine pw_call (m' := 202) (As := [pw_i b, pw_i 0, pw_i 1]) (rest := []) (ls'' := [some (pw_i b), some (pw_i 0), some (pw_i 1)]) (Nat.le_trans (by decide) hd) E rfl (fun _ => pw_iS rfl rfl rfl) (rfl : pm_ent 202 = some (3, 3, 12, 1, pmc_202)) rfl rfl (cm_202 (pw_dp hd (by decide)) h1I (b) (by omega) (by omega) (0) (by omega) (by omega) (1) (by omega) (by omega)) ?_
      rintro u9 v8 ⟨rfl, x10, rfl, hx10a, hx10b, hx10r⟩
      refine ⟨_, rfl, ?_⟩
      show pw X d h1 201 21 [some (.ref 141), some (pw_i k), some (pw_i b), some (pw_i w), some (pw_i mx), some (pw_i z)] [pw_i x10] _
      change (x10 = 1 ∧ 0 ≤ b ∧ b ≤ 1) ∨ (x10 = 0 ∧ ¬ (0 ≤ b ∧ b ≤ 1)) at hx10r
      rcases (by omega : x10 = 1 ∨ x10 = 0) with hb11 | hb11
      · skip
        refine pw_if E (pc' := 46) rfl (by decide) (by omega) (by omega) ?_ ?_
        · intro hc12
          change x10 = (0 : Int) at hc12
          exfalso; omega
        · intro hc13
          change ¬ (x10 = (0 : Int)) at hc13
          refine pw_ld E (pc' := 25) (st' := [pw_i w]) rfl (fun _ => rfl) ?_
          refine pw_ld E (pc' := 26) (st' := [pw_i 0, pw_i w]) rfl (fun _ => rfl) ?_
          refine pw_sip E (pc' := 29) rfl rfl (by decide) ?_
          refine pw_call (m' := 202) (As := [pw_i w, pw_i 0, pw_i 999]) (rest := []) (ls'' := [some (pw_i w), some (pw_i 0), some (pw_i 999)]) (Nat.le_trans (by decide) hd) E rfl (fun _ => pw_iS rfl rfl rfl) (rfl : pm_ent 202 = some (3, 3, 12, 1, pmc_202)) rfl rfl (cm_202 (pw_dp hd (by decide)) h1I (w) (by omega) (by omega) (0) (by omega) (by omega) (999) (by omega) (by omega)) ?_
          rintro u15 v14 ⟨rfl, x16, rfl, hx16a, hx16b, hx16r⟩
          refine ⟨_, rfl, ?_⟩
          show pw X d h1 201 32 [some (.ref 141), some (pw_i k), some (pw_i b), some (pw_i w), some (pw_i mx), some (pw_i z)] [pw_i x16] _
          change (x16 = 1 ∧ 0 ≤ w ∧ w ≤ 999) ∨ (x16 = 0 ∧ ¬ (0 ≤ w ∧ w ≤ 999)) at hx16r
          rcases (by omega : x16 = 1 ∨ x16 = 0) with hb17 | hb17
          · skip
            refine pw_if E (pc' := 46) rfl (by decide) (by omega) (by omega) ?_ ?_
            · intro hc18
              change x16 = (0 : Int) at hc18
              exfalso; omega
            · intro hc19
              change ¬ (x16 = (0 : Int)) at hc19
              refine pw_ld E (pc' := 37) (st' := [pw_i mx]) rfl (fun _ => rfl) ?_
              refine pw_ld E (pc' := 38) (st' := [pw_i 0, pw_i mx]) rfl (fun _ => rfl) ?_
              refine pw_bip E (pc' := 40) rfl rfl (by decide) ?_
              refine pw_call (m' := 202) (As := [pw_i mx, pw_i 0, pw_i 99]) (rest := []) (ls'' := [some (pw_i mx), some (pw_i 0), some (pw_i 99)]) (Nat.le_trans (by decide) hd) E rfl (fun _ => pw_iS rfl rfl rfl) (rfl : pm_ent 202 = some (3, 3, 12, 1, pmc_202)) rfl rfl (cm_202 (pw_dp hd (by decide)) h1I (mx) (by omega) (by omega) (0) (by omega) (by omega) (99) (by omega) (by omega)) ?_
              rintro u21 v20 ⟨rfl, x22, rfl, hx22a, hx22b, hx22r⟩
              refine ⟨_, rfl, ?_⟩
              show pw X d h1 201 43 [some (.ref 141), some (pw_i k), some (pw_i b), some (pw_i w), some (pw_i mx), some (pw_i z)] [pw_i x22] _
              change (x22 = 1 ∧ 0 ≤ mx ∧ mx ≤ 99) ∨ (x22 = 0 ∧ ¬ (0 ≤ mx ∧ mx ≤ 99)) at hx22r
              rcases (by omega : x22 = 1 ∨ x22 = 0) with hb23 | hb23
              · skip
                refine pw_if E (pc' := 48) rfl (by decide) (by omega) (by omega) ?_ ?_
                · intro hc24
                  change x22 ≠ (0 : Int) at hc24
                  refine pw_ld E (pc' := 49) (st' := [.ref 141]) rfl (fun _ => rfl) ?_
                  refine pw_getR (b := 147) h1I E (c := 125) (k := 10) (pc' := 52) rfl rfl rfl rfl rfl rfl rfl ?_
                  refine pw_ld E (pc' := 53) (st' := [pw_i k, .ref 147]) rfl (fun _ => rfl) ?_
                  refine pw_ld E (pc' := 54) (st' := [pw_i 1, pw_i k, .ref 147]) rfl (fun _ => rfl) ?_
                  refine pw_ast0 h1I E (c := 131) (pc' := 55) rfl rfl rfl (by decide) rfl (by decide) (by omega) (by omega) (pw_b1 (by omega) (by omega)) (by omega) (by omega) (by omega) (by omega) rfl ?_
                  intro h25I h25E
                  generalize h25w : pw_w h1 131 (k.toNat) (pw_i 1) = h25 at h25I h25E ⊢
                  have h25F := h1F.tr (h25E.wk (W' := [125, 131, 132, 133, 134, 135]) (by first | rfl | simp))
                  refine pw_ld E (pc' := 56) (st' := [.ref 141]) rfl (fun _ => rfl) ?_
                  refine pw_getR (b := 148) h25I E (c := 125) (k := 11) (pc' := 59) rfl rfl rfl rfl rfl rfl rfl ?_
                  refine pw_ld E (pc' := 60) (st' := [pw_i k, .ref 148]) rfl (fun _ => rfl) ?_
                  refine pw_ld E (pc' := 61) (st' := [pw_i b, pw_i k, .ref 148]) rfl (fun _ => rfl) ?_
                  refine pw_ast0 h25I E (c := 132) (pc' := 62) rfl rfl rfl (by decide) rfl (by decide) (by omega) (by omega) rfl (by omega) (by omega) (by omega) (by omega) rfl ?_
                  intro h26I h26E
                  generalize h26w : pw_w h25 132 (k.toNat) (pw_i b) = h26 at h26I h26E ⊢
                  have h26F := h25F.tr (h26E.wk (W' := [125, 131, 132, 133, 134, 135]) (by first | rfl | simp))
                  refine pw_ld E (pc' := 63) (st' := [.ref 141]) rfl (fun _ => rfl) ?_
                  refine pw_getR (b := 149) h26I E (c := 125) (k := 12) (pc' := 66) rfl rfl rfl rfl rfl rfl rfl ?_
                  refine pw_ld E (pc' := 67) (st' := [pw_i k, .ref 149]) rfl (fun _ => rfl) ?_
                  refine pw_ld E (pc' := 68) (st' := [pw_i w, pw_i k, .ref 149]) rfl (fun _ => rfl) ?_
                  refine pw_ast0 h26I E (c := 133) (pc' := 69) rfl rfl rfl (by decide) rfl (by decide) (by omega) (by omega) rfl (by omega) (by omega) (by omega) (by omega) rfl ?_
                  intro h27I h27E
                  generalize h27w : pw_w h26 133 (k.toNat) (pw_i w) = h27 at h27I h27E ⊢
                  have h27F := h26F.tr (h27E.wk (W' := [125, 131, 132, 133, 134, 135]) (by first | rfl | simp))
                  refine pw_ld E (pc' := 70) (st' := [.ref 141]) rfl (fun _ => rfl) ?_
                  refine pw_getR (b := 150) h27I E (c := 125) (k := 13) (pc' := 73) rfl rfl rfl rfl rfl rfl rfl ?_
                  refine pw_ld E (pc' := 74) (st' := [pw_i k, .ref 150]) rfl (fun _ => rfl) ?_
                  refine pw_ld E (pc' := 76) (st' := [pw_i mx, pw_i k, .ref 150]) rfl (fun _ => rfl) ?_
                  refine pw_ast0 h27I E (c := 134) (pc' := 77) rfl rfl rfl (by decide) rfl (by decide) (by omega) (by omega) rfl (by omega) (by omega) (by omega) (by omega) rfl ?_
                  intro h28I h28E
                  generalize h28w : pw_w h27 134 (k.toNat) (pw_i mx) = h28 at h28I h28E ⊢
                  have h28F := h27F.tr (h28E.wk (W' := [125, 131, 132, 133, 134, 135]) (by first | rfl | simp))
                  refine pw_ld E (pc' := 78) (st' := [.ref 141]) rfl (fun _ => rfl) ?_
                  refine pw_getR (b := 151) h28I E (c := 125) (k := 14) (pc' := 81) rfl rfl rfl rfl rfl rfl rfl ?_
                  refine pw_ld E (pc' := 82) (st' := [pw_i k, .ref 151]) rfl (fun _ => rfl) ?_
                  refine pw_ld E (pc' := 84) (st' := [pw_i z, pw_i k, .ref 151]) rfl (fun _ => rfl) ?_
                  refine pw_ast0 h28I E (c := 135) (pc' := 85) rfl rfl rfl (by decide) rfl (by decide) (by omega) (by omega) (pw_b1 (by omega) (by omega)) (by omega) (by omega) (by omega) (by omega) rfl ?_
                  intro h29I h29E
                  generalize h29w : pw_w h28 135 (k.toNat) (pw_i z) = h29 at h29I h29E ⊢
                  have h29F := h28F.tr (h29E.wk (W' := [125, 131, 132, 133, 134, 135]) (by first | rfl | simp))
                  refine pw_ld E (pc' := 86) (st' := [pw_i 1]) rfl (fun _ => rfl) ?_
                  refine pw_zret E rfl (by omega) ?_
                  have hl31 : ∀ j : Nat, pw_g h29 131 j = pw_g h25 131 j := fun j => ((((by rw [← h29w]; exact pw_g_ne (by omega) : pw_g h29 131 j = pw_g h28 131 j)).trans (by rw [← h28w]; exact pw_g_ne (by omega) : pw_g h28 131 j = pw_g h27 131 j)).trans (by rw [← h27w]; exact pw_g_ne (by omega) : pw_g h27 131 j = pw_g h26 131 j)).trans (by rw [← h26w]; exact pw_g_ne (by omega) : pw_g h26 131 j = pw_g h25 131 j)
                  have hl32 : ∀ j : Nat, pw_g h1 131 j = pw_g h 131 j := fun j => (by rw [← h1w]; exact pw_g_ne (by omega) : pw_g h1 131 j = pw_g h 131 j)
                  have hu30a : pw_g h25 131 (k.toNat) = 1 := by rw [← h25w]; exact pw_g_eqA h1I rfl (by omega) (by omega) (by omega)
                  have hu30b : ∀ j : Nat, j ≠ k.toNat → pw_g h25 131 j = pw_g h1 131 j := fun j hj => by rw [← h25w]; exact pw_g_ne (fun q => hj q.2.symm)
                  have hl34 : ∀ j : Nat, pw_g h29 135 j = pw_g h29 135 j := fun j => rfl
                  have hl35 : ∀ j : Nat, pw_g h28 135 j = pw_g h 135 j := fun j => (((((by rw [← h28w]; exact pw_g_ne (by omega) : pw_g h28 135 j = pw_g h27 135 j)).trans (by rw [← h27w]; exact pw_g_ne (by omega) : pw_g h27 135 j = pw_g h26 135 j)).trans (by rw [← h26w]; exact pw_g_ne (by omega) : pw_g h26 135 j = pw_g h25 135 j)).trans (by rw [← h25w]; exact pw_g_ne (by omega) : pw_g h25 135 j = pw_g h1 135 j)).trans (by rw [← h1w]; exact pw_g_ne (by omega) : pw_g h1 135 j = pw_g h 135 j)
                  have hu33a : pw_g h29 135 (k.toNat) = z := by rw [← h29w]; exact pw_g_eqA h28I rfl (by omega) (by omega) (by omega)
                  have hu33b : ∀ j : Nat, j ≠ k.toNat → pw_g h29 135 j = pw_g h28 135 j := fun j hj => by rw [← h29w]; exact pw_g_ne (fun q => hj q.2.symm)
                  have hl37 : ∀ j : Nat, pw_g h29 132 j = pw_g h26 132 j := fun j => (((by rw [← h29w]; exact pw_g_ne (by omega) : pw_g h29 132 j = pw_g h28 132 j)).trans (by rw [← h28w]; exact pw_g_ne (by omega) : pw_g h28 132 j = pw_g h27 132 j)).trans (by rw [← h27w]; exact pw_g_ne (by omega) : pw_g h27 132 j = pw_g h26 132 j)
                  have hl38 : ∀ j : Nat, pw_g h25 132 j = pw_g h 132 j := fun j => ((by rw [← h25w]; exact pw_g_ne (by omega) : pw_g h25 132 j = pw_g h1 132 j)).trans (by rw [← h1w]; exact pw_g_ne (by omega) : pw_g h1 132 j = pw_g h 132 j)
                  have hu36a : pw_g h26 132 (k.toNat) = b := by rw [← h26w]; exact pw_g_eqA h25I rfl (by omega) (by omega) (by omega)
                  have hu36b : ∀ j : Nat, j ≠ k.toNat → pw_g h26 132 j = pw_g h25 132 j := fun j hj => by rw [← h26w]; exact pw_g_ne (fun q => hj q.2.symm)
                  have hl40 : ∀ j : Nat, pw_g h29 133 j = pw_g h27 133 j := fun j => ((by rw [← h29w]; exact pw_g_ne (by omega) : pw_g h29 133 j = pw_g h28 133 j)).trans (by rw [← h28w]; exact pw_g_ne (by omega) : pw_g h28 133 j = pw_g h27 133 j)
                  have hl41 : ∀ j : Nat, pw_g h26 133 j = pw_g h 133 j := fun j => (((by rw [← h26w]; exact pw_g_ne (by omega) : pw_g h26 133 j = pw_g h25 133 j)).trans (by rw [← h25w]; exact pw_g_ne (by omega) : pw_g h25 133 j = pw_g h1 133 j)).trans (by rw [← h1w]; exact pw_g_ne (by omega) : pw_g h1 133 j = pw_g h 133 j)
                  have hu39a : pw_g h27 133 (k.toNat) = w := by rw [← h27w]; exact pw_g_eqA h26I rfl (by omega) (by omega) (by omega)
                  have hu39b : ∀ j : Nat, j ≠ k.toNat → pw_g h27 133 j = pw_g h26 133 j := fun j hj => by rw [← h27w]; exact pw_g_ne (fun q => hj q.2.symm)
                  have hl43 : ∀ j : Nat, pw_g h29 134 j = pw_g h28 134 j := fun j => (by rw [← h29w]; exact pw_g_ne (by omega) : pw_g h29 134 j = pw_g h28 134 j)
                  have hl44 : ∀ j : Nat, pw_g h27 134 j = pw_g h 134 j := fun j => ((((by rw [← h27w]; exact pw_g_ne (by omega) : pw_g h27 134 j = pw_g h26 134 j)).trans (by rw [← h26w]; exact pw_g_ne (by omega) : pw_g h26 134 j = pw_g h25 134 j)).trans (by rw [← h25w]; exact pw_g_ne (by omega) : pw_g h25 134 j = pw_g h1 134 j)).trans (by rw [← h1w]; exact pw_g_ne (by omega) : pw_g h1 134 j = pw_g h 134 j)
                  have hu42a : pw_g h28 134 (k.toNat) = mx := by rw [← h28w]; exact pw_g_eqA h27I rfl (by omega) (by omega) (by omega)
                  have hu42b : ∀ j : Nat, j ≠ k.toNat → pw_g h28 134 j = pw_g h27 134 j := fun j hj => by rw [← h28w]; exact pw_g_ne (fun q => hj q.2.symm)
                  exact ⟨h29I, h29F, ⟨_, rfl, by omega, by omega, ⟨by omega, fun _ => ⟨⟨(hl31 _).trans hu30a, fun j hj => (hl31 j).trans ((hu30b j hj).trans (hl32 j))⟩, ⟨(hl34 _).trans hu33a, fun j hj => (hl34 j).trans ((hu33b j hj).trans (hl35 j))⟩, ⟨(hl37 _).trans hu36a, fun j hj => (hl37 j).trans ((hu36b j hj).trans (hl38 j))⟩, ⟨(hl40 _).trans hu39a, fun j hj => (hl40 j).trans ((hu39b j hj).trans (hl41 j))⟩, ⟨(hl43 _).trans hu42a, fun j hj => (hl43 j).trans ((hu42b j hj).trans (hl44 j))⟩⟩, fun q => absurd q (by omega)⟩⟩⟩
                · intro hc45
                  change ¬ (x22 ≠ (0 : Int)) at hc45
                  exfalso; omega
              · skip
                refine pw_if E (pc' := 48) rfl (by decide) (by omega) (by omega) ?_ ?_
                · intro hc47
                  change x22 ≠ (0 : Int) at hc47
                  exfalso; omega
                · intro hc48
                  change ¬ (x22 ≠ (0 : Int)) at hc48
                  refine pw_ld E (pc' := 47) (st' := [pw_i 0]) rfl (fun _ => rfl) ?_
                  refine pw_zret E rfl (by omega) ?_
                  have hl49 : ∀ j : Nat, pw_g h1 131 j = pw_g h 131 j := fun j => (by rw [← h1w]; exact pw_g_ne (by omega) : pw_g h1 131 j = pw_g h 131 j)
                  have hl50 : ∀ j : Nat, pw_g h1 135 j = pw_g h 135 j := fun j => (by rw [← h1w]; exact pw_g_ne (by omega) : pw_g h1 135 j = pw_g h 135 j)
                  have hl51 : ∀ j : Nat, pw_g h1 132 j = pw_g h 132 j := fun j => (by rw [← h1w]; exact pw_g_ne (by omega) : pw_g h1 132 j = pw_g h 132 j)
                  have hl52 : ∀ j : Nat, pw_g h1 133 j = pw_g h 133 j := fun j => (by rw [← h1w]; exact pw_g_ne (by omega) : pw_g h1 133 j = pw_g h 133 j)
                  have hl53 : ∀ j : Nat, pw_g h1 134 j = pw_g h 134 j := fun j => (by rw [← h1w]; exact pw_g_ne (by omega) : pw_g h1 134 j = pw_g h 134 j)
                  exact ⟨h1I, h1F, ⟨_, rfl, by omega, by omega, ⟨by omega, fun q => absurd q (by omega), fun _ => ⟨hl49, hl50, hl51, hl52, hl53⟩⟩⟩⟩
          · skip
            refine pw_if E (pc' := 46) rfl (by decide) (by omega) (by omega) ?_ ?_
            · intro hc55
              change x16 = (0 : Int) at hc55
              refine pw_ld E (pc' := 47) (st' := [pw_i 0]) rfl (fun _ => rfl) ?_
              refine pw_zret E rfl (by omega) ?_
              have hl56 : ∀ j : Nat, pw_g h1 131 j = pw_g h 131 j := fun j => (by rw [← h1w]; exact pw_g_ne (by omega) : pw_g h1 131 j = pw_g h 131 j)
              have hl57 : ∀ j : Nat, pw_g h1 135 j = pw_g h 135 j := fun j => (by rw [← h1w]; exact pw_g_ne (by omega) : pw_g h1 135 j = pw_g h 135 j)
              have hl58 : ∀ j : Nat, pw_g h1 132 j = pw_g h 132 j := fun j => (by rw [← h1w]; exact pw_g_ne (by omega) : pw_g h1 132 j = pw_g h 132 j)
              have hl59 : ∀ j : Nat, pw_g h1 133 j = pw_g h 133 j := fun j => (by rw [← h1w]; exact pw_g_ne (by omega) : pw_g h1 133 j = pw_g h 133 j)
              have hl60 : ∀ j : Nat, pw_g h1 134 j = pw_g h 134 j := fun j => (by rw [← h1w]; exact pw_g_ne (by omega) : pw_g h1 134 j = pw_g h 134 j)
              exact ⟨h1I, h1F, ⟨_, rfl, by omega, by omega, ⟨by omega, fun q => absurd q (by omega), fun _ => ⟨hl56, hl57, hl58, hl59, hl60⟩⟩⟩⟩
            · intro hc61
              change ¬ (x16 = (0 : Int)) at hc61
              exfalso; omega
      · skip
        refine pw_if E (pc' := 46) rfl (by decide) (by omega) (by omega) ?_ ?_
        · intro hc63
          change x10 = (0 : Int) at hc63
          refine pw_ld E (pc' := 47) (st' := [pw_i 0]) rfl (fun _ => rfl) ?_
          refine pw_zret E rfl (by omega) ?_
          have hl64 : ∀ j : Nat, pw_g h1 131 j = pw_g h 131 j := fun j => (by rw [← h1w]; exact pw_g_ne (by omega) : pw_g h1 131 j = pw_g h 131 j)
          have hl65 : ∀ j : Nat, pw_g h1 135 j = pw_g h 135 j := fun j => (by rw [← h1w]; exact pw_g_ne (by omega) : pw_g h1 135 j = pw_g h 135 j)
          have hl66 : ∀ j : Nat, pw_g h1 132 j = pw_g h 132 j := fun j => (by rw [← h1w]; exact pw_g_ne (by omega) : pw_g h1 132 j = pw_g h 132 j)
          have hl67 : ∀ j : Nat, pw_g h1 133 j = pw_g h 133 j := fun j => (by rw [← h1w]; exact pw_g_ne (by omega) : pw_g h1 133 j = pw_g h 133 j)
          have hl68 : ∀ j : Nat, pw_g h1 134 j = pw_g h 134 j := fun j => (by rw [← h1w]; exact pw_g_ne (by omega) : pw_g h1 134 j = pw_g h 134 j)
          exact ⟨h1I, h1F, ⟨_, rfl, by omega, by omega, ⟨by omega, fun q => absurd q (by omega), fun _ => ⟨hl64, hl65, hl66, hl67, hl68⟩⟩⟩⟩
        · intro hc69
          change ¬ (x10 = (0 : Int)) at hc69
          exfalso; omega
  · skip
    refine pw_if E (pc' := 46) rfl (by decide) (by omega) (by omega) ?_ ?_
    · intro hc71
      change x4 = (0 : Int) at hc71
      refine pw_ld E (pc' := 47) (st' := [pw_i 0]) rfl (fun _ => rfl) ?_
      refine pw_zret E rfl (by omega) ?_
      have hl72 : ∀ j : Nat, pw_g h1 131 j = pw_g h 131 j := fun j => (by rw [← h1w]; exact pw_g_ne (by omega) : pw_g h1 131 j = pw_g h 131 j)
      have hl73 : ∀ j : Nat, pw_g h1 135 j = pw_g h 135 j := fun j => (by rw [← h1w]; exact pw_g_ne (by omega) : pw_g h1 135 j = pw_g h 135 j)
      have hl74 : ∀ j : Nat, pw_g h1 132 j = pw_g h 132 j := fun j => (by rw [← h1w]; exact pw_g_ne (by omega) : pw_g h1 132 j = pw_g h 132 j)
      have hl75 : ∀ j : Nat, pw_g h1 133 j = pw_g h 133 j := fun j => (by rw [← h1w]; exact pw_g_ne (by omega) : pw_g h1 133 j = pw_g h 133 j)
      have hl76 : ∀ j : Nat, pw_g h1 134 j = pw_g h 134 j := fun j => (by rw [← h1w]; exact pw_g_ne (by omega) : pw_g h1 134 j = pw_g h 134 j)
      exact ⟨h1I, h1F, ⟨_, rfl, by omega, by omega, ⟨by omega, fun q => absurd q (by omega), fun _ => ⟨hl72, hl73, hl74, hl75, hl76⟩⟩⟩⟩
    · intro hc77
      change ¬ (x4 = (0 : Int)) at hc77
      exfalso; omega
set_option maxHeartbeats 4000000 in
theorem cm_1_k {X : List (Nat × List Value)} {d : Nat} {h : pm_H} (hd : 1 ≤ d) (I : pw_I h) (b : Int) (hb1 : 0 ≤ b) (hb2 : b ≤ 1) (mo : Int) (hmo1 : 0 ≤ mo) (hmo2 : mo ≤ 11) (fl : Int) (hfl1 : 0 ≤ fl) (hfl2 : fl ≤ 999) (tr : Int) (htr1 : (-99) ≤ tr) (htr2 : tr ≤ 99) : pw X d h 1 0 [some (.ref 23), some (pw_i b), some (pw_i mo), some (pw_i fl), some (pw_i tr), none] [] (fun h' v => pw_I h' ∧ pw_E [8, 9] h h' ∧ (pw_FP h h' 8 (12 * b + mo) (12 * b + 12) fl ∧ pw_FP h h' 9 (12 * b + mo) (12 * b + 12) tr) ∧ (v = .inl none)) := by
  have E : pm_ent 1 = some (5, 6, 0, 4, pmc_1) := rfl
  have E0 : pw_E [8, 9] h h := pw_E.rf _ _
  refine pw_ld E (pc' := 1) (st' := [pw_i mo]) rfl (fun _ => rfl) ?_
  refine pw_ist E (pc' := 3) (ls' := [some (.ref 23), some (pw_i b), some (pw_i mo), some (pw_i fl), some (pw_i tr), some (pw_i mo)]) rfl rfl rfl rfl ?_
  have L3 : ∀ (n3 : Nat) (k3_5 : Int) (gh3 : pm_H), pw_I gh3 → pw_E [8, 9] h gh3 → 0 ≤ k3_5 → k3_5 ≤ 12 → pw_FP h gh3 8 (12 * b + mo) (12 * b + k3_5) fl → pw_FP h gh3 9 (12 * b + mo) (12 * b + k3_5) tr → mo ≤ k3_5 → (12 - k3_5).toNat = n3 → pw X d gh3 1 3 [some (.ref 23), some (pw_i b), some (pw_i mo), some (pw_i fl), some (pw_i tr), some (pw_i k3_5)] [] (fun h' v => pw_I h' ∧ pw_E [8, 9] h h' ∧ (pw_FP h h' 8 (12 * b + mo) (12 * b + 12) fl ∧ pw_FP h h' 9 (12 * b + mo) (12 * b + 12) tr) ∧ (v = .inl none)) := by
    intro n3
    induction n3 using Nat.strongRecOn with
    | ind n3 ih3 =>
      intro k3_5 gh3 I3 E3 k3_5a k3_5b hx3_0 hx3_1 hx3_2 hm3
      refine pw_ld E (pc' := 5) (st' := [pw_i k3_5]) rfl (fun _ => rfl) ?_
      refine pw_bip E (pc' := 7) rfl rfl (by decide) ?_
      refine pw_if2 E (pc' := 43) rfl (by decide) (by omega) (by omega) (by decide) (by decide) ?_ ?_
      · intro hc1
        change (12 : Int) ≤ k3_5 at hc1
        refine pw_vret E rfl ?_
        exact ⟨I3, E3, ⟨⟨(by rw [show 12 * b + 12 = 12 * b + k3_5 by omega]; exact hx3_0), (by rw [show 12 * b + 12 = 12 * b + k3_5 by omega]; exact hx3_1)⟩, rfl⟩⟩
      · intro hc2
        change ¬ ((12 : Int) ≤ k3_5) at hc2
        refine pw_ld E (pc' := 11) (st' := [.ref 23]) rfl (fun _ => rfl) ?_
        refine pw_getR (b := 24) I3 E (c := 7) (k := 0) (pc' := 14) rfl rfl rfl rfl rfl rfl rfl ?_
        refine pw_ld E (pc' := 15) (st' := [pw_i b, .ref 24]) rfl (fun _ => rfl) ?_
        refine pw_bip E (pc' := 17) rfl rfl (by decide) ?_
        refine pw_mul E (pc' := 18) rfl rfl ?_
        refine pw_ld E (pc' := 20) (st' := [pw_i k3_5, pw_i (b * 12), .ref 24]) rfl (fun _ => rfl) ?_
        refine pw_add E (pc' := 21) rfl rfl ?_
        refine pw_ld E (pc' := 22) (st' := [pw_i fl, pw_i ((b * 12) + k3_5), .ref 24]) rfl (fun _ => rfl) ?_
        refine pw_ast0 I3 E (c := 8) (pc' := 23) rfl rfl rfl (by decide) rfl (by decide) (by omega) (by omega) rfl (by omega) (by omega) (by omega) (by omega) rfl ?_
        intro h3I h3E
        generalize h3w : pw_w gh3 8 (((b * 12) + k3_5).toNat) (pw_i fl) = h3 at h3I h3E ⊢
        have h3F := E3.tr (h3E.wk (W' := [8, 9]) (by first | rfl | simp))
        refine pw_ld E (pc' := 24) (st' := [.ref 23]) rfl (fun _ => rfl) ?_
        refine pw_getR (b := 25) h3I E (c := 7) (k := 1) (pc' := 27) rfl rfl rfl rfl rfl rfl rfl ?_
        refine pw_ld E (pc' := 28) (st' := [pw_i b, .ref 25]) rfl (fun _ => rfl) ?_
        refine pw_bip E (pc' := 30) rfl rfl (by decide) ?_
        refine pw_mul E (pc' := 31) rfl rfl ?_
        refine pw_ld E (pc' := 33) (st' := [pw_i k3_5, pw_i (b * 12), .ref 25]) rfl (fun _ => rfl) ?_
        refine pw_add E (pc' := 34) rfl rfl ?_
        refine pw_ld E (pc' := 36) (st' := [pw_i tr, pw_i ((b * 12) + k3_5), .ref 25]) rfl (fun _ => rfl) ?_
        refine pw_ast0 h3I E (c := 9) (pc' := 37) rfl rfl rfl (by decide) rfl (by decide) (by omega) (by omega) rfl (by omega) (by omega) (by omega) (by omega) rfl ?_
        intro h4I h4E
        generalize h4w : pw_w h3 9 (((b * 12) + k3_5).toNat) (pw_i tr) = h4 at h4I h4E ⊢
        have h4F := h3F.tr (h4E.wk (W' := [8, 9]) (by first | rfl | simp))
        refine pw_inc E (pc' := 40) (ls' := [some (.ref 23), some (pw_i b), some (pw_i mo), some (pw_i fl), some (pw_i tr), some (pw_i (k3_5 + 1))]) rfl rfl rfl rfl ?_
        refine pw_goto E (pc' := 3) rfl (by decide) ?_
        exact ih3 _ (by omega) (k3_5 + 1) h4 h4I h4F (by omega) (by omega) (by have e : (b * 12 + k3_5).toNat = (12 * b + k3_5).toNat := (by omega); have w1 := ‹pw_w _ 8 _ _ = _›; have w2 := ‹pw_w _ 9 _ _ = _›; rw [e] at w1 w2; rw [show 12 * b + (k3_5 + 1) = 12 * b + k3_5 + 1 by omega]; exact pw_FP.ne (pw_FP.st hx3_0 I3 rfl (by omega) (by omega) (by omega) (by omega) (by omega) w1) (by decide) w2) (by have e : (b * 12 + k3_5).toNat = (12 * b + k3_5).toNat := (by omega); have w1 := ‹pw_w _ 8 _ _ = _›; have w2 := ‹pw_w _ 9 _ _ = _›; rw [e] at w1 w2; rw [show 12 * b + (k3_5 + 1) = 12 * b + k3_5 + 1 by omega]; exact pw_FP.st (pw_FP.ne hx3_1 (by decide) w1) (by assumption) rfl (by omega) (by omega) (by omega) (by omega) (by omega) w2) (by omega) rfl
  exact L3 _ (mo) h I E0 (by omega) (by omega) pw_FP.rf pw_FP.rf (by omega) rfl
set_option maxHeartbeats 4000000 in
theorem cm_128_k {X : List (Nat × List Value)} {d : Nat} {h : pm_H} (hd : 3 ≤ d) (I : pw_I h) (b : Int) (hb1 : (-2147483648) ≤ b) (hb2 : b ≤ 2147483647) (mo : Int) (hmo1 : (-2147483648) ≤ mo) (hmo2 : mo ≤ 2147483647) (fl : Int) (hfl1 : (-2147483648) ≤ fl) (hfl2 : fl ≤ 2147483647) (tr : Int) (htr1 : (-2147483648) ≤ tr) (htr2 : tr ≤ 2147483647) : pw X d h 128 0 [some (.ref 16), some (pw_i b), some (pw_i mo), some (pw_i fl), some (pw_i tr)] [] (fun h' v => pw_I h' ∧ pw_E [8, 9] h h' ∧ ∃ a : Int, v = .inl (some (pw_i a)) ∧ 0 ≤ a ∧ a ≤ 1 ∧ (((a = 1 ∧ 0 ≤ b ∧ b ≤ 1 ∧ 0 ≤ mo ∧ mo ≤ 11 ∧ 0 ≤ fl ∧ fl ≤ 999 ∧ (-99) ≤ tr ∧ tr ≤ 99) ∨ (a = 0 ∧ ¬ (0 ≤ b ∧ b ≤ 1 ∧ 0 ≤ mo ∧ mo ≤ 11 ∧ 0 ≤ fl ∧ fl ≤ 999 ∧ (-99) ≤ tr ∧ tr ≤ 99))) ∧ (a = 1 → pw_FP h h' 8 (12 * b + mo) (12 * b + 12) fl ∧ pw_FP h h' 9 (12 * b + mo) (12 * b + 12) tr) ∧ (a = 0 → pw_sm h h' 8 ∧ pw_sm h h' 9))) := by
  have E : pm_ent 128 = some (5, 5, 11, 1, pmc_128) := rfl
  have E0 : pw_E [8, 9] h h := pw_E.rf _ _
  refine pw_ld E (pc' := 1) (st' := [pw_i b]) rfl (fun _ => rfl) ?_
  refine pw_call (m' := 122) (As := [pw_i b]) (rest := []) (ls'' := [some (pw_i b)]) (Nat.le_trans (by decide) hd) E rfl (fun _ => pw_iS rfl rfl rfl) (rfl : pm_ent 122 = some (1, 1, 11, 1, pmc_122)) rfl rfl (cm_122 (pw_dp hd (by decide)) I (b) (by omega) (by omega)) ?_
  rintro u2 v1 ⟨rfl, x3, rfl, hx3a, hx3b, hx3r⟩
  refine ⟨_, rfl, ?_⟩
  show pw X d h 128 4 [some (.ref 16), some (pw_i b), some (pw_i mo), some (pw_i fl), some (pw_i tr)] [pw_i x3] _
  change (x3 = 1 ∧ 0 ≤ b ∧ b ≤ 1) ∨ (x3 = 0 ∧ ¬ (0 ≤ b ∧ b ≤ 1)) at hx3r
  rcases (by omega : x3 = 1 ∨ x3 = 0) with hb4 | hb4
  · skip
    refine pw_if E (pc' := 37) rfl (by decide) (by omega) (by omega) ?_ ?_
    · intro hc5
      change x3 = (0 : Int) at hc5
      exfalso; omega
    · intro hc6
      change ¬ (x3 = (0 : Int)) at hc6
      refine pw_ld E (pc' := 8) (st' := [pw_i mo]) rfl (fun _ => rfl) ?_
      refine pw_call (m' := 125) (As := [pw_i mo]) (rest := []) (ls'' := [some (pw_i mo)]) (Nat.le_trans (by decide) hd) E rfl (fun _ => pw_iS rfl rfl rfl) (rfl : pm_ent 125 = some (1, 1, 11, 1, pmc_125)) rfl rfl (cm_125 (pw_dp hd (by decide)) I (mo) (by omega) (by omega)) ?_
      rintro u8 v7 ⟨rfl, x9, rfl, hx9a, hx9b, hx9r⟩
      refine ⟨_, rfl, ?_⟩
      show pw X d h 128 11 [some (.ref 16), some (pw_i b), some (pw_i mo), some (pw_i fl), some (pw_i tr)] [pw_i x9] _
      change (x9 = 1 ∧ 0 ≤ mo ∧ mo ≤ 11) ∨ (x9 = 0 ∧ ¬ (0 ≤ mo ∧ mo ≤ 11)) at hx9r
      rcases (by omega : x9 = 1 ∨ x9 = 0) with hb10 | hb10
      · skip
        refine pw_if E (pc' := 37) rfl (by decide) (by omega) (by omega) ?_ ?_
        · intro hc11
          change x9 = (0 : Int) at hc11
          exfalso; omega
        · intro hc12
          change ¬ (x9 = (0 : Int)) at hc12
          refine pw_ld E (pc' := 15) (st' := [pw_i fl]) rfl (fun _ => rfl) ?_
          refine pw_ld E (pc' := 16) (st' := [pw_i 0, pw_i fl]) rfl (fun _ => rfl) ?_
          refine pw_sip E (pc' := 19) rfl rfl (by decide) ?_
          refine pw_call (m' := 121) (As := [pw_i fl, pw_i 0, pw_i 999]) (rest := []) (ls'' := [some (pw_i fl), some (pw_i 0), some (pw_i 999)]) (Nat.le_trans (by decide) hd) E rfl (fun _ => pw_iS rfl rfl rfl) (rfl : pm_ent 121 = some (3, 3, 11, 1, pmc_121)) rfl rfl (cm_121 (pw_dp hd (by decide)) I (fl) (by omega) (by omega) (0) (by omega) (by omega) (999) (by omega) (by omega)) ?_
          rintro u14 v13 ⟨rfl, x15, rfl, hx15a, hx15b, hx15r⟩
          refine ⟨_, rfl, ?_⟩
          show pw X d h 128 22 [some (.ref 16), some (pw_i b), some (pw_i mo), some (pw_i fl), some (pw_i tr)] [pw_i x15] _
          change (x15 = 1 ∧ 0 ≤ fl ∧ fl ≤ 999) ∨ (x15 = 0 ∧ ¬ (0 ≤ fl ∧ fl ≤ 999)) at hx15r
          rcases (by omega : x15 = 1 ∨ x15 = 0) with hb16 | hb16
          · skip
            refine pw_if E (pc' := 37) rfl (by decide) (by omega) (by omega) ?_ ?_
            · intro hc17
              change x15 = (0 : Int) at hc17
              exfalso; omega
            · intro hc18
              change ¬ (x15 = (0 : Int)) at hc18
              refine pw_ld E (pc' := 27) (st' := [pw_i tr]) rfl (fun _ => rfl) ?_
              refine pw_bip E (pc' := 29) rfl rfl (by decide) ?_
              refine pw_bip E (pc' := 31) rfl rfl (by decide) ?_
              refine pw_call (m' := 121) (As := [pw_i tr, pw_i ((-99)), pw_i 99]) (rest := []) (ls'' := [some (pw_i tr), some (pw_i ((-99))), some (pw_i 99)]) (Nat.le_trans (by decide) hd) E rfl (fun _ => pw_iS rfl rfl rfl) (rfl : pm_ent 121 = some (3, 3, 11, 1, pmc_121)) rfl rfl (cm_121 (pw_dp hd (by decide)) I (tr) (by omega) (by omega) ((-99)) (by omega) (by omega) (99) (by omega) (by omega)) ?_
              rintro u20 v19 ⟨rfl, x21, rfl, hx21a, hx21b, hx21r⟩
              refine ⟨_, rfl, ?_⟩
              show pw X d h 128 34 [some (.ref 16), some (pw_i b), some (pw_i mo), some (pw_i fl), some (pw_i tr)] [pw_i x21] _
              change (x21 = 1 ∧ (-99) ≤ tr ∧ tr ≤ 99) ∨ (x21 = 0 ∧ ¬ ((-99) ≤ tr ∧ tr ≤ 99)) at hx21r
              rcases (by omega : x21 = 1 ∨ x21 = 0) with hb22 | hb22
              · skip
                refine pw_if E (pc' := 39) rfl (by decide) (by omega) (by omega) ?_ ?_
                · intro hc23
                  change x21 ≠ (0 : Int) at hc23
                  refine pw_ld E (pc' := 40) (st' := [.ref 16]) rfl (fun _ => rfl) ?_
                  refine pw_getR (b := 23) I E (c := 0) (k := 1) (pc' := 43) rfl rfl rfl rfl rfl rfl rfl ?_
                  refine pw_ld E (pc' := 44) (st' := [pw_i b, .ref 23]) rfl (fun _ => rfl) ?_
                  refine pw_ld E (pc' := 45) (st' := [pw_i mo, pw_i b, .ref 23]) rfl (fun _ => rfl) ?_
                  refine pw_ld E (pc' := 46) (st' := [pw_i fl, pw_i mo, pw_i b, .ref 23]) rfl (fun _ => rfl) ?_
                  refine pw_ld E (pc' := 48) (st' := [pw_i tr, pw_i fl, pw_i mo, pw_i b, .ref 23]) rfl (fun _ => rfl) ?_
                  obtain ⟨f24l, f24h, -⟩ := pw_obj (c := 7) I rfl
                  refine pw_call (m' := 1) (As := [.ref 23, pw_i b, pw_i mo, pw_i fl, pw_i tr]) (rest := []) (ls'' := [some (.ref 23), some (pw_i b), some (pw_i mo), some (pw_i fl), some (pw_i tr), none]) (Nat.le_trans (by decide) hd) E rfl (fun _ => pw_iV rfl rfl rfl rfl (pw_cellI f24h rfl)) (rfl : pm_ent 1 = some (5, 6, 0, 4, pmc_1)) rfl rfl (cm_1_k (pw_dp hd (by decide)) I (b) (by omega) (by omega) (mo) (by omega) (by omega) (fl) (by omega) (by omega) (tr) (by omega) (by omega)) ?_
                  rintro h25 v26 ⟨h25I, h25E, hqput, rfl⟩
                  refine ⟨_, rfl, ?_⟩
                  have h25F := E0.tr (h25E.wk (W' := [8, 9]) (by first | rfl | simp))
                  show pw X d h25 128 51 [some (.ref 16), some (pw_i b), some (pw_i mo), some (pw_i fl), some (pw_i tr)] [] _
                  refine pw_ld E (pc' := 52) (st' := [pw_i 1]) rfl (fun _ => rfl) ?_
                  refine pw_zret E rfl (by omega) ?_
                  exact ⟨h25I, h25F, ⟨_, rfl, by omega, by omega, ⟨by omega, fun _ => hqput, fun q => absurd q (by omega)⟩⟩⟩
                · intro hc27
                  change ¬ (x21 ≠ (0 : Int)) at hc27
                  exfalso; omega
              · skip
                refine pw_if E (pc' := 39) rfl (by decide) (by omega) (by omega) ?_ ?_
                · intro hc29
                  change x21 ≠ (0 : Int) at hc29
                  exfalso; omega
                · intro hc30
                  change ¬ (x21 ≠ (0 : Int)) at hc30
                  refine pw_ld E (pc' := 38) (st' := [pw_i 0]) rfl (fun _ => rfl) ?_
                  refine pw_zret E rfl (by omega) ?_
                  have hl31 : ∀ j : Nat, pw_g h 8 j = pw_g h 8 j := fun j => rfl
                  have hl32 : ∀ j : Nat, pw_g h 9 j = pw_g h 9 j := fun j => rfl
                  exact ⟨I, E0, ⟨_, rfl, by omega, by omega, ⟨by omega, fun q => absurd q (by omega), fun _ => ⟨hl31, hl32⟩⟩⟩⟩
          · skip
            refine pw_if E (pc' := 37) rfl (by decide) (by omega) (by omega) ?_ ?_
            · intro hc34
              change x15 = (0 : Int) at hc34
              refine pw_ld E (pc' := 38) (st' := [pw_i 0]) rfl (fun _ => rfl) ?_
              refine pw_zret E rfl (by omega) ?_
              have hl35 : ∀ j : Nat, pw_g h 8 j = pw_g h 8 j := fun j => rfl
              have hl36 : ∀ j : Nat, pw_g h 9 j = pw_g h 9 j := fun j => rfl
              exact ⟨I, E0, ⟨_, rfl, by omega, by omega, ⟨by omega, fun q => absurd q (by omega), fun _ => ⟨hl35, hl36⟩⟩⟩⟩
            · intro hc37
              change ¬ (x15 = (0 : Int)) at hc37
              exfalso; omega
      · skip
        refine pw_if E (pc' := 37) rfl (by decide) (by omega) (by omega) ?_ ?_
        · intro hc39
          change x9 = (0 : Int) at hc39
          refine pw_ld E (pc' := 38) (st' := [pw_i 0]) rfl (fun _ => rfl) ?_
          refine pw_zret E rfl (by omega) ?_
          have hl40 : ∀ j : Nat, pw_g h 8 j = pw_g h 8 j := fun j => rfl
          have hl41 : ∀ j : Nat, pw_g h 9 j = pw_g h 9 j := fun j => rfl
          exact ⟨I, E0, ⟨_, rfl, by omega, by omega, ⟨by omega, fun q => absurd q (by omega), fun _ => ⟨hl40, hl41⟩⟩⟩⟩
        · intro hc42
          change ¬ (x9 = (0 : Int)) at hc42
          exfalso; omega
  · skip
    refine pw_if E (pc' := 37) rfl (by decide) (by omega) (by omega) ?_ ?_
    · intro hc44
      change x3 = (0 : Int) at hc44
      refine pw_ld E (pc' := 38) (st' := [pw_i 0]) rfl (fun _ => rfl) ?_
      refine pw_zret E rfl (by omega) ?_
      have hl45 : ∀ j : Nat, pw_g h 8 j = pw_g h 8 j := fun j => rfl
      have hl46 : ∀ j : Nat, pw_g h 9 j = pw_g h 9 j := fun j => rfl
      exact ⟨I, E0, ⟨_, rfl, by omega, by omega, ⟨by omega, fun q => absurd q (by omega), fun _ => ⟨hl45, hl46⟩⟩⟩⟩
    · intro hc47
      change ¬ (x3 = (0 : Int)) at hc47
      exfalso; omega
set_option maxHeartbeats 4000000 in
theorem cm_208_k {X : List (Nat × List Value)} {d : Nat} {h : pm_H} (hd : 3 ≤ d) (I : pw_I h) (b : Int) (hb1 : (-2147483648) ≤ b) (hb2 : b ≤ 2147483647) (mo : Int) (hmo1 : (-2147483648) ≤ mo) (hmo2 : mo ≤ 2147483647) (fl : Int) (hfl1 : (-2147483648) ≤ fl) (hfl2 : fl ≤ 2147483647) (tr : Int) (htr1 : (-2147483648) ≤ tr) (htr2 : tr ≤ 2147483647) : pw X d h 208 0 [some (.ref 141), some (pw_i b), some (pw_i mo), some (pw_i fl), some (pw_i tr), none] [] (fun h' v => pw_I h' ∧ pw_E [125, 136, 137] h h' ∧ ∃ a : Int, v = .inl (some (pw_i a)) ∧ 0 ≤ a ∧ a ≤ 1 ∧ (((a = 1 ∧ 0 ≤ b ∧ b ≤ 1 ∧ 0 ≤ mo ∧ mo ≤ 11 ∧ 0 ≤ fl ∧ fl ≤ 999 ∧ (-99) ≤ tr ∧ tr ≤ 99) ∨ (a = 0 ∧ ¬ (0 ≤ b ∧ b ≤ 1 ∧ 0 ≤ mo ∧ mo ≤ 11 ∧ 0 ≤ fl ∧ fl ≤ 999 ∧ (-99) ≤ tr ∧ tr ≤ 99))) ∧ (a = 1 → pw_FP h h' 136 (12 * b + mo) (12 * b + 12) fl ∧ pw_FP h h' 137 (12 * b + mo) (12 * b + 12) tr) ∧ (a = 0 → pw_sm h h' 136 ∧ pw_sm h h' 137))) := by
  have E : pm_ent 208 = some (5, 6, 12, 1, pmc_208) := rfl
  have E0 : pw_E [125, 136, 137] h h := pw_E.rf _ _
  refine pw_ld E (pc' := 1) (st' := [.ref 141]) rfl (fun _ => rfl) ?_
  refine pw_ld E (pc' := 2) (st' := [pw_i 0, .ref 141]) rfl (fun _ => rfl) ?_
  refine pw_putI I E (c := 125) (k := 0) (pc' := 5) rfl rfl rfl rfl (by omega) (by omega) (by omega) (by omega) rfl rfl ?_
  intro h1I h1E
  generalize h1w : pw_w h 125 0 (pw_i 0) = h1 at h1I h1E ⊢
  have h1F := E0.tr (h1E.wk (W' := [125, 136, 137]) (by first | rfl | simp))
  refine pw_ld E (pc' := 6) (st' := [pw_i b]) rfl (fun _ => rfl) ?_
  refine pw_ld E (pc' := 7) (st' := [pw_i 0, pw_i b]) rfl (fun _ => rfl) ?_
  refine pw_ld E (pc' := 8) (st' := [pw_i 1, pw_i 0, pw_i b]) rfl (fun _ => rfl) ?_
  refine pw_call (m' := 202) (As := [pw_i b, pw_i 0, pw_i 1]) (rest := []) (ls'' := [some (pw_i b), some (pw_i 0), some (pw_i 1)]) (Nat.le_trans (by decide) hd) E rfl (fun _ => pw_iS rfl rfl rfl) (rfl : pm_ent 202 = some (3, 3, 12, 1, pmc_202)) rfl rfl (cm_202 (pw_dp hd (by decide)) h1I (b) (by omega) (by omega) (0) (by omega) (by omega) (1) (by omega) (by omega)) ?_
  rintro u3 v2 ⟨rfl, x4, rfl, hx4a, hx4b, hx4r⟩
  refine ⟨_, rfl, ?_⟩
  show pw X d h1 208 11 [some (.ref 141), some (pw_i b), some (pw_i mo), some (pw_i fl), some (pw_i tr), none] [pw_i x4] _
  change (x4 = 1 ∧ 0 ≤ b ∧ b ≤ 1) ∨ (x4 = 0 ∧ ¬ (0 ≤ b ∧ b ≤ 1)) at hx4r
  rcases (by omega : x4 = 1 ∨ x4 = 0) with hb5 | hb5
  · skip
    refine pw_if E (pc' := 44) rfl (by decide) (by omega) (by omega) ?_ ?_
    · intro hc6
      change x4 = (0 : Int) at hc6
      exfalso; omega
    · intro hc7
      change ¬ (x4 = (0 : Int)) at hc7
      refine pw_ld E (pc' := 15) (st' := [pw_i mo]) rfl (fun _ => rfl) ?_
      refine pw_call (m' := 205) (As := [pw_i mo]) (rest := []) (ls'' := [some (pw_i mo)]) (Nat.le_trans (by decide) hd) E rfl (fun _ => pw_iS rfl rfl rfl) (rfl : pm_ent 205 = some (1, 1, 12, 1, pmc_205)) rfl rfl (cm_205 (pw_dp hd (by decide)) h1I (mo) (by omega) (by omega)) ?_
      rintro u9 v8 ⟨rfl, x10, rfl, hx10a, hx10b, hx10r⟩
      refine ⟨_, rfl, ?_⟩
      show pw X d h1 208 18 [some (.ref 141), some (pw_i b), some (pw_i mo), some (pw_i fl), some (pw_i tr), none] [pw_i x10] _
      change (x10 = 1 ∧ 0 ≤ mo ∧ mo ≤ 11) ∨ (x10 = 0 ∧ ¬ (0 ≤ mo ∧ mo ≤ 11)) at hx10r
      rcases (by omega : x10 = 1 ∨ x10 = 0) with hb11 | hb11
      · skip
        refine pw_if E (pc' := 44) rfl (by decide) (by omega) (by omega) ?_ ?_
        · intro hc12
          change x10 = (0 : Int) at hc12
          exfalso; omega
        · intro hc13
          change ¬ (x10 = (0 : Int)) at hc13
          refine pw_ld E (pc' := 22) (st' := [pw_i fl]) rfl (fun _ => rfl) ?_
          refine pw_ld E (pc' := 23) (st' := [pw_i 0, pw_i fl]) rfl (fun _ => rfl) ?_
          refine pw_sip E (pc' := 26) rfl rfl (by decide) ?_
          refine pw_call (m' := 202) (As := [pw_i fl, pw_i 0, pw_i 999]) (rest := []) (ls'' := [some (pw_i fl), some (pw_i 0), some (pw_i 999)]) (Nat.le_trans (by decide) hd) E rfl (fun _ => pw_iS rfl rfl rfl) (rfl : pm_ent 202 = some (3, 3, 12, 1, pmc_202)) rfl rfl (cm_202 (pw_dp hd (by decide)) h1I (fl) (by omega) (by omega) (0) (by omega) (by omega) (999) (by omega) (by omega)) ?_
          rintro u15 v14 ⟨rfl, x16, rfl, hx16a, hx16b, hx16r⟩
          refine ⟨_, rfl, ?_⟩
          show pw X d h1 208 29 [some (.ref 141), some (pw_i b), some (pw_i mo), some (pw_i fl), some (pw_i tr), none] [pw_i x16] _
          change (x16 = 1 ∧ 0 ≤ fl ∧ fl ≤ 999) ∨ (x16 = 0 ∧ ¬ (0 ≤ fl ∧ fl ≤ 999)) at hx16r
          rcases (by omega : x16 = 1 ∨ x16 = 0) with hb17 | hb17
          · skip
            refine pw_if E (pc' := 44) rfl (by decide) (by omega) (by omega) ?_ ?_
            · intro hc18
              change x16 = (0 : Int) at hc18
              exfalso; omega
            · intro hc19
              change ¬ (x16 = (0 : Int)) at hc19
              refine pw_ld E (pc' := 34) (st' := [pw_i tr]) rfl (fun _ => rfl) ?_
              refine pw_bip E (pc' := 36) rfl rfl (by decide) ?_
              refine pw_bip E (pc' := 38) rfl rfl (by decide) ?_
              refine pw_call (m' := 202) (As := [pw_i tr, pw_i ((-99)), pw_i 99]) (rest := []) (ls'' := [some (pw_i tr), some (pw_i ((-99))), some (pw_i 99)]) (Nat.le_trans (by decide) hd) E rfl (fun _ => pw_iS rfl rfl rfl) (rfl : pm_ent 202 = some (3, 3, 12, 1, pmc_202)) rfl rfl (cm_202 (pw_dp hd (by decide)) h1I (tr) (by omega) (by omega) ((-99)) (by omega) (by omega) (99) (by omega) (by omega)) ?_
              rintro u21 v20 ⟨rfl, x22, rfl, hx22a, hx22b, hx22r⟩
              refine ⟨_, rfl, ?_⟩
              show pw X d h1 208 41 [some (.ref 141), some (pw_i b), some (pw_i mo), some (pw_i fl), some (pw_i tr), none] [pw_i x22] _
              change (x22 = 1 ∧ (-99) ≤ tr ∧ tr ≤ 99) ∨ (x22 = 0 ∧ ¬ ((-99) ≤ tr ∧ tr ≤ 99)) at hx22r
              rcases (by omega : x22 = 1 ∨ x22 = 0) with hb23 | hb23
              · skip
                refine pw_if E (pc' := 46) rfl (by decide) (by omega) (by omega) ?_ ?_
                · intro hc24
                  change x22 ≠ (0 : Int) at hc24
                  have hfp1 : pw_FP h h1 136 (12 * b + mo) (12 * b + mo) fl := pw_FP.rf.eq (fun j => by rw [← h1w]; exact pw_g_ne (by omega))
                  have hfp2 : pw_FP h h1 137 (12 * b + mo) (12 * b + mo) tr := pw_FP.rf.eq (fun j => by rw [← h1w]; exact pw_g_ne (by omega))
                  refine pw_ld E (pc' := 47) (st' := [pw_i mo]) rfl (fun _ => rfl) ?_
                  refine pw_ist E (pc' := 49) (ls' := [some (.ref 141), some (pw_i b), some (pw_i mo), some (pw_i fl), some (pw_i tr), some (pw_i mo)]) rfl rfl rfl rfl ?_
                  have L49 : ∀ (n49 : Nat) (k49_5 : Int) (gh49 : pm_H), pw_I gh49 → pw_E [125, 136, 137] h gh49 → 0 ≤ k49_5 → k49_5 ≤ 12 → pw_FP h gh49 136 (12 * b + mo) (12 * b + k49_5) fl → pw_FP h gh49 137 (12 * b + mo) (12 * b + k49_5) tr → mo ≤ k49_5 → (12 - k49_5).toNat = n49 → pw X d gh49 208 49 [some (.ref 141), some (pw_i b), some (pw_i mo), some (pw_i fl), some (pw_i tr), some (pw_i k49_5)] [] (fun h' v => pw_I h' ∧ pw_E [125, 136, 137] h h' ∧ ∃ a : Int, v = .inl (some (pw_i a)) ∧ 0 ≤ a ∧ a ≤ 1 ∧ (((a = 1 ∧ 0 ≤ b ∧ b ≤ 1 ∧ 0 ≤ mo ∧ mo ≤ 11 ∧ 0 ≤ fl ∧ fl ≤ 999 ∧ (-99) ≤ tr ∧ tr ≤ 99) ∨ (a = 0 ∧ ¬ (0 ≤ b ∧ b ≤ 1 ∧ 0 ≤ mo ∧ mo ≤ 11 ∧ 0 ≤ fl ∧ fl ≤ 999 ∧ (-99) ≤ tr ∧ tr ≤ 99))) ∧ (a = 1 → pw_FP h h' 136 (12 * b + mo) (12 * b + 12) fl ∧ pw_FP h h' 137 (12 * b + mo) (12 * b + 12) tr) ∧ (a = 0 → pw_sm h h' 136 ∧ pw_sm h h' 137))) := by
                    intro n49
                    induction n49 using Nat.strongRecOn with
                    | ind n49 ih49 =>
                      intro k49_5 gh49 I49 E49 k49_5a k49_5b hx49_0 hx49_1 hx49_2 hm49
                      refine pw_ld E (pc' := 51) (st' := [pw_i k49_5]) rfl (fun _ => rfl) ?_
                      refine pw_bip E (pc' := 53) rfl rfl (by decide) ?_
                      refine pw_if2 E (pc' := 89) rfl (by decide) (by omega) (by omega) (by decide) (by decide) ?_ ?_
                      · intro hc25
                        change (12 : Int) ≤ k49_5 at hc25
                        refine pw_ld E (pc' := 90) (st' := [pw_i 1]) rfl (fun _ => rfl) ?_
                        refine pw_zret E rfl (by omega) ?_
                        exact ⟨I49, E49, ⟨_, rfl, by omega, by omega, ⟨by omega, fun _ => ⟨(by rw [show 12 * b + 12 = 12 * b + k49_5 by omega]; exact hx49_0), (by rw [show 12 * b + 12 = 12 * b + k49_5 by omega]; exact hx49_1)⟩, fun q => absurd q (by omega)⟩⟩⟩
                      · intro hc26
                        change ¬ ((12 : Int) ≤ k49_5) at hc26
                        refine pw_ld E (pc' := 57) (st' := [.ref 141]) rfl (fun _ => rfl) ?_
                        refine pw_getR (b := 152) I49 E (c := 125) (k := 16) (pc' := 60) rfl rfl rfl rfl rfl rfl rfl ?_
                        refine pw_bip E (pc' := 62) rfl rfl (by decide) ?_
                        refine pw_ld E (pc' := 63) (st' := [pw_i b, pw_i 12, .ref 152]) rfl (fun _ => rfl) ?_
                        refine pw_mul E (pc' := 64) rfl rfl ?_
                        refine pw_ld E (pc' := 66) (st' := [pw_i k49_5, pw_i (12 * b), .ref 152]) rfl (fun _ => rfl) ?_
                        refine pw_add E (pc' := 67) rfl rfl ?_
                        refine pw_ld E (pc' := 68) (st' := [pw_i fl, pw_i ((12 * b) + k49_5), .ref 152]) rfl (fun _ => rfl) ?_
                        refine pw_ast0 I49 E (c := 136) (pc' := 69) rfl rfl rfl (by decide) rfl (by decide) (by omega) (by omega) rfl (by omega) (by omega) (by omega) (by omega) rfl ?_
                        intro h27I h27E
                        generalize h27w : pw_w gh49 136 (((12 * b) + k49_5).toNat) (pw_i fl) = h27 at h27I h27E ⊢
                        have h27F := E49.tr (h27E.wk (W' := [125, 136, 137]) (by first | rfl | simp))
                        refine pw_ld E (pc' := 70) (st' := [.ref 141]) rfl (fun _ => rfl) ?_
                        refine pw_getR (b := 153) h27I E (c := 125) (k := 17) (pc' := 73) rfl rfl rfl rfl rfl rfl rfl ?_
                        refine pw_bip E (pc' := 75) rfl rfl (by decide) ?_
                        refine pw_ld E (pc' := 76) (st' := [pw_i b, pw_i 12, .ref 153]) rfl (fun _ => rfl) ?_
                        refine pw_mul E (pc' := 77) rfl rfl ?_
                        refine pw_ld E (pc' := 79) (st' := [pw_i k49_5, pw_i (12 * b), .ref 153]) rfl (fun _ => rfl) ?_
                        refine pw_add E (pc' := 80) rfl rfl ?_
                        refine pw_ld E (pc' := 82) (st' := [pw_i tr, pw_i ((12 * b) + k49_5), .ref 153]) rfl (fun _ => rfl) ?_
                        refine pw_ast0 h27I E (c := 137) (pc' := 83) rfl rfl rfl (by decide) rfl (by decide) (by omega) (by omega) rfl (by omega) (by omega) (by omega) (by omega) rfl ?_
                        intro h28I h28E
                        generalize h28w : pw_w h27 137 (((12 * b) + k49_5).toNat) (pw_i tr) = h28 at h28I h28E ⊢
                        have h28F := h27F.tr (h28E.wk (W' := [125, 136, 137]) (by first | rfl | simp))
                        refine pw_inc E (pc' := 86) (ls' := [some (.ref 141), some (pw_i b), some (pw_i mo), some (pw_i fl), some (pw_i tr), some (pw_i (k49_5 + 1))]) rfl rfl rfl rfl ?_
                        refine pw_goto E (pc' := 49) rfl (by decide) ?_
                        exact ih49 _ (by omega) (k49_5 + 1) h28 h28I h28F (by omega) (by omega) (by have e : (12 * b + k49_5).toNat = (12 * b + k49_5).toNat := (by omega); have w1 := ‹pw_w _ 136 _ _ = _›; have w2 := ‹pw_w _ 137 _ _ = _›; rw [e] at w1 w2; rw [show 12 * b + (k49_5 + 1) = 12 * b + k49_5 + 1 by omega]; exact pw_FP.ne (pw_FP.st hx49_0 I49 rfl (by omega) (by omega) (by omega) (by omega) (by omega) w1) (by decide) w2) (by have e : (12 * b + k49_5).toNat = (12 * b + k49_5).toNat := (by omega); have w1 := ‹pw_w _ 136 _ _ = _›; have w2 := ‹pw_w _ 137 _ _ = _›; rw [e] at w1 w2; rw [show 12 * b + (k49_5 + 1) = 12 * b + k49_5 + 1 by omega]; exact pw_FP.st (pw_FP.ne hx49_1 (by decide) w1) (by assumption) rfl (by omega) (by omega) (by omega) (by omega) (by omega) w2) (by omega) rfl
                  exact L49 _ (mo) h1 h1I h1F (by omega) (by omega) hfp1 hfp2 (by omega) rfl
                · intro hc29
                  change ¬ (x22 ≠ (0 : Int)) at hc29
                  exfalso; omega
              · skip
                refine pw_if E (pc' := 46) rfl (by decide) (by omega) (by omega) ?_ ?_
                · intro hc31
                  change x22 ≠ (0 : Int) at hc31
                  exfalso; omega
                · intro hc32
                  change ¬ (x22 ≠ (0 : Int)) at hc32
                  refine pw_ld E (pc' := 45) (st' := [pw_i 0]) rfl (fun _ => rfl) ?_
                  refine pw_zret E rfl (by omega) ?_
                  have hl33 : ∀ j : Nat, pw_g h1 136 j = pw_g h 136 j := fun j => (by rw [← h1w]; exact pw_g_ne (by omega) : pw_g h1 136 j = pw_g h 136 j)
                  have hl34 : ∀ j : Nat, pw_g h1 137 j = pw_g h 137 j := fun j => (by rw [← h1w]; exact pw_g_ne (by omega) : pw_g h1 137 j = pw_g h 137 j)
                  exact ⟨h1I, h1F, ⟨_, rfl, by omega, by omega, ⟨by omega, fun q => absurd q (by omega), fun _ => ⟨hl33, hl34⟩⟩⟩⟩
          · skip
            refine pw_if E (pc' := 44) rfl (by decide) (by omega) (by omega) ?_ ?_
            · intro hc36
              change x16 = (0 : Int) at hc36
              refine pw_ld E (pc' := 45) (st' := [pw_i 0]) rfl (fun _ => rfl) ?_
              refine pw_zret E rfl (by omega) ?_
              have hl37 : ∀ j : Nat, pw_g h1 136 j = pw_g h 136 j := fun j => (by rw [← h1w]; exact pw_g_ne (by omega) : pw_g h1 136 j = pw_g h 136 j)
              have hl38 : ∀ j : Nat, pw_g h1 137 j = pw_g h 137 j := fun j => (by rw [← h1w]; exact pw_g_ne (by omega) : pw_g h1 137 j = pw_g h 137 j)
              exact ⟨h1I, h1F, ⟨_, rfl, by omega, by omega, ⟨by omega, fun q => absurd q (by omega), fun _ => ⟨hl37, hl38⟩⟩⟩⟩
            · intro hc39
              change ¬ (x16 = (0 : Int)) at hc39
              exfalso; omega
      · skip
        refine pw_if E (pc' := 44) rfl (by decide) (by omega) (by omega) ?_ ?_
        · intro hc41
          change x10 = (0 : Int) at hc41
          refine pw_ld E (pc' := 45) (st' := [pw_i 0]) rfl (fun _ => rfl) ?_
          refine pw_zret E rfl (by omega) ?_
          have hl42 : ∀ j : Nat, pw_g h1 136 j = pw_g h 136 j := fun j => (by rw [← h1w]; exact pw_g_ne (by omega) : pw_g h1 136 j = pw_g h 136 j)
          have hl43 : ∀ j : Nat, pw_g h1 137 j = pw_g h 137 j := fun j => (by rw [← h1w]; exact pw_g_ne (by omega) : pw_g h1 137 j = pw_g h 137 j)
          exact ⟨h1I, h1F, ⟨_, rfl, by omega, by omega, ⟨by omega, fun q => absurd q (by omega), fun _ => ⟨hl42, hl43⟩⟩⟩⟩
        · intro hc44
          change ¬ (x10 = (0 : Int)) at hc44
          exfalso; omega
  · skip
    refine pw_if E (pc' := 44) rfl (by decide) (by omega) (by omega) ?_ ?_
    · intro hc46
      change x4 = (0 : Int) at hc46
      refine pw_ld E (pc' := 45) (st' := [pw_i 0]) rfl (fun _ => rfl) ?_
      refine pw_zret E rfl (by omega) ?_
      have hl47 : ∀ j : Nat, pw_g h1 136 j = pw_g h 136 j := fun j => (by rw [← h1w]; exact pw_g_ne (by omega) : pw_g h1 136 j = pw_g h 136 j)
      have hl48 : ∀ j : Nat, pw_g h1 137 j = pw_g h 137 j := fun j => (by rw [← h1w]; exact pw_g_ne (by omega) : pw_g h1 137 j = pw_g h 137 j)
      exact ⟨h1I, h1F, ⟨_, rfl, by omega, by omega, ⟨by omega, fun q => absurd q (by omega), fun _ => ⟨hl47, hl48⟩⟩⟩⟩
    · intro hc49
      change ¬ (x4 = (0 : Int)) at hc49
      exfalso; omega
set_option maxHeartbeats 4000000 in
theorem cm_160_k {X : List (Nat × List Value)} {d : Nat} {h : pm_H} (hd : 4 ≤ d) (I : pw_I h) (k : Int) (hk1 : (-2147483648) ≤ k) (hk2 : k ≤ 2147483647) (mo : Int) (hmo1 : (-2147483648) ≤ mo) (hmo2 : mo ≤ 2147483647) (hr : Int) (hhr1 : (-2147483648) ≤ hr) (hhr2 : hr ≤ 2147483647) (tk : Int) (htk1 : (-2147483648) ≤ tk) (htk2 : tk ≤ 2147483647) : pw X d h 160 0 [some (.ref 16), some (pw_i k), some (pw_i mo), some (pw_i hr), some (pw_i tk)] [] (fun h' v => pw_I h' ∧ pw_E [14, 15] h h' ∧ ∃ a : Int, v = .inl (some (pw_i a)) ∧ 0 ≤ a ∧ a ≤ 1 ∧ (((a = 1 ∧ 0 ≤ k ∧ k ≤ 23 ∧ pw_g h 2 k.toNat = 1 ∧ 0 ≤ mo ∧ mo ≤ 11 ∧ 0 ≤ hr ∧ hr ≤ 999 ∧ 0 ≤ tk ∧ tk ≤ 99999) ∨ (a = 0 ∧ ¬ (0 ≤ k ∧ k ≤ 23 ∧ pw_g h 2 k.toNat = 1 ∧ 0 ≤ mo ∧ mo ≤ 11 ∧ 0 ≤ hr ∧ hr ≤ 999 ∧ 0 ≤ tk ∧ tk ≤ 99999))) ∧ (a = 1 → pw_up h h' 14 (k * 12 + mo) (hr) ∧ pw_up h h' 15 (k * 12 + mo) (tk)) ∧ (a = 0 → pw_sm h h' 14 ∧ pw_sm h h' 15))) := by
  have E : pm_ent 160 = some (5, 5, 11, 1, pmc_160) := rfl
  have E0 : pw_E [14, 15] h h := pw_E.rf _ _
  refine pw_ld E (pc' := 1) (st' := [.ref 16]) rfl (fun _ => rfl) ?_
  refine pw_ld E (pc' := 2) (st' := [pw_i k, .ref 16]) rfl (fun _ => rfl) ?_
  obtain ⟨f1l, f1h, -⟩ := pw_obj (c := 0) I rfl
  refine pw_call (m' := 124) (As := [.ref 16, pw_i k]) (rest := []) (ls'' := [some (.ref 16), some (pw_i k)]) (Nat.le_trans (by decide) hd) E rfl (fun _ => pw_iV rfl rfl rfl rfl (pw_cellI f1h rfl)) (rfl : pm_ent 124 = some (2, 2, 11, 1, pmc_124)) rfl rfl (cm_124_t (pw_dp hd (by decide)) I (k) (by omega) (by omega)) ?_
  rintro u3 v2 ⟨rfl, x4, rfl, hx4a, hx4b, hx4r⟩
  refine ⟨_, rfl, ?_⟩
  show pw X d h 160 5 [some (.ref 16), some (pw_i k), some (pw_i mo), some (pw_i hr), some (pw_i tk)] [pw_i x4] _
  change (x4 = 1 ∧ 0 ≤ k ∧ k ≤ 23 ∧ pw_g h 2 k.toNat = 1) ∨ (x4 = 0 ∧ ¬ (0 ≤ k ∧ k ≤ 23 ∧ pw_g h 2 k.toNat = 1)) at hx4r
  rcases (by omega : x4 = 1 ∨ x4 = 0) with hb5 | hb5
  · skip
    refine pw_if E (pc' := 38) rfl (by decide) (by omega) (by omega) ?_ ?_
    · intro hc6
      change x4 = (0 : Int) at hc6
      exfalso; omega
    · intro hc7
      change ¬ (x4 = (0 : Int)) at hc7
      refine pw_ld E (pc' := 9) (st' := [pw_i mo]) rfl (fun _ => rfl) ?_
      refine pw_call (m' := 125) (As := [pw_i mo]) (rest := []) (ls'' := [some (pw_i mo)]) (Nat.le_trans (by decide) hd) E rfl (fun _ => pw_iS rfl rfl rfl) (rfl : pm_ent 125 = some (1, 1, 11, 1, pmc_125)) rfl rfl (cm_125 (pw_dp hd (by decide)) I (mo) (by omega) (by omega)) ?_
      rintro u9 v8 ⟨rfl, x10, rfl, hx10a, hx10b, hx10r⟩
      refine ⟨_, rfl, ?_⟩
      show pw X d h 160 12 [some (.ref 16), some (pw_i k), some (pw_i mo), some (pw_i hr), some (pw_i tk)] [pw_i x10] _
      change (x10 = 1 ∧ 0 ≤ mo ∧ mo ≤ 11) ∨ (x10 = 0 ∧ ¬ (0 ≤ mo ∧ mo ≤ 11)) at hx10r
      rcases (by omega : x10 = 1 ∨ x10 = 0) with hb11 | hb11
      · skip
        refine pw_if E (pc' := 38) rfl (by decide) (by omega) (by omega) ?_ ?_
        · intro hc12
          change x10 = (0 : Int) at hc12
          exfalso; omega
        · intro hc13
          change ¬ (x10 = (0 : Int)) at hc13
          refine pw_ld E (pc' := 16) (st' := [pw_i hr]) rfl (fun _ => rfl) ?_
          refine pw_ld E (pc' := 17) (st' := [pw_i 0, pw_i hr]) rfl (fun _ => rfl) ?_
          refine pw_sip E (pc' := 20) rfl rfl (by decide) ?_
          refine pw_call (m' := 121) (As := [pw_i hr, pw_i 0, pw_i 999]) (rest := []) (ls'' := [some (pw_i hr), some (pw_i 0), some (pw_i 999)]) (Nat.le_trans (by decide) hd) E rfl (fun _ => pw_iS rfl rfl rfl) (rfl : pm_ent 121 = some (3, 3, 11, 1, pmc_121)) rfl rfl (cm_121 (pw_dp hd (by decide)) I (hr) (by omega) (by omega) (0) (by omega) (by omega) (999) (by omega) (by omega)) ?_
          rintro u15 v14 ⟨rfl, x16, rfl, hx16a, hx16b, hx16r⟩
          refine ⟨_, rfl, ?_⟩
          show pw X d h 160 23 [some (.ref 16), some (pw_i k), some (pw_i mo), some (pw_i hr), some (pw_i tk)] [pw_i x16] _
          change (x16 = 1 ∧ 0 ≤ hr ∧ hr ≤ 999) ∨ (x16 = 0 ∧ ¬ (0 ≤ hr ∧ hr ≤ 999)) at hx16r
          rcases (by omega : x16 = 1 ∨ x16 = 0) with hb17 | hb17
          · skip
            refine pw_if E (pc' := 38) rfl (by decide) (by omega) (by omega) ?_ ?_
            · intro hc18
              change x16 = (0 : Int) at hc18
              exfalso; omega
            · intro hc19
              change ¬ (x16 = (0 : Int)) at hc19
              refine pw_ld E (pc' := 28) (st' := [pw_i tk]) rfl (fun _ => rfl) ?_
              refine pw_ld E (pc' := 29) (st' := [pw_i 0, pw_i tk]) rfl (fun _ => rfl) ?_
              refine pw_ldcw (a := 99999) E (pc' := 32) rfl rfl rfl (by decide) ?_
              refine pw_call (m' := 121) (As := [pw_i tk, pw_i 0, pw_i 99999]) (rest := []) (ls'' := [some (pw_i tk), some (pw_i 0), some (pw_i 99999)]) (Nat.le_trans (by decide) hd) E rfl (fun _ => pw_iS rfl rfl rfl) (rfl : pm_ent 121 = some (3, 3, 11, 1, pmc_121)) rfl rfl (cm_121 (pw_dp hd (by decide)) I (tk) (by omega) (by omega) (0) (by omega) (by omega) (99999) (by omega) (by omega)) ?_
              rintro u21 v20 ⟨rfl, x22, rfl, hx22a, hx22b, hx22r⟩
              refine ⟨_, rfl, ?_⟩
              show pw X d h 160 35 [some (.ref 16), some (pw_i k), some (pw_i mo), some (pw_i hr), some (pw_i tk)] [pw_i x22] _
              change (x22 = 1 ∧ 0 ≤ tk ∧ tk ≤ 99999) ∨ (x22 = 0 ∧ ¬ (0 ≤ tk ∧ tk ≤ 99999)) at hx22r
              rcases (by omega : x22 = 1 ∨ x22 = 0) with hb23 | hb23
              · skip
                refine pw_if E (pc' := 40) rfl (by decide) (by omega) (by omega) ?_ ?_
                · intro hc24
                  change x22 ≠ (0 : Int) at hc24
                  refine pw_ld E (pc' := 41) (st' := [.ref 16]) rfl (fun _ => rfl) ?_
                  refine pw_getR (b := 30) I E (c := 0) (k := 4) (pc' := 44) rfl rfl rfl rfl rfl rfl rfl ?_
                  refine pw_ld E (pc' := 45) (st' := [pw_i k, .ref 30]) rfl (fun _ => rfl) ?_
                  refine pw_bip E (pc' := 47) rfl rfl (by decide) ?_
                  refine pw_mul E (pc' := 48) rfl rfl ?_
                  refine pw_ld E (pc' := 49) (st' := [pw_i mo, pw_i (k * 12), .ref 30]) rfl (fun _ => rfl) ?_
                  refine pw_add E (pc' := 50) rfl rfl ?_
                  refine pw_ld E (pc' := 51) (st' := [pw_i hr, pw_i ((k * 12) + mo), .ref 30]) rfl (fun _ => rfl) ?_
                  refine pw_ast0 I E (c := 14) (pc' := 52) rfl rfl rfl (by decide) rfl (by decide) (by omega) (by omega) rfl (by omega) (by omega) (by omega) (by omega) rfl ?_
                  intro h25I h25E
                  generalize h25w : pw_w h 14 (((k * 12) + mo).toNat) (pw_i hr) = h25 at h25I h25E ⊢
                  have h25F := E0.tr (h25E.wk (W' := [14, 15]) (by first | rfl | simp))
                  refine pw_ld E (pc' := 53) (st' := [.ref 16]) rfl (fun _ => rfl) ?_
                  refine pw_getR (b := 31) h25I E (c := 0) (k := 5) (pc' := 56) rfl rfl rfl rfl rfl rfl rfl ?_
                  refine pw_ld E (pc' := 57) (st' := [pw_i k, .ref 31]) rfl (fun _ => rfl) ?_
                  refine pw_bip E (pc' := 59) rfl rfl (by decide) ?_
                  refine pw_mul E (pc' := 60) rfl rfl ?_
                  refine pw_ld E (pc' := 61) (st' := [pw_i mo, pw_i (k * 12), .ref 31]) rfl (fun _ => rfl) ?_
                  refine pw_add E (pc' := 62) rfl rfl ?_
                  refine pw_ld E (pc' := 64) (st' := [pw_i tk, pw_i ((k * 12) + mo), .ref 31]) rfl (fun _ => rfl) ?_
                  refine pw_ast0 h25I E (c := 15) (pc' := 65) rfl rfl rfl (by decide) rfl (by decide) (by omega) (by omega) rfl (by omega) (by omega) (by omega) (by omega) rfl ?_
                  intro h26I h26E
                  generalize h26w : pw_w h25 15 (((k * 12) + mo).toNat) (pw_i tk) = h26 at h26I h26E ⊢
                  have h26F := h25F.tr (h26E.wk (W' := [14, 15]) (by first | rfl | simp))
                  refine pw_ld E (pc' := 66) (st' := [pw_i 1]) rfl (fun _ => rfl) ?_
                  refine pw_zret E rfl (by omega) ?_
                  have hl28 : ∀ j : Nat, pw_g h26 14 j = pw_g h25 14 j := fun j => (by rw [← h26w]; exact pw_g_ne (by omega) : pw_g h26 14 j = pw_g h25 14 j)
                  have hl29 : ∀ j : Nat, pw_g h 14 j = pw_g h 14 j := fun j => rfl
                  have hu27a : pw_g h25 14 (((k * 12) + mo).toNat) = hr := by rw [← h25w]; exact pw_g_eqA I rfl (by omega) (by omega) (by omega)
                  have hu27b : ∀ j : Nat, j ≠ ((k * 12) + mo).toNat → pw_g h25 14 j = pw_g h 14 j := fun j hj => by rw [← h25w]; exact pw_g_ne (fun q => hj q.2.symm)
                  have hl31 : ∀ j : Nat, pw_g h26 15 j = pw_g h26 15 j := fun j => rfl
                  have hl32 : ∀ j : Nat, pw_g h25 15 j = pw_g h 15 j := fun j => (by rw [← h25w]; exact pw_g_ne (by omega) : pw_g h25 15 j = pw_g h 15 j)
                  have hu30a : pw_g h26 15 (((k * 12) + mo).toNat) = tk := by rw [← h26w]; exact pw_g_eqA h25I rfl (by omega) (by omega) (by omega)
                  have hu30b : ∀ j : Nat, j ≠ ((k * 12) + mo).toNat → pw_g h26 15 j = pw_g h25 15 j := fun j hj => by rw [← h26w]; exact pw_g_ne (fun q => hj q.2.symm)
                  exact ⟨h26I, h26F, ⟨_, rfl, by omega, by omega, ⟨by omega, fun _ => ⟨⟨(hl28 _).trans hu27a, fun j hj => (hl28 j).trans ((hu27b j hj).trans (hl29 j))⟩, ⟨(hl31 _).trans hu30a, fun j hj => (hl31 j).trans ((hu30b j hj).trans (hl32 j))⟩⟩, fun q => absurd q (by omega)⟩⟩⟩
                · intro hc33
                  change ¬ (x22 ≠ (0 : Int)) at hc33
                  exfalso; omega
              · skip
                refine pw_if E (pc' := 40) rfl (by decide) (by omega) (by omega) ?_ ?_
                · intro hc35
                  change x22 ≠ (0 : Int) at hc35
                  exfalso; omega
                · intro hc36
                  change ¬ (x22 ≠ (0 : Int)) at hc36
                  refine pw_ld E (pc' := 39) (st' := [pw_i 0]) rfl (fun _ => rfl) ?_
                  refine pw_zret E rfl (by omega) ?_
                  have hl37 : ∀ j : Nat, pw_g h 14 j = pw_g h 14 j := fun j => rfl
                  have hl38 : ∀ j : Nat, pw_g h 15 j = pw_g h 15 j := fun j => rfl
                  exact ⟨I, E0, ⟨_, rfl, by omega, by omega, ⟨by omega, fun q => absurd q (by omega), fun _ => ⟨hl37, hl38⟩⟩⟩⟩
          · skip
            refine pw_if E (pc' := 38) rfl (by decide) (by omega) (by omega) ?_ ?_
            · intro hc40
              change x16 = (0 : Int) at hc40
              refine pw_ld E (pc' := 39) (st' := [pw_i 0]) rfl (fun _ => rfl) ?_
              refine pw_zret E rfl (by omega) ?_
              have hl41 : ∀ j : Nat, pw_g h 14 j = pw_g h 14 j := fun j => rfl
              have hl42 : ∀ j : Nat, pw_g h 15 j = pw_g h 15 j := fun j => rfl
              exact ⟨I, E0, ⟨_, rfl, by omega, by omega, ⟨by omega, fun q => absurd q (by omega), fun _ => ⟨hl41, hl42⟩⟩⟩⟩
            · intro hc43
              change ¬ (x16 = (0 : Int)) at hc43
              exfalso; omega
      · skip
        refine pw_if E (pc' := 38) rfl (by decide) (by omega) (by omega) ?_ ?_
        · intro hc45
          change x10 = (0 : Int) at hc45
          refine pw_ld E (pc' := 39) (st' := [pw_i 0]) rfl (fun _ => rfl) ?_
          refine pw_zret E rfl (by omega) ?_
          have hl46 : ∀ j : Nat, pw_g h 14 j = pw_g h 14 j := fun j => rfl
          have hl47 : ∀ j : Nat, pw_g h 15 j = pw_g h 15 j := fun j => rfl
          exact ⟨I, E0, ⟨_, rfl, by omega, by omega, ⟨by omega, fun q => absurd q (by omega), fun _ => ⟨hl46, hl47⟩⟩⟩⟩
        · intro hc48
          change ¬ (x10 = (0 : Int)) at hc48
          exfalso; omega
  · skip
    refine pw_if E (pc' := 38) rfl (by decide) (by omega) (by omega) ?_ ?_
    · intro hc50
      change x4 = (0 : Int) at hc50
      refine pw_ld E (pc' := 39) (st' := [pw_i 0]) rfl (fun _ => rfl) ?_
      refine pw_zret E rfl (by omega) ?_
      have hl51 : ∀ j : Nat, pw_g h 14 j = pw_g h 14 j := fun j => rfl
      have hl52 : ∀ j : Nat, pw_g h 15 j = pw_g h 15 j := fun j => rfl
      exact ⟨I, E0, ⟨_, rfl, by omega, by omega, ⟨by omega, fun q => absurd q (by omega), fun _ => ⟨hl51, hl52⟩⟩⟩⟩
    · intro hc53
      change ¬ (x4 = (0 : Int)) at hc53
      exfalso; omega
set_option maxHeartbeats 4000000 in
theorem cm_287_k {X : List (Nat × List Value)} {d : Nat} {h : pm_H} (hd : 3 ≤ d) (I : pw_I h) (k : Int) (hk1 : (-2147483648) ≤ k) (hk2 : k ≤ 2147483647) (mo : Int) (hmo1 : (-2147483648) ≤ mo) (hmo2 : mo ≤ 2147483647) (hr : Int) (hhr1 : (-2147483648) ≤ hr) (hhr2 : hr ≤ 2147483647) (tk : Int) (htk1 : (-2147483648) ≤ tk) (htk2 : tk ≤ 2147483647) : pw X d h 287 0 [some (.ref 141), some (pw_i k), some (pw_i mo), some (pw_i hr), some (pw_i tk)] [] (fun h' v => pw_I h' ∧ pw_E [125, 162, 163] h h' ∧ ∃ a : Int, v = .inl (some (pw_i a)) ∧ 0 ≤ a ∧ a ≤ 1 ∧ (((a = 1 ∧ 0 ≤ k ∧ k ≤ 23 ∧ pw_g h 131 k.toNat = 1 ∧ 0 ≤ mo ∧ mo ≤ 11 ∧ 0 ≤ hr ∧ hr ≤ 999 ∧ 0 ≤ tk ∧ tk ≤ 99999) ∨ (a = 0 ∧ ¬ (0 ≤ k ∧ k ≤ 23 ∧ pw_g h 131 k.toNat = 1 ∧ 0 ≤ mo ∧ mo ≤ 11 ∧ 0 ≤ hr ∧ hr ≤ 999 ∧ 0 ≤ tk ∧ tk ≤ 99999))) ∧ (a = 1 → pw_up h h' 162 (12 * k + mo) (hr) ∧ pw_up h h' 163 (12 * k + mo) (tk)) ∧ (a = 0 → pw_sm h h' 162 ∧ pw_sm h h' 163))) := by
  have E : pm_ent 287 = some (5, 5, 12, 1, pmc_287) := rfl
  have E0 : pw_E [125, 162, 163] h h := pw_E.rf _ _
  refine pw_ld E (pc' := 1) (st' := [.ref 141]) rfl (fun _ => rfl) ?_
  refine pw_ld E (pc' := 2) (st' := [pw_i 0, .ref 141]) rfl (fun _ => rfl) ?_
  refine pw_putI I E (c := 125) (k := 0) (pc' := 5) rfl rfl rfl rfl (by omega) (by omega) (by omega) (by omega) rfl rfl ?_
  intro h1I h1E
  generalize h1w : pw_w h 125 0 (pw_i 0) = h1 at h1I h1E ⊢
  have h1F := E0.tr (h1E.wk (W' := [125, 162, 163]) (by first | rfl | simp))
  have ht1 : pw_g h1 131 k.toNat = pw_g h 131 k.toNat := by rw [← h1w]; exact pw_g_ne (by omega)
  refine pw_ld E (pc' := 6) (st' := [.ref 141]) rfl (fun _ => rfl) ?_
  refine pw_ld E (pc' := 7) (st' := [pw_i k, .ref 141]) rfl (fun _ => rfl) ?_
  obtain ⟨f2l, f2h, -⟩ := pw_obj (c := 125) h1I rfl
  refine pw_call (m' := 204) (As := [.ref 141, pw_i k]) (rest := []) (ls'' := [some (.ref 141), some (pw_i k)]) (Nat.le_trans (by decide) hd) E rfl (fun _ => pw_iV rfl rfl rfl rfl (pw_cellI f2h rfl)) (rfl : pm_ent 204 = some (2, 2, 12, 1, pmc_204)) rfl rfl (cm_204_t (pw_dp hd (by decide)) h1I (k) (by omega) (by omega)) ?_
  rintro u4 v3 ⟨rfl, x5, rfl, hx5a, hx5b, hx5r⟩
  refine ⟨_, rfl, ?_⟩
  show pw X d h1 287 10 [some (.ref 141), some (pw_i k), some (pw_i mo), some (pw_i hr), some (pw_i tk)] [pw_i x5] _
  change (x5 = 1 ∧ 0 ≤ k ∧ k ≤ 23 ∧ pw_g h1 131 k.toNat = 1) ∨ (x5 = 0 ∧ ¬ (0 ≤ k ∧ k ≤ 23 ∧ pw_g h1 131 k.toNat = 1)) at hx5r
  rcases (by omega : x5 = 1 ∨ x5 = 0) with hb6 | hb6
  · skip
    refine pw_if E (pc' := 43) rfl (by decide) (by omega) (by omega) ?_ ?_
    · intro hc7
      change x5 = (0 : Int) at hc7
      exfalso; omega
    · intro hc8
      change ¬ (x5 = (0 : Int)) at hc8
      refine pw_ld E (pc' := 14) (st' := [pw_i mo]) rfl (fun _ => rfl) ?_
      refine pw_call (m' := 205) (As := [pw_i mo]) (rest := []) (ls'' := [some (pw_i mo)]) (Nat.le_trans (by decide) hd) E rfl (fun _ => pw_iS rfl rfl rfl) (rfl : pm_ent 205 = some (1, 1, 12, 1, pmc_205)) rfl rfl (cm_205 (pw_dp hd (by decide)) h1I (mo) (by omega) (by omega)) ?_
      rintro u10 v9 ⟨rfl, x11, rfl, hx11a, hx11b, hx11r⟩
      refine ⟨_, rfl, ?_⟩
      show pw X d h1 287 17 [some (.ref 141), some (pw_i k), some (pw_i mo), some (pw_i hr), some (pw_i tk)] [pw_i x11] _
      change (x11 = 1 ∧ 0 ≤ mo ∧ mo ≤ 11) ∨ (x11 = 0 ∧ ¬ (0 ≤ mo ∧ mo ≤ 11)) at hx11r
      rcases (by omega : x11 = 1 ∨ x11 = 0) with hb12 | hb12
      · skip
        refine pw_if E (pc' := 43) rfl (by decide) (by omega) (by omega) ?_ ?_
        · intro hc13
          change x11 = (0 : Int) at hc13
          exfalso; omega
        · intro hc14
          change ¬ (x11 = (0 : Int)) at hc14
          refine pw_ld E (pc' := 21) (st' := [pw_i hr]) rfl (fun _ => rfl) ?_
          refine pw_ld E (pc' := 22) (st' := [pw_i 0, pw_i hr]) rfl (fun _ => rfl) ?_
          refine pw_sip E (pc' := 25) rfl rfl (by decide) ?_
          refine pw_call (m' := 202) (As := [pw_i hr, pw_i 0, pw_i 999]) (rest := []) (ls'' := [some (pw_i hr), some (pw_i 0), some (pw_i 999)]) (Nat.le_trans (by decide) hd) E rfl (fun _ => pw_iS rfl rfl rfl) (rfl : pm_ent 202 = some (3, 3, 12, 1, pmc_202)) rfl rfl (cm_202 (pw_dp hd (by decide)) h1I (hr) (by omega) (by omega) (0) (by omega) (by omega) (999) (by omega) (by omega)) ?_
          rintro u16 v15 ⟨rfl, x17, rfl, hx17a, hx17b, hx17r⟩
          refine ⟨_, rfl, ?_⟩
          show pw X d h1 287 28 [some (.ref 141), some (pw_i k), some (pw_i mo), some (pw_i hr), some (pw_i tk)] [pw_i x17] _
          change (x17 = 1 ∧ 0 ≤ hr ∧ hr ≤ 999) ∨ (x17 = 0 ∧ ¬ (0 ≤ hr ∧ hr ≤ 999)) at hx17r
          rcases (by omega : x17 = 1 ∨ x17 = 0) with hb18 | hb18
          · skip
            refine pw_if E (pc' := 43) rfl (by decide) (by omega) (by omega) ?_ ?_
            · intro hc19
              change x17 = (0 : Int) at hc19
              exfalso; omega
            · intro hc20
              change ¬ (x17 = (0 : Int)) at hc20
              refine pw_ld E (pc' := 33) (st' := [pw_i tk]) rfl (fun _ => rfl) ?_
              refine pw_ld E (pc' := 34) (st' := [pw_i 0, pw_i tk]) rfl (fun _ => rfl) ?_
              refine pw_ldcw (a := 99999) E (pc' := 37) rfl rfl rfl (by decide) ?_
              refine pw_call (m' := 202) (As := [pw_i tk, pw_i 0, pw_i 99999]) (rest := []) (ls'' := [some (pw_i tk), some (pw_i 0), some (pw_i 99999)]) (Nat.le_trans (by decide) hd) E rfl (fun _ => pw_iS rfl rfl rfl) (rfl : pm_ent 202 = some (3, 3, 12, 1, pmc_202)) rfl rfl (cm_202 (pw_dp hd (by decide)) h1I (tk) (by omega) (by omega) (0) (by omega) (by omega) (99999) (by omega) (by omega)) ?_
              rintro u22 v21 ⟨rfl, x23, rfl, hx23a, hx23b, hx23r⟩
              refine ⟨_, rfl, ?_⟩
              show pw X d h1 287 40 [some (.ref 141), some (pw_i k), some (pw_i mo), some (pw_i hr), some (pw_i tk)] [pw_i x23] _
              change (x23 = 1 ∧ 0 ≤ tk ∧ tk ≤ 99999) ∨ (x23 = 0 ∧ ¬ (0 ≤ tk ∧ tk ≤ 99999)) at hx23r
              rcases (by omega : x23 = 1 ∨ x23 = 0) with hb24 | hb24
              · skip
                refine pw_if E (pc' := 45) rfl (by decide) (by omega) (by omega) ?_ ?_
                · intro hc25
                  change x23 ≠ (0 : Int) at hc25
                  refine pw_ld E (pc' := 46) (st' := [.ref 141]) rfl (fun _ => rfl) ?_
                  refine pw_getR (b := 178) h1I E (c := 125) (k := 51) (pc' := 49) rfl rfl rfl rfl rfl rfl rfl ?_
                  refine pw_bip E (pc' := 51) rfl rfl (by decide) ?_
                  refine pw_ld E (pc' := 52) (st' := [pw_i k, pw_i 12, .ref 178]) rfl (fun _ => rfl) ?_
                  refine pw_mul E (pc' := 53) rfl rfl ?_
                  refine pw_ld E (pc' := 54) (st' := [pw_i mo, pw_i (12 * k), .ref 178]) rfl (fun _ => rfl) ?_
                  refine pw_add E (pc' := 55) rfl rfl ?_
                  refine pw_ld E (pc' := 56) (st' := [pw_i hr, pw_i ((12 * k) + mo), .ref 178]) rfl (fun _ => rfl) ?_
                  refine pw_ast0 h1I E (c := 162) (pc' := 57) rfl rfl rfl (by decide) rfl (by decide) (by omega) (by omega) rfl (by omega) (by omega) (by omega) (by omega) rfl ?_
                  intro h26I h26E
                  generalize h26w : pw_w h1 162 (((12 * k) + mo).toNat) (pw_i hr) = h26 at h26I h26E ⊢
                  have h26F := h1F.tr (h26E.wk (W' := [125, 162, 163]) (by first | rfl | simp))
                  refine pw_ld E (pc' := 58) (st' := [.ref 141]) rfl (fun _ => rfl) ?_
                  refine pw_getR (b := 179) h26I E (c := 125) (k := 52) (pc' := 61) rfl rfl rfl rfl rfl rfl rfl ?_
                  refine pw_bip E (pc' := 63) rfl rfl (by decide) ?_
                  refine pw_ld E (pc' := 64) (st' := [pw_i k, pw_i 12, .ref 179]) rfl (fun _ => rfl) ?_
                  refine pw_mul E (pc' := 65) rfl rfl ?_
                  refine pw_ld E (pc' := 66) (st' := [pw_i mo, pw_i (12 * k), .ref 179]) rfl (fun _ => rfl) ?_
                  refine pw_add E (pc' := 67) rfl rfl ?_
                  refine pw_ld E (pc' := 69) (st' := [pw_i tk, pw_i ((12 * k) + mo), .ref 179]) rfl (fun _ => rfl) ?_
                  refine pw_ast0 h26I E (c := 163) (pc' := 70) rfl rfl rfl (by decide) rfl (by decide) (by omega) (by omega) rfl (by omega) (by omega) (by omega) (by omega) rfl ?_
                  intro h27I h27E
                  generalize h27w : pw_w h26 163 (((12 * k) + mo).toNat) (pw_i tk) = h27 at h27I h27E ⊢
                  have h27F := h26F.tr (h27E.wk (W' := [125, 162, 163]) (by first | rfl | simp))
                  refine pw_ld E (pc' := 71) (st' := [pw_i 1]) rfl (fun _ => rfl) ?_
                  refine pw_zret E rfl (by omega) ?_
                  have hl29 : ∀ j : Nat, pw_g h27 162 j = pw_g h26 162 j := fun j => (by rw [← h27w]; exact pw_g_ne (by omega) : pw_g h27 162 j = pw_g h26 162 j)
                  have hl30 : ∀ j : Nat, pw_g h1 162 j = pw_g h 162 j := fun j => (by rw [← h1w]; exact pw_g_ne (by omega) : pw_g h1 162 j = pw_g h 162 j)
                  have hu28a : pw_g h26 162 (((12 * k) + mo).toNat) = hr := by rw [← h26w]; exact pw_g_eqA h1I rfl (by omega) (by omega) (by omega)
                  have hu28b : ∀ j : Nat, j ≠ ((12 * k) + mo).toNat → pw_g h26 162 j = pw_g h1 162 j := fun j hj => by rw [← h26w]; exact pw_g_ne (fun q => hj q.2.symm)
                  have hl32 : ∀ j : Nat, pw_g h27 163 j = pw_g h27 163 j := fun j => rfl
                  have hl33 : ∀ j : Nat, pw_g h26 163 j = pw_g h 163 j := fun j => ((by rw [← h26w]; exact pw_g_ne (by omega) : pw_g h26 163 j = pw_g h1 163 j)).trans (by rw [← h1w]; exact pw_g_ne (by omega) : pw_g h1 163 j = pw_g h 163 j)
                  have hu31a : pw_g h27 163 (((12 * k) + mo).toNat) = tk := by rw [← h27w]; exact pw_g_eqA h26I rfl (by omega) (by omega) (by omega)
                  have hu31b : ∀ j : Nat, j ≠ ((12 * k) + mo).toNat → pw_g h27 163 j = pw_g h26 163 j := fun j hj => by rw [← h27w]; exact pw_g_ne (fun q => hj q.2.symm)
                  exact ⟨h27I, h27F, ⟨_, rfl, by omega, by omega, ⟨by omega, fun _ => ⟨⟨(hl29 _).trans hu28a, fun j hj => (hl29 j).trans ((hu28b j hj).trans (hl30 j))⟩, ⟨(hl32 _).trans hu31a, fun j hj => (hl32 j).trans ((hu31b j hj).trans (hl33 j))⟩⟩, fun q => absurd q (by omega)⟩⟩⟩
                · intro hc34
                  change ¬ (x23 ≠ (0 : Int)) at hc34
                  exfalso; omega
              · skip
                refine pw_if E (pc' := 45) rfl (by decide) (by omega) (by omega) ?_ ?_
                · intro hc36
                  change x23 ≠ (0 : Int) at hc36
                  exfalso; omega
                · intro hc37
                  change ¬ (x23 ≠ (0 : Int)) at hc37
                  refine pw_ld E (pc' := 44) (st' := [pw_i 0]) rfl (fun _ => rfl) ?_
                  refine pw_zret E rfl (by omega) ?_
                  have hl38 : ∀ j : Nat, pw_g h1 162 j = pw_g h 162 j := fun j => (by rw [← h1w]; exact pw_g_ne (by omega) : pw_g h1 162 j = pw_g h 162 j)
                  have hl39 : ∀ j : Nat, pw_g h1 163 j = pw_g h 163 j := fun j => (by rw [← h1w]; exact pw_g_ne (by omega) : pw_g h1 163 j = pw_g h 163 j)
                  exact ⟨h1I, h1F, ⟨_, rfl, by omega, by omega, ⟨by omega, fun q => absurd q (by omega), fun _ => ⟨hl38, hl39⟩⟩⟩⟩
          · skip
            refine pw_if E (pc' := 43) rfl (by decide) (by omega) (by omega) ?_ ?_
            · intro hc41
              change x17 = (0 : Int) at hc41
              refine pw_ld E (pc' := 44) (st' := [pw_i 0]) rfl (fun _ => rfl) ?_
              refine pw_zret E rfl (by omega) ?_
              have hl42 : ∀ j : Nat, pw_g h1 162 j = pw_g h 162 j := fun j => (by rw [← h1w]; exact pw_g_ne (by omega) : pw_g h1 162 j = pw_g h 162 j)
              have hl43 : ∀ j : Nat, pw_g h1 163 j = pw_g h 163 j := fun j => (by rw [← h1w]; exact pw_g_ne (by omega) : pw_g h1 163 j = pw_g h 163 j)
              exact ⟨h1I, h1F, ⟨_, rfl, by omega, by omega, ⟨by omega, fun q => absurd q (by omega), fun _ => ⟨hl42, hl43⟩⟩⟩⟩
            · intro hc44
              change ¬ (x17 = (0 : Int)) at hc44
              exfalso; omega
      · skip
        refine pw_if E (pc' := 43) rfl (by decide) (by omega) (by omega) ?_ ?_
        · intro hc46
          change x11 = (0 : Int) at hc46
          refine pw_ld E (pc' := 44) (st' := [pw_i 0]) rfl (fun _ => rfl) ?_
          refine pw_zret E rfl (by omega) ?_
          have hl47 : ∀ j : Nat, pw_g h1 162 j = pw_g h 162 j := fun j => (by rw [← h1w]; exact pw_g_ne (by omega) : pw_g h1 162 j = pw_g h 162 j)
          have hl48 : ∀ j : Nat, pw_g h1 163 j = pw_g h 163 j := fun j => (by rw [← h1w]; exact pw_g_ne (by omega) : pw_g h1 163 j = pw_g h 163 j)
          exact ⟨h1I, h1F, ⟨_, rfl, by omega, by omega, ⟨by omega, fun q => absurd q (by omega), fun _ => ⟨hl47, hl48⟩⟩⟩⟩
        · intro hc49
          change ¬ (x11 = (0 : Int)) at hc49
          exfalso; omega
  · skip
    refine pw_if E (pc' := 43) rfl (by decide) (by omega) (by omega) ?_ ?_
    · intro hc51
      change x5 = (0 : Int) at hc51
      refine pw_ld E (pc' := 44) (st' := [pw_i 0]) rfl (fun _ => rfl) ?_
      refine pw_zret E rfl (by omega) ?_
      have hl52 : ∀ j : Nat, pw_g h1 162 j = pw_g h 162 j := fun j => (by rw [← h1w]; exact pw_g_ne (by omega) : pw_g h1 162 j = pw_g h 162 j)
      have hl53 : ∀ j : Nat, pw_g h1 163 j = pw_g h 163 j := fun j => (by rw [← h1w]; exact pw_g_ne (by omega) : pw_g h1 163 j = pw_g h 163 j)
      exact ⟨h1I, h1F, ⟨_, rfl, by omega, by omega, ⟨by omega, fun q => absurd q (by omega), fun _ => ⟨hl52, hl53⟩⟩⟩⟩
    · intro hc54
      change ¬ (x5 = (0 : Int)) at hc54
      exfalso; omega
