/-! the Readers: what waits (printed by wip/tool/reader.py) -/
def pw_Xr (X : List (Nat × List Value)) : Prop := X[3]? = some (0, [pw_i 0, pw_i 1, pw_i 1, pw_i 2, pw_i 2, pw_i 3, pw_i 3, pw_i 4, pw_i 0, pw_i 0])
def pw_J (c c1 : Nat) (h : pm_H) (dp op : Int) : Prop := pw_Jw (fun j => pw_g h c1 j) (pw_g h c 4).toNat dp op
def pw_tr (c c1 : Nat) (h : pm_H) : Int := if pw_g h c 4 ≤ 0 then 0 else pw_rk (pw_g h c1 (pw_g h c 4 - 1).toNat)
theorem pw_tr0 {c c1 : Nat} {h : pm_H} (h0 : pw_g h c 4 ≤ 0) : pw_tr c c1 h = 0 := if_pos h0
theorem pw_tr1 {c c1 : Nat} {h : pm_H} {k : Nat} (h0 : pw_g h c 4 = (k : Int) + 1) : pw_tr c c1 h = pw_rk (pw_g h c1 k) := by
  unfold pw_tr
  rw [if_neg (by omega), show (pw_g h c 4 - 1).toNat = k by omega]
theorem pw_Jof {c c1 : Nat} {h h' : pm_H} {n : Nat} {dp op : Int} (J : pw_Jw (fun j => pw_g h c1 j) n dp op) (hw : ∀ j, pw_g h' c1 j = pw_g h c1 j) (hn : (pw_g h' c 4).toNat = n) : pw_J c c1 h' dp op := by
  unfold pw_J
  rw [hn]
  exact J.congr (fun j _ => hw j)
theorem pw_Jk {c c1 : Nat} {h : pm_H} {k : Nat} {dp op : Int} (J : pw_J c c1 h dp op) (hk : pw_g h c 4 = (k : Int) + 1) : pw_Jw (fun j => pw_g h c1 j) (k + 1) dp op := by
  have J : pw_Jw (fun j => pw_g h c1 j) (pw_g h c 4).toNat dp op := J
  rwa [show (pw_g h c 4).toNat = k + 1 by omega] at J
theorem pw_J.le {c c1 : Nat} {h : pm_H} {dp op : Int} (J : pw_J c c1 h dp op) : pw_g h c 4 ≤ 29 := by
  have h1 : (((pw_g h c 4).toNat : Nat) : Int) ≤ 29 := pw_Jw.le J
  omega
theorem pw_xaldR {X : List (Nat × List Value)} {d : Nat} {h : pm_H} {m pc pc' len na nl own rt : Nat} {C : pm_T (Instr × Nat)} {ls : pm_L} {r : List Value} {Q : pm_H → (Option Value ⊕ Unit) → Prop} {j : Int} (he : pm_ent m = some (na, nl, own, rt, C)) (hq : pm_get C pc = some (.iaload, len)) (hR : pw_Xr X) (h0 : 0 ≤ j) (h1 : j ≤ 9) (hc : pc + len = pc') (H : pw X d h m pc' ls (pw_i (pw_rk j) :: r) Q) : pw X d h m pc ls (pw_i j :: .ref 3 :: r) Q := by
  subst hc
  have hy : ([pw_i 0, pw_i 1, pw_i 1, pw_i 2, pw_i 2, pw_i 3, pw_i 3, pw_i 4, pw_i 0, pw_i 0] : List Value)[j.toNat]? = some (pw_i (pw_rk j)) := by
    have hj : j = 0 ∨ j = 1 ∨ j = 2 ∨ j = 3 ∨ j = 4 ∨ j = 5 ∨ j = 6 ∨ j = 7 ∨ j = 8 ∨ j = 9 := by omega
    rcases hj with rfl | rfl | rfl | rfl | rfl | rfl | rfl | rfl | rfl | rfl <;> rfl
  refine pw_ld he hq (st' := pw_i (pw_rk j) :: r) (pc' := pc + len) (fun ih => ?_) H
  show pm_gAld X 0 0 ih d h m own pc len ls (pw_i j :: .ref 3 :: r) = _
  have hrow : pm_row X h 3 = some (0, [pw_i 0, pw_i 1, pw_i 1, pw_i 2, pw_i 2, pw_i 3, pw_i 3, pw_i 4, pw_i 0, pw_i 0]) := by
    unfold pm_row
    rw [show Nat.blt 3 16 = true from rfl, cond_true, pm_nth_eq, hR]
    rfl
  rw [show (pw_i j : Value) = .int (Int32.ofInt j) from rfl]
  unfold pm_gAld
  dsimp only
  rw [hrow]
  show cond (Nat.beq 0 0 || Nat.beq 0 0) (cond (decide (Int32.ofInt j < 0)) none (match pm_nth [pw_i 0, pw_i 1, pw_i 1, pw_i 2, pw_i 2, pw_i 3, pw_i 3, pw_i 4, pw_i 0, pw_i 0] (Int32.ofInt j).toNatClampNeg with
        | some (.int x) => pm_fn (pc + len) fun q => ih d h m q ls (.int x :: r)
        | _ => none)) none = _
  rw [decide_eq_false (pw_neg h0 (by omega)), pw_clamp h0 (by omega), pm_nth_eq, hy]
  show pm_fn (pc + len) (fun q => ih d h m q ls (.int (Int32.ofInt (pw_rk j)) :: r)) = _
  rw [pm_fn_eq]
  rfl
theorem pw_g_eqA {h : pm_H} {c t n : Nat} {lo hi : Int} {j : Nat} {b : Int} (I : pw_I h) (hs : pw_T[c]? = some (.inl (t, n, lo, hi))) (hj : j < n) (h1 : -2147483648 ≤ b) (h2 : b ≤ 2147483647) : pw_g (pw_w h c j (pw_i b)) c j = b := by
  obtain ⟨l, e1, e2, -⟩ := pw_arr (c := c) I hs
  unfold pw_g
  rw [pw_at_w (by unfold pw_at; rw [e1]; show (l[j]?).isSome = true; rw [List.getElem?_eq_getElem (by omega)]; rfl), if_pos ⟨rfl, rfl⟩, pw_iv_i h1 h2]
set_option maxHeartbeats 4000000 in
theorem cm_71_30 {X : List (Nat × List Value)} {d : Nat} {h : pm_H} (hd : 1 ≤ d) (I : pw_I h) (li : Int) (hli1 : 0 ≤ li) (hli2 : li ≤ 3) (wd : Int) (hwd1 : (-2147483648) ≤ wd) (hwd2 : wd ≤ 2147483647) : pw X d h 71 0 [some (.ref 46), some (pw_i li), some (pw_i wd)] [] (fun h' v => pw_I h' ∧ pw_E [30, 33, 36] h h' ∧ (pw_g h' 30 1 ≤ pw_g h 30 1 + 1) ∧ (v = .inl none)) := by
  have E : pm_ent 71 = some (3, 3, 7, 4, pmc_71) := rfl
  have E0 : pw_E [30, 33, 36] h h := pw_E.rf _ _
  refine pw_ld E (pc' := 1) (st' := [.ref 46]) rfl (fun _ => rfl) ?_
  refine pw_getI I E (c := 30) (k := 1) (pc' := 4) rfl rfl rfl rfl rfl rfl (fun hf1a hf1b hf1c hf1d => ?_)
  refine pw_ld E (pc' := 5) (st' := [.ref 46, pw_i (pw_g h 30 1)]) rfl (fun _ => rfl) ?_
  refine pw_getR (b := 52) I E (c := 30) (k := 0) (pc' := 8) rfl rfl rfl rfl rfl rfl rfl ?_
  obtain ⟨z2l, z2h, z2n, -⟩ := pw_arr (c := 36) I rfl
  refine pw_alen E (pc' := 9) rfl (pw_rowI z2h rfl) rfl rfl ?_
  rw [z2n]
  refine pw_if2 E (pc' := 42) rfl (by decide) (by omega) (by omega) (by decide) (by decide) ?_ ?_
  · intro hc3
    have hc3 : (1000 : Nat) ≤ pw_g h 30 1 := hc3
    refine pw_vret E rfl ?_
    exact ⟨I, E0, ⟨by omega, rfl⟩⟩
  · intro hc4
    have hc4 : ¬ ((1000 : Nat) ≤ pw_g h 30 1) := hc4
    refine pw_ld E (pc' := 13) (st' := [.ref 46]) rfl (fun _ => rfl) ?_
    refine pw_getR (b := 52) I E (c := 30) (k := 0) (pc' := 16) rfl rfl rfl rfl rfl rfl rfl ?_
    refine pw_ld E (pc' := 17) (st' := [.ref 46, .ref 52]) rfl (fun _ => rfl) ?_
    refine pw_getI I E (c := 30) (k := 1) (pc' := 20) rfl rfl rfl rfl rfl rfl (fun hf5a hf5b hf5c hf5d => ?_)
    refine pw_ld E (pc' := 21) (st' := [pw_i wd, pw_i (pw_g h 30 1), .ref 52]) rfl (fun _ => rfl) ?_
    refine pw_ast0 I E (c := 36) (pc' := 22) rfl rfl rfl (by decide) rfl (by decide) (by omega) (by omega) rfl (by omega) (by omega) (by omega) (by omega) rfl ?_
    intro h6I h6E
    generalize h6w : pw_w h 36 ((pw_g h 30 1).toNat) (pw_i wd) = h6 at h6I h6E ⊢
    have h6F := E0.tr (h6E.wk (W' := [30, 33, 36]) (by first | rfl | simp))
    refine pw_ld E (pc' := 23) (st' := [.ref 46]) rfl (fun _ => rfl) ?_
    refine pw_ld E (pc' := 24) (st' := [.ref 46, .ref 46]) rfl (fun _ => rfl) ?_
    have he8 : pw_g h6 30 1 = pw_g h 30 1 := by rw [← h6w]; exact pw_g_ne (by omega)
    refine pw_getI h6I E (c := 30) (k := 1) (pc' := 27) rfl rfl rfl rfl rfl rfl (fun hf7a hf7b hf7c hf7d => ?_)
    refine pw_ld E (pc' := 28) (st' := [pw_i 1, pw_i (pw_g h6 30 1), .ref 46]) rfl (fun _ => rfl) ?_
    refine pw_add E (pc' := 29) rfl rfl ?_
    refine pw_putI h6I E (c := 30) (k := 1) (pc' := 32) rfl rfl rfl rfl (by omega) (by omega) (by omega) (by omega) rfl rfl ?_
    intro h9I h9E
    generalize h9w : pw_w h6 30 1 (pw_i ((pw_g h6 30 1) + 1)) = h9 at h9I h9E ⊢
    have h9F := h6F.tr (h9E.wk (W' := [30, 33, 36]) (by first | rfl | simp))
    refine pw_ld E (pc' := 33) (st' := [.ref 46]) rfl (fun _ => rfl) ?_
    refine pw_getR (b := 49) h9I E (c := 30) (k := 4) (pc' := 36) rfl rfl rfl rfl rfl rfl rfl ?_
    refine pw_ld E (pc' := 37) (st' := [pw_i li, .ref 49]) rfl (fun _ => rfl) ?_
    refine pw_ld E (pc' := 38) (st' := [.ref 46, pw_i li, .ref 49]) rfl (fun _ => rfl) ?_
    have he11 : pw_g h9 30 1 = (pw_g h6 30 1) + 1 := by rw [← h9w]; exact pw_g_eq (c := 30) (k := 1) h6I rfl rfl (by omega) (by omega)
    refine pw_getI h9I E (c := 30) (k := 1) (pc' := 41) rfl rfl rfl rfl rfl rfl (fun hf10a hf10b hf10c hf10d => ?_)
    refine pw_ast0 h9I E (c := 33) (pc' := 42) rfl rfl rfl (by decide) rfl (by decide) (by omega) (by omega) rfl (by omega) (by omega) (by omega) (by omega) rfl ?_
    intro h12I h12E
    generalize h12w : pw_w h9 33 (li.toNat) (pw_i (pw_g h9 30 1)) = h12 at h12I h12E ⊢
    have h12F := h9F.tr (h12E.wk (W' := [30, 33, 36]) (by first | rfl | simp))
    have he13 : pw_g h12 30 1 = pw_g h9 30 1 := by rw [← h12w]; exact pw_g_ne (by omega)
    refine pw_vret E rfl ?_
    exact ⟨h12I, h12F, ⟨by omega, rfl⟩⟩
set_option maxHeartbeats 4000000 in
theorem cm_48_26 {X : List (Nat × List Value)} {d : Nat} {h : pm_H} (hd : 1 ≤ d) (I : pw_I h) (x : Int) (hx1 : 1 ≤ x) (hx2 : x ≤ 9) {dp op : Int} (J : pw_J 26 27 h dp op) (hr : 8 ≤ x ∨ pw_tr 26 27 h < pw_rk x) (hdp : 8 ≤ x → dp ≤ 4) : pw X d h 48 0 [some (.ref 42), some (pw_i x)] [] (fun h' v => pw_I h' ∧ pw_E [26, 27] h h' ∧ (pw_J 26 27 h' (dp + if 8 ≤ x then 1 else 0) (op + if x = 9 then 1 else 0) ∧ pw_g h' 26 4 = pw_g h 26 4 + 1 ∧ (∀ k, k ≠ 4 → pw_g h' 26 k = pw_g h 26 k)) ∧ (v = .inl none)) := by
  have E : pm_ent 48 = some (2, 2, 5, 4, pmc_48) := rfl
  have E0 : pw_E [26, 27] h h := pw_E.rf _ _
  have hJ := J.le
  refine pw_ld E (pc' := 1) (st' := [.ref 42]) rfl (fun _ => rfl) ?_
  refine pw_getI I E (c := 26) (k := 4) (pc' := 4) rfl rfl rfl rfl rfl rfl (fun hf1a hf1b hf1c hf1d => ?_)
  refine pw_bip E (pc' := 6) rfl rfl (by decide) ?_
  refine pw_if2 E (pc' := 29) rfl (by decide) (by omega) (by omega) (by decide) (by decide) ?_ ?_
  · intro hc2
    have hc2 : (40 : Int) ≤ pw_g h 26 4 := hc2
    exfalso; omega
  · intro hc3
    have hc3 : ¬ ((40 : Int) ≤ pw_g h 26 4) := hc3
    refine pw_ld E (pc' := 10) (st' := [.ref 42]) rfl (fun _ => rfl) ?_
    refine pw_getR (b := 43) I E (c := 26) (k := 3) (pc' := 13) rfl rfl rfl rfl rfl rfl rfl ?_
    refine pw_ld E (pc' := 14) (st' := [.ref 42, .ref 43]) rfl (fun _ => rfl) ?_
    refine pw_getI I E (c := 26) (k := 4) (pc' := 17) rfl rfl rfl rfl rfl rfl (fun hf4a hf4b hf4c hf4d => ?_)
    refine pw_ld E (pc' := 18) (st' := [pw_i x, pw_i (pw_g h 26 4), .ref 43]) rfl (fun _ => rfl) ?_
    refine pw_ast0 I E (c := 27) (pc' := 19) rfl rfl rfl (by decide) rfl (by decide) (by omega) (by omega) rfl (by omega) (by omega) (by omega) (by omega) rfl ?_
    intro h5I h5E
    have h5x : pw_g (pw_w h 27 ((pw_g h 26 4).toNat) (pw_i x)) 27 ((pw_g h 26 4).toNat) = x := pw_g_eqA I rfl (by omega) (by omega) (by omega)
    generalize h5w : pw_w h 27 ((pw_g h 26 4).toNat) (pw_i x) = h5 at h5I h5E h5x ⊢
    have h5F := E0.tr (h5E.wk (W' := [26, 27]) (by first | rfl | simp))
    refine pw_ld E (pc' := 20) (st' := [.ref 42]) rfl (fun _ => rfl) ?_
    refine pw_ld E (pc' := 21) (st' := [.ref 42, .ref 42]) rfl (fun _ => rfl) ?_
    have he7 : ∀ k, pw_g h5 26 k = pw_g h 26 k := fun k => by rw [← h5w]; exact pw_g_ne (by omega)
    have he7' := he7 4
    have hw5 : ∀ j, j < (pw_g h 26 4).toNat → pw_g h5 27 j = pw_g h 27 j := fun j hj => by rw [← h5w]; exact pw_g_ne (by omega)
    refine pw_getI h5I E (c := 26) (k := 4) (pc' := 24) rfl rfl rfl rfl rfl rfl (fun hf6a hf6b hf6c hf6d => ?_)
    refine pw_ld E (pc' := 25) (st' := [pw_i 1, pw_i (pw_g h5 26 4), .ref 42]) rfl (fun _ => rfl) ?_
    refine pw_add E (pc' := 26) rfl rfl ?_
    refine pw_putI h5I E (c := 26) (k := 4) (pc' := 29) rfl rfl rfl rfl (by omega) (by omega) (by omega) (by omega) rfl rfl ?_
    intro h8I h8E
    generalize h8w : pw_w h5 26 4 (pw_i ((pw_g h5 26 4) + 1)) = h8 at h8I h8E ⊢
    have h8F := h5F.tr (h8E.wk (W' := [26, 27]) (by first | rfl | simp))
    have he9 : pw_g h8 26 4 = (pw_g h5 26 4) + 1 := by rw [← h8w]; exact pw_g_eq (c := 26) (k := 4) h5I rfl rfl (by omega) (by omega)
    have he8 : ∀ k, k ≠ 4 → pw_g h8 26 k = pw_g h 26 k := fun k hk => by rw [← he7 k, ← h8w]; exact pw_g_ne (by omega)
    have hw8 : ∀ j, pw_g h8 27 j = pw_g h5 27 j := fun j => by rw [← h8w]; exact pw_g_ne (by omega)
    refine pw_vret E rfl ?_
    refine ⟨h8I, h8F, ⟨?_, by omega, he8⟩, rfl⟩
    have JP := pw_Jw.push (w' := fun j => pw_g h8 27 j) (x := x) J (fun j hj => by show pw_g h8 27 j = pw_g h 27 j; rw [hw8, hw5 j hj]) (by show pw_g h8 27 _ = x; rw [hw8, h5x]) hx1 hx2 (by
      rcases hr with hr | hr
      · exact Or.inl hr
      · exact Or.inr fun k hk => by rw [pw_tr1 (k := k) (by omega)] at hr; exact hr) hdp
    unfold pw_J
    rw [show (pw_g h8 26 4).toNat = (pw_g h 26 4).toNat + 1 by omega]
    exact JP
set_option maxHeartbeats 4000000 in
theorem cm_53_26 {X : List (Nat × List Value)} {d : Nat} {h : pm_H} (hd : 1 ≤ d) (I : pw_I h) (hR : pw_Xr X) : pw X d h 53 0 [some (.ref 42)] [] (fun h' v => h = h' ∧ v = .inl (some (pw_i (pw_tr 26 27 h)))) := by
  have E : pm_ent 53 = some (1, 1, 5, 0, pmc_53) := rfl
  refine pw_ld E (pc' := 1) (st' := [.ref 42]) rfl (fun _ => rfl) ?_
  refine pw_getI I E (c := 26) (k := 4) (pc' := 4) rfl rfl rfl rfl rfl rfl (fun hf1a hf1b hf1c hf1d => ?_)
  refine pw_if E (pc' := 25) rfl (by decide) (by omega) (by omega) ?_ ?_
  · intro hc2
    have hc2 : pw_g h 26 4 ≤ (0 : Int) := hc2
    refine pw_ld E (pc' := 26) (st' := [pw_i 0]) rfl (fun _ => rfl) ?_
    refine pw_iret E rfl ?_
    rw [pw_tr0 hc2]
    exact ⟨rfl, rfl⟩
  · intro hc3
    have hc3 : ¬ (pw_g h 26 4 ≤ (0 : Int)) := hc3
    refine pw_ld E (pc' := 10) (st' := [.ref 3]) rfl (fun _ => rfl) ?_
    refine pw_ld E (pc' := 11) (st' := [.ref 42, .ref 3]) rfl (fun _ => rfl) ?_
    refine pw_getR (b := 43) I E (c := 26) (k := 3) (pc' := 14) rfl rfl rfl rfl rfl rfl rfl ?_
    refine pw_ld E (pc' := 15) (st' := [.ref 42, .ref 43, .ref 3]) rfl (fun _ => rfl) ?_
    refine pw_getI I E (c := 26) (k := 4) (pc' := 18) rfl rfl rfl rfl rfl rfl (fun hf4a hf4b hf4c hf4d => ?_)
    refine pw_ld E (pc' := 19) (st' := [pw_i 1, pw_i (pw_g h 26 4), .ref 43, .ref 3]) rfl (fun _ => rfl) ?_
    refine pw_sub E (pc' := 20) rfl rfl ?_
    refine pw_ald I E (c := 27) (pc' := 21) rfl rfl rfl (by decide) rfl (by decide) (by omega) (by omega) rfl (fun hf5a hf5b hf5c hf5d => ?_)
    refine pw_xaldR E (pc' := 22) rfl hR (by omega) (by omega) rfl ?_
    refine pw_goto E (pc' := 26) rfl (by decide) ?_
    refine pw_iret E rfl ?_
    refine ⟨rfl, ?_⟩
    unfold pw_tr
    rw [if_neg hc3]
set_option maxHeartbeats 4000000 in
theorem cm_52_26 {X : List (Nat × List Value)} {d : Nat} (hd : 2 ≤ d) (hR : pw_Xr X) (rk : Int) (hk1 : 1 ≤ rk) (hk2 : rk ≤ 4) {dp op : Int} : ∀ (n : Nat) {h : pm_H} (_ : pw_I h) (_ : (pw_g h 26 4).toNat = n) (_ : pw_J 26 27 h dp op), pw X d h 52 0 [some (.ref 42), some (pw_i rk), some (.ref 46)] [] (fun h' v => pw_I h' ∧ pw_E [26, 30, 33, 36] h h' ∧ (pw_J 26 27 h' dp op ∧ pw_tr 26 27 h' < rk ∧ pw_g h' 30 1 + pw_g h' 26 4 ≤ pw_g h 30 1 + pw_g h 26 4 ∧ (∀ k, k ≠ 4 → pw_g h' 26 k = pw_g h 26 k)) ∧ (v = .inl none)) := by
  intro n
  induction n using Nat.strongRecOn with
  | ind n ih =>
    intro h I hn J
    have E : pm_ent 52 = some (3, 3, 5, 4, pmc_52) := rfl
    have E0 : pw_E [26, 30, 33, 36] h h := pw_E.rf _ _
    refine pw_ld E (pc' := 1) (st' := [.ref 42]) rfl (fun _ => rfl) ?_
    refine pw_getI I E (c := 26) (k := 4) (pc' := 4) rfl rfl rfl rfl rfl rfl (fun hf1a hf1b hf1c hf1d => ?_)
    refine pw_if E (pc' := 48) rfl (by decide) (by omega) (by omega) ?_ ?_
    · intro hc2
      have hc2 : pw_g h 26 4 ≤ (0 : Int) := hc2
      refine pw_vret E rfl ?_
      exact ⟨I, E0, ⟨J, by rw [pw_tr0 hc2]; omega, by omega, fun _ _ => rfl⟩, rfl⟩
    · intro hc3
      have hc3 : ¬ (pw_g h 26 4 ≤ (0 : Int)) := hc3
      refine pw_ld E (pc' := 8) (st' := [.ref 42]) rfl (fun _ => rfl) ?_
      obtain ⟨f1l, f1h, -⟩ := pw_obj (c := 26) I rfl
      refine pw_call (m' := 53) (As := [.ref 42]) (rest := []) (ls'' := [some (.ref 42)]) (by omega) E rfl (fun _ => pw_iV rfl rfl rfl rfl (pw_cellI f1h rfl)) (rfl : pm_ent 53 = some (1, 1, 5, 0, pmc_53)) rfl rfl (cm_53_26 (by omega) I hR) ?_
      rintro u3 v2 ⟨rfl, rfl⟩
      refine ⟨_, rfl, ?_⟩
      show pw X d h 52 11 [some (.ref 42), some (pw_i rk), some (.ref 46)] [pw_i (pw_tr 26 27 h)] _
      obtain ⟨k, hk⟩ : ∃ k : Nat, pw_g h 26 4 = (k : Int) + 1 := ⟨(pw_g h 26 4 - 1).toNat, by omega⟩
      have ht := pw_tr1 (c1 := 27) hk
      have ht2 := pw_rk_le (pw_g h 27 k)
      refine pw_ld E (pc' := 12) (st' := [pw_i rk, pw_i (pw_tr 26 27 h)]) rfl (fun _ => rfl) ?_
      refine pw_if2 E (pc' := 48) rfl (by decide) (by omega) (by omega) (by omega) (by omega) ?_ ?_
      · intro hc4
        have hc4 : pw_tr 26 27 h < rk := hc4
        refine pw_vret E rfl ?_
        exact ⟨I, E0, ⟨J, hc4, by omega, fun _ _ => rfl⟩, rfl⟩
      · intro hc5
        have hc5 : ¬ (pw_tr 26 27 h < rk) := hc5
        refine pw_ld E (pc' := 16) (st' := [.ref 46]) rfl (fun _ => rfl) ?_
        refine pw_ld E (pc' := 17) (st' := [.ref 42, .ref 46]) rfl (fun _ => rfl) ?_
        refine pw_getI I E (c := 26) (k := 8) (pc' := 20) rfl rfl rfl rfl rfl rfl (fun hf6a hf6b hf6c hf6d => ?_)
        refine pw_ld E (pc' := 21) (st' := [.ref 42, pw_i (pw_g h 26 8), .ref 46]) rfl (fun _ => rfl) ?_
        refine pw_getR (b := 43) I E (c := 26) (k := 3) (pc' := 24) rfl rfl rfl rfl rfl rfl rfl ?_
        refine pw_ld E (pc' := 25) (st' := [.ref 42, .ref 43, pw_i (pw_g h 26 8), .ref 46]) rfl (fun _ => rfl) ?_
        refine pw_getI I E (c := 26) (k := 4) (pc' := 28) rfl rfl rfl rfl rfl rfl (fun hf7a hf7b hf7c hf7d => ?_)
        refine pw_ld E (pc' := 29) (st' := [pw_i 1, pw_i (pw_g h 26 4), .ref 43, pw_i (pw_g h 26 8), .ref 46]) rfl (fun _ => rfl) ?_
        refine pw_sub E (pc' := 30) rfl rfl ?_
        refine pw_ald I E (c := 27) (pc' := 31) rfl rfl rfl (by decide) rfl (by decide) (by omega) (by omega) rfl (fun hf8a hf8b hf8c hf8d => ?_)
        refine pw_ineg E (pc' := 32) rfl rfl ?_
        obtain ⟨f9l, f9h, -⟩ := pw_obj (c := 30) I rfl
        refine pw_call (m' := 71) (As := [.ref 46, pw_i (pw_g h 26 8), pw_i (-(pw_g h 27 (pw_g h 26 4 - 1).toNat))]) (rest := []) (ls'' := [some (.ref 46), some (pw_i (pw_g h 26 8)), some (pw_i (-(pw_g h 27 (pw_g h 26 4 - 1).toNat)))]) (by omega) E rfl (fun _ => pw_iV rfl rfl rfl rfl (pw_cellI f9h rfl)) (rfl : pm_ent 71 = some (3, 3, 7, 4, pmc_71)) rfl rfl (cm_71_30 (by omega) I _ (by omega) (by omega) _ (by omega) (by omega)) ?_
        rintro h1 v3 ⟨h1I, h1E, h1p, rfl⟩
        refine ⟨_, rfl, ?_⟩
        show pw X d h1 52 35 [some (.ref 42), some (pw_i rk), some (.ref 46)] [] _
        have h1F := E0.tr (h1E.wk (W' := [26, 30, 33, 36]) (by first | rfl | simp))
        have he1 : ∀ k, pw_g h1 26 k = pw_g h 26 k := fun k => pw_Eg (c := 26) I h1E rfl rfl k
        have hw1 : ∀ j, pw_g h1 27 j = pw_g h 27 j := fun k => pw_Eg (c := 27) I h1E rfl rfl k
        have he14 := he1 4
        refine pw_ld E (pc' := 36) (st' := [.ref 42]) rfl (fun _ => rfl) ?_
        refine pw_ld E (pc' := 37) (st' := [.ref 42, .ref 42]) rfl (fun _ => rfl) ?_
        refine pw_getI h1I E (c := 26) (k := 4) (pc' := 40) rfl rfl rfl rfl rfl rfl (fun hf9a hf9b hf9c hf9d => ?_)
        refine pw_ld E (pc' := 41) (st' := [pw_i 1, pw_i (pw_g h1 26 4), .ref 42]) rfl (fun _ => rfl) ?_
        refine pw_sub E (pc' := 42) rfl rfl ?_
        refine pw_putI h1I E (c := 26) (k := 4) (pc' := 45) rfl rfl rfl rfl (by omega) (by omega) (by omega) (by omega) rfl rfl ?_
        intro h2I h2E
        generalize h2w : pw_w h1 26 4 (pw_i ((pw_g h1 26 4) - 1)) = h2 at h2I h2E ⊢
        have h2F := h1F.tr (h2E.wk (W' := [26, 30, 33, 36]) (by first | rfl | simp))
        have he2 : pw_g h2 26 4 = (pw_g h1 26 4) - 1 := by rw [← h2w]; exact pw_g_eq (c := 26) (k := 4) h1I rfl rfl (by omega) (by omega)
        have he3 : ∀ k, k ≠ 4 → pw_g h2 26 k = pw_g h 26 k := fun k hk => by rw [← he1 k, ← h2w]; exact pw_g_ne (by omega)
        have hw2 : ∀ j, pw_g h2 27 j = pw_g h 27 j := fun j => by rw [← hw1 j, ← h2w]; exact pw_g_ne (by omega)
        have he4 : pw_g h2 30 1 = pw_g h1 30 1 := by rw [← h2w]; exact pw_g_ne (by omega)
        refine pw_goto E (pc' := 0) rfl (by decide) ?_
        have hJ := pw_Jk J hk
        have hlt : pw_g h 27 k < 8 := by
          by_cases h8 : 8 ≤ pw_g h 27 k
          · rw [pw_rk8 h8] at ht; omega
          · omega
        have J2 : pw_J 26 27 h2 dp op := pw_Jof (hJ.pop.1 hlt) hw2 (by omega)
        refine pw_mono (ih (pw_g h2 26 4).toNat (by omega) h2I rfl J2) ?_
        rintro h3 v4 ⟨q1, q2, ⟨q3, q4, q5, q6⟩, q7⟩
        exact ⟨q1, h2F.tr q2, ⟨q3, q4, by omega, fun k hk => by rw [q6 k hk, he3 k hk]⟩, q7⟩
set_option maxHeartbeats 4000000 in
theorem cm_49_26 {X : List (Nat × List Value)} {d : Nat} (hd : 2 ≤ d) : ∀ (n : Nat) {h : pm_H} (_ : pw_I h) (_ : (pw_g h 26 4).toNat = n) (_ : pw_J 26 27 h (pw_g h 26 5) (pw_g h 26 6)) (_ : 0 ≤ pw_g h 26 6), pw X d h 49 0 [some (.ref 42), some (.ref 46)] [] (fun h' v => pw_I h' ∧ pw_E [26, 30, 33, 36] h h' ∧ (pw_J 26 27 h' (pw_g h' 26 5) (pw_g h' 26 6) ∧ pw_g h' 30 1 + pw_g h' 26 4 ≤ pw_g h 30 1 + pw_g h 26 4 ∧ pw_g h' 26 7 = 3 ∧ pw_g h' 26 6 = pw_g h 26 6 ∧ pw_g h' 26 8 = pw_g h 26 8) ∧ (v = .inl none)) := by
  intro n
  induction n using Nat.strongRecOn with
  | ind n ih =>
    intro h I hn J ho
    have E : pm_ent 49 = some (2, 2, 5, 4, pmc_49) := rfl
    have E0 : pw_E [26, 30, 33, 36] h h := pw_E.rf _ _
    have FIN : pw X d h 49 56 [some (.ref 42), some (.ref 46)] [] (fun h' v => pw_I h' ∧ pw_E [26, 30, 33, 36] h h' ∧ (pw_J 26 27 h' (pw_g h' 26 5) (pw_g h' 26 6) ∧ pw_g h' 30 1 + pw_g h' 26 4 ≤ pw_g h 30 1 + pw_g h 26 4 ∧ pw_g h' 26 7 = 3 ∧ pw_g h' 26 6 = pw_g h 26 6 ∧ pw_g h' 26 8 = pw_g h 26 8) ∧ (v = .inl none)) := by
      refine pw_ld E (pc' := 57) (st' := [.ref 42]) rfl (fun _ => rfl) ?_
      refine pw_ld E (pc' := 58) (st' := [pw_i 3, .ref 42]) rfl (fun _ => rfl) ?_
      refine pw_putI I E (c := 26) (k := 7) (pc' := 61) rfl rfl rfl rfl (by decide) (by decide) (by decide) (by decide) rfl rfl ?_
      intro h2I h2E
      generalize h2w : pw_w h 26 7 (pw_i 3) = h2 at h2I h2E ⊢
      have h2F := E0.tr (h2E.wk (W' := [26, 30, 33, 36]) (by first | rfl | simp))
      have he2 : pw_g h2 26 7 = 3 := by rw [← h2w]; exact pw_g_eq (c := 26) (k := 7) I rfl rfl (by omega) (by omega)
      have he3 : ∀ k, k ≠ 7 → pw_g h2 26 k = pw_g h 26 k := fun k hk => by rw [← h2w]; exact pw_g_ne (by omega)
      have hw2 : ∀ j, pw_g h2 27 j = pw_g h 27 j := fun j => by rw [← h2w]; exact pw_g_ne (by omega)
      have he4 : pw_g h2 30 1 = pw_g h 30 1 := by rw [← h2w]; exact pw_g_ne (by omega)
      refine pw_vret E rfl ?_
      refine ⟨h2I, h2F, ⟨?_, ?_, he2, he3 6 (by decide), he3 8 (by decide)⟩, rfl⟩
      · rw [he3 5 (by decide), he3 6 (by decide)]
        exact pw_Jof (h := h) J hw2 (by rw [he3 4 (by decide)])
      · rw [he4, he3 4 (by decide)]
        exact Int.le_refl _
    refine pw_ld E (pc' := 1) (st' := [.ref 42]) rfl (fun _ => rfl) ?_
    refine pw_getI I E (c := 26) (k := 4) (pc' := 4) rfl rfl rfl rfl rfl rfl (fun hf1a hf1b hf1c hf1d => ?_)
    refine pw_if E (pc' := 56) rfl (by decide) (by omega) (by omega) ?_ ?_
    · intro _
      exact FIN
    · intro hc3
      have hc3 : ¬ (pw_g h 26 4 ≤ (0 : Int)) := hc3
      obtain ⟨k, hk⟩ : ∃ k : Nat, pw_g h 26 4 = (k : Int) + 1 := ⟨(pw_g h 26 4 - 1).toNat, by omega⟩
      have hk2 : (pw_g h 26 4 - 1).toNat = k := by omega
      refine pw_ld E (pc' := 8) (st' := [.ref 42]) rfl (fun _ => rfl) ?_
      refine pw_getR (b := 43) I E (c := 26) (k := 3) (pc' := 11) rfl rfl rfl rfl rfl rfl rfl ?_
      refine pw_ld E (pc' := 12) (st' := [.ref 42, .ref 43]) rfl (fun _ => rfl) ?_
      refine pw_getI I E (c := 26) (k := 4) (pc' := 15) rfl rfl rfl rfl rfl rfl (fun hf7a hf7b hf7c hf7d => ?_)
      refine pw_ld E (pc' := 16) (st' := [pw_i 1, pw_i (pw_g h 26 4), .ref 43]) rfl (fun _ => rfl) ?_
      refine pw_sub E (pc' := 17) rfl rfl ?_
      refine pw_ald I E (c := 27) (pc' := 18) rfl rfl rfl (by decide) rfl (by decide) (by omega) (by omega) rfl (fun hf8a hf8b hf8c hf8d => ?_)
      refine pw_bip E (pc' := 20) rfl rfl (by decide) ?_
      refine pw_if2 E (pc' := 56) rfl (by decide) (by omega) (by omega) (by decide) (by decide) ?_ ?_
      · intro _
        exact FIN
      · intro hc5
        have hc5 : ¬ (pw_g h 27 (pw_g h 26 4 - 1).toNat ≠ 8) := hc5
        have h8 : pw_g h 27 k = 8 := by
          rw [hk2] at hc5
          omega
        refine pw_ld E (pc' := 24) (st' := [.ref 46]) rfl (fun _ => rfl) ?_
        refine pw_ld E (pc' := 25) (st' := [.ref 42, .ref 46]) rfl (fun _ => rfl) ?_
        refine pw_getI I E (c := 26) (k := 8) (pc' := 28) rfl rfl rfl rfl rfl rfl (fun hf6a hf6b hf6c hf6d => ?_)
        refine pw_bip E (pc' := 30) rfl rfl (by decide) ?_
        obtain ⟨f9l, f9h, -⟩ := pw_obj (c := 30) I rfl
        refine pw_call (m' := 71) (As := [.ref 46, pw_i (pw_g h 26 8), pw_i (-8)]) (rest := []) (ls'' := [some (.ref 46), some (pw_i (pw_g h 26 8)), some (pw_i (-8))]) (by omega) E rfl (fun _ => pw_iV rfl rfl rfl rfl (pw_cellI f9h rfl)) (rfl : pm_ent 71 = some (3, 3, 7, 4, pmc_71)) rfl rfl (cm_71_30 (by omega) I _ (by omega) (by omega) _ (by omega) (by omega)) ?_
        rintro h1 v3 ⟨h1I, h1E, h1p, rfl⟩
        refine ⟨_, rfl, ?_⟩
        show pw X d h1 49 33 [some (.ref 42), some (.ref 46)] [] _
        have h1F := E0.tr (h1E.wk (W' := [26, 30, 33, 36]) (by first | rfl | simp))
        have he1 : ∀ k, pw_g h1 26 k = pw_g h 26 k := fun k => pw_Eg (c := 26) I h1E rfl rfl k
        have hw1 : ∀ j, pw_g h1 27 j = pw_g h 27 j := fun k => pw_Eg (c := 27) I h1E rfl rfl k
        have he14 := he1 4
        refine pw_ld E (pc' := 34) (st' := [.ref 42]) rfl (fun _ => rfl) ?_
        refine pw_ld E (pc' := 35) (st' := [.ref 42, .ref 42]) rfl (fun _ => rfl) ?_
        refine pw_getI h1I E (c := 26) (k := 4) (pc' := 38) rfl rfl rfl rfl rfl rfl (fun hf9a hf9b hf9c hf9d => ?_)
        refine pw_ld E (pc' := 39) (st' := [pw_i 1, pw_i (pw_g h1 26 4), .ref 42]) rfl (fun _ => rfl) ?_
        refine pw_sub E (pc' := 40) rfl rfl ?_
        refine pw_putI h1I E (c := 26) (k := 4) (pc' := 43) rfl rfl rfl rfl (by omega) (by omega) (by omega) (by omega) rfl rfl ?_
        intro h2I h2E
        generalize h2w : pw_w h1 26 4 (pw_i ((pw_g h1 26 4) - 1)) = h2 at h2I h2E ⊢
        have h2F := h1F.tr (h2E.wk (W' := [26, 30, 33, 36]) (by first | rfl | simp))
        have he2 : pw_g h2 26 4 = (pw_g h1 26 4) - 1 := by rw [← h2w]; exact pw_g_eq (c := 26) (k := 4) h1I rfl rfl (by omega) (by omega)
        have he3 : ∀ k, k ≠ 4 → pw_g h2 26 k = pw_g h 26 k := fun k hk => by rw [← he1 k, ← h2w]; exact pw_g_ne (by omega)
        have hw2 : ∀ j, pw_g h2 27 j = pw_g h 27 j := fun j => by rw [← hw1 j, ← h2w]; exact pw_g_ne (by omega)
        have he4 : pw_g h2 30 1 = pw_g h1 30 1 := by rw [← h2w]; exact pw_g_ne (by omega)
        have he25 := he3 5 (by decide)
        have hJ := pw_Jk J hk
        have hJ2 := hJ.pop.2.1 h8
        have hdp : 1 ≤ pw_g h 26 5 ∧ pw_g h 26 5 ≤ 5 := by
          have z1 := hJ2.2.2.1
          have z2 := hJ.2.2.2.2
          omega
        refine pw_ld E (pc' := 44) (st' := [.ref 42]) rfl (fun _ => rfl) ?_
        refine pw_ld E (pc' := 45) (st' := [.ref 42, .ref 42]) rfl (fun _ => rfl) ?_
        refine pw_getI h2I E (c := 26) (k := 5) (pc' := 48) rfl rfl rfl rfl rfl rfl (fun hg9a hg9b hg9c hg9d => ?_)
        refine pw_ld E (pc' := 49) (st' := [pw_i 1, pw_i (pw_g h2 26 5), .ref 42]) rfl (fun _ => rfl) ?_
        refine pw_sub E (pc' := 50) rfl rfl ?_
        refine pw_putI h2I E (c := 26) (k := 5) (pc' := 53) rfl rfl rfl rfl (by omega) (by omega) (by omega) (by omega) rfl rfl ?_
        intro h3I h3E
        generalize h3w : pw_w h2 26 5 (pw_i ((pw_g h2 26 5) - 1)) = h3 at h3I h3E ⊢
        have h3F := h2F.tr (h3E.wk (W' := [26, 30, 33, 36]) (by first | rfl | simp))
        have hb2 : pw_g h3 26 5 = (pw_g h2 26 5) - 1 := by rw [← h3w]; exact pw_g_eq (c := 26) (k := 5) h2I rfl rfl (by omega) (by omega)
        have hb3 : ∀ k, k ≠ 5 → pw_g h3 26 k = pw_g h2 26 k := fun k hk => by rw [← h3w]; exact pw_g_ne (by omega)
        have hv2 : ∀ j, pw_g h3 27 j = pw_g h 27 j := fun j => by rw [← hw2 j, ← h3w]; exact pw_g_ne (by omega)
        have hb4 : pw_g h3 30 1 = pw_g h2 30 1 := by rw [← h3w]; exact pw_g_ne (by omega)
        have hb34 := hb3 4 (by decide)
        have hb36 := hb3 6 (by decide)
        have hb38 := hb3 8 (by decide)
        have he36 := he3 6 (by decide)
        have he38 := he3 8 (by decide)
        refine pw_goto E (pc' := 0) rfl (by decide) ?_
        have J3 : pw_J 26 27 h3 (pw_g h3 26 5) (pw_g h3 26 6) := by
          rw [hb2, he25, hb36, he36]
          exact pw_Jof hJ2 hv2 (by omega)
        refine pw_mono (ih (pw_g h3 26 4).toNat (by omega) h3I rfl J3 (by omega)) ?_
        rintro h4 v4 ⟨q1, q2, ⟨q3, q4, q5, q6, q8⟩, q7⟩
        exact ⟨q1, h3F.tr q2, ⟨q3, by omega, q5, by omega, by omega⟩, q7⟩
set_option maxHeartbeats 4000000 in
theorem cm_48_28 {X : List (Nat × List Value)} {d : Nat} {h : pm_H} (hd : 1 ≤ d) (I : pw_I h) (x : Int) (hx1 : 1 ≤ x) (hx2 : x ≤ 9) {dp op : Int} (J : pw_J 28 29 h dp op) (hr : 8 ≤ x ∨ pw_tr 28 29 h < pw_rk x) (hdp : 8 ≤ x → dp ≤ 4) : pw X d h 48 0 [some (.ref 44), some (pw_i x)] [] (fun h' v => pw_I h' ∧ pw_E [28, 29] h h' ∧ (pw_J 28 29 h' (dp + if 8 ≤ x then 1 else 0) (op + if x = 9 then 1 else 0) ∧ pw_g h' 28 4 = pw_g h 28 4 + 1 ∧ (∀ k, k ≠ 4 → pw_g h' 28 k = pw_g h 28 k)) ∧ (v = .inl none)) := by
  have E : pm_ent 48 = some (2, 2, 5, 4, pmc_48) := rfl
  have E0 : pw_E [28, 29] h h := pw_E.rf _ _
  have hJ := J.le
  refine pw_ld E (pc' := 1) (st' := [.ref 44]) rfl (fun _ => rfl) ?_
  refine pw_getI I E (c := 28) (k := 4) (pc' := 4) rfl rfl rfl rfl rfl rfl (fun hf1a hf1b hf1c hf1d => ?_)
  refine pw_bip E (pc' := 6) rfl rfl (by decide) ?_
  refine pw_if2 E (pc' := 29) rfl (by decide) (by omega) (by omega) (by decide) (by decide) ?_ ?_
  · intro hc2
    have hc2 : (40 : Int) ≤ pw_g h 28 4 := hc2
    exfalso; omega
  · intro hc3
    have hc3 : ¬ ((40 : Int) ≤ pw_g h 28 4) := hc3
    refine pw_ld E (pc' := 10) (st' := [.ref 44]) rfl (fun _ => rfl) ?_
    refine pw_getR (b := 45) I E (c := 28) (k := 3) (pc' := 13) rfl rfl rfl rfl rfl rfl rfl ?_
    refine pw_ld E (pc' := 14) (st' := [.ref 44, .ref 45]) rfl (fun _ => rfl) ?_
    refine pw_getI I E (c := 28) (k := 4) (pc' := 17) rfl rfl rfl rfl rfl rfl (fun hf4a hf4b hf4c hf4d => ?_)
    refine pw_ld E (pc' := 18) (st' := [pw_i x, pw_i (pw_g h 28 4), .ref 45]) rfl (fun _ => rfl) ?_
    refine pw_ast0 I E (c := 29) (pc' := 19) rfl rfl rfl (by decide) rfl (by decide) (by omega) (by omega) rfl (by omega) (by omega) (by omega) (by omega) rfl ?_
    intro h5I h5E
    have h5x : pw_g (pw_w h 29 ((pw_g h 28 4).toNat) (pw_i x)) 29 ((pw_g h 28 4).toNat) = x := pw_g_eqA I rfl (by omega) (by omega) (by omega)
    generalize h5w : pw_w h 29 ((pw_g h 28 4).toNat) (pw_i x) = h5 at h5I h5E h5x ⊢
    have h5F := E0.tr (h5E.wk (W' := [28, 29]) (by first | rfl | simp))
    refine pw_ld E (pc' := 20) (st' := [.ref 44]) rfl (fun _ => rfl) ?_
    refine pw_ld E (pc' := 21) (st' := [.ref 44, .ref 44]) rfl (fun _ => rfl) ?_
    have he7 : ∀ k, pw_g h5 28 k = pw_g h 28 k := fun k => by rw [← h5w]; exact pw_g_ne (by omega)
    have he7' := he7 4
    have hw5 : ∀ j, j < (pw_g h 28 4).toNat → pw_g h5 29 j = pw_g h 29 j := fun j hj => by rw [← h5w]; exact pw_g_ne (by omega)
    refine pw_getI h5I E (c := 28) (k := 4) (pc' := 24) rfl rfl rfl rfl rfl rfl (fun hf6a hf6b hf6c hf6d => ?_)
    refine pw_ld E (pc' := 25) (st' := [pw_i 1, pw_i (pw_g h5 28 4), .ref 44]) rfl (fun _ => rfl) ?_
    refine pw_add E (pc' := 26) rfl rfl ?_
    refine pw_putI h5I E (c := 28) (k := 4) (pc' := 29) rfl rfl rfl rfl (by omega) (by omega) (by omega) (by omega) rfl rfl ?_
    intro h8I h8E
    generalize h8w : pw_w h5 28 4 (pw_i ((pw_g h5 28 4) + 1)) = h8 at h8I h8E ⊢
    have h8F := h5F.tr (h8E.wk (W' := [28, 29]) (by first | rfl | simp))
    have he9 : pw_g h8 28 4 = (pw_g h5 28 4) + 1 := by rw [← h8w]; exact pw_g_eq (c := 28) (k := 4) h5I rfl rfl (by omega) (by omega)
    have he8 : ∀ k, k ≠ 4 → pw_g h8 28 k = pw_g h 28 k := fun k hk => by rw [← he7 k, ← h8w]; exact pw_g_ne (by omega)
    have hw8 : ∀ j, pw_g h8 29 j = pw_g h5 29 j := fun j => by rw [← h8w]; exact pw_g_ne (by omega)
    refine pw_vret E rfl ?_
    refine ⟨h8I, h8F, ⟨?_, by omega, he8⟩, rfl⟩
    have JP := pw_Jw.push (w' := fun j => pw_g h8 29 j) (x := x) J (fun j hj => by show pw_g h8 29 j = pw_g h 29 j; rw [hw8, hw5 j hj]) (by show pw_g h8 29 _ = x; rw [hw8, h5x]) hx1 hx2 (by
      rcases hr with hr | hr
      · exact Or.inl hr
      · exact Or.inr fun k hk => by rw [pw_tr1 (k := k) (by omega)] at hr; exact hr) hdp
    unfold pw_J
    rw [show (pw_g h8 28 4).toNat = (pw_g h 28 4).toNat + 1 by omega]
    exact JP
set_option maxHeartbeats 4000000 in
theorem cm_53_28 {X : List (Nat × List Value)} {d : Nat} {h : pm_H} (hd : 1 ≤ d) (I : pw_I h) (hR : pw_Xr X) : pw X d h 53 0 [some (.ref 44)] [] (fun h' v => h = h' ∧ v = .inl (some (pw_i (pw_tr 28 29 h)))) := by
  have E : pm_ent 53 = some (1, 1, 5, 0, pmc_53) := rfl
  refine pw_ld E (pc' := 1) (st' := [.ref 44]) rfl (fun _ => rfl) ?_
  refine pw_getI I E (c := 28) (k := 4) (pc' := 4) rfl rfl rfl rfl rfl rfl (fun hf1a hf1b hf1c hf1d => ?_)
  refine pw_if E (pc' := 25) rfl (by decide) (by omega) (by omega) ?_ ?_
  · intro hc2
    have hc2 : pw_g h 28 4 ≤ (0 : Int) := hc2
    refine pw_ld E (pc' := 26) (st' := [pw_i 0]) rfl (fun _ => rfl) ?_
    refine pw_iret E rfl ?_
    rw [pw_tr0 hc2]
    exact ⟨rfl, rfl⟩
  · intro hc3
    have hc3 : ¬ (pw_g h 28 4 ≤ (0 : Int)) := hc3
    refine pw_ld E (pc' := 10) (st' := [.ref 3]) rfl (fun _ => rfl) ?_
    refine pw_ld E (pc' := 11) (st' := [.ref 44, .ref 3]) rfl (fun _ => rfl) ?_
    refine pw_getR (b := 45) I E (c := 28) (k := 3) (pc' := 14) rfl rfl rfl rfl rfl rfl rfl ?_
    refine pw_ld E (pc' := 15) (st' := [.ref 44, .ref 45, .ref 3]) rfl (fun _ => rfl) ?_
    refine pw_getI I E (c := 28) (k := 4) (pc' := 18) rfl rfl rfl rfl rfl rfl (fun hf4a hf4b hf4c hf4d => ?_)
    refine pw_ld E (pc' := 19) (st' := [pw_i 1, pw_i (pw_g h 28 4), .ref 45, .ref 3]) rfl (fun _ => rfl) ?_
    refine pw_sub E (pc' := 20) rfl rfl ?_
    refine pw_ald I E (c := 29) (pc' := 21) rfl rfl rfl (by decide) rfl (by decide) (by omega) (by omega) rfl (fun hf5a hf5b hf5c hf5d => ?_)
    refine pw_xaldR E (pc' := 22) rfl hR (by omega) (by omega) rfl ?_
    refine pw_goto E (pc' := 26) rfl (by decide) ?_
    refine pw_iret E rfl ?_
    refine ⟨rfl, ?_⟩
    unfold pw_tr
    rw [if_neg hc3]
set_option maxHeartbeats 4000000 in
theorem cm_52_28 {X : List (Nat × List Value)} {d : Nat} (hd : 2 ≤ d) (hR : pw_Xr X) (rk : Int) (hk1 : 1 ≤ rk) (hk2 : rk ≤ 4) {dp op : Int} : ∀ (n : Nat) {h : pm_H} (_ : pw_I h) (_ : (pw_g h 28 4).toNat = n) (_ : pw_J 28 29 h dp op), pw X d h 52 0 [some (.ref 44), some (pw_i rk), some (.ref 46)] [] (fun h' v => pw_I h' ∧ pw_E [28, 30, 33, 36] h h' ∧ (pw_J 28 29 h' dp op ∧ pw_tr 28 29 h' < rk ∧ pw_g h' 30 1 + pw_g h' 28 4 ≤ pw_g h 30 1 + pw_g h 28 4 ∧ (∀ k, k ≠ 4 → pw_g h' 28 k = pw_g h 28 k)) ∧ (v = .inl none)) := by
  intro n
  induction n using Nat.strongRecOn with
  | ind n ih =>
    intro h I hn J
    have E : pm_ent 52 = some (3, 3, 5, 4, pmc_52) := rfl
    have E0 : pw_E [28, 30, 33, 36] h h := pw_E.rf _ _
    refine pw_ld E (pc' := 1) (st' := [.ref 44]) rfl (fun _ => rfl) ?_
    refine pw_getI I E (c := 28) (k := 4) (pc' := 4) rfl rfl rfl rfl rfl rfl (fun hf1a hf1b hf1c hf1d => ?_)
    refine pw_if E (pc' := 48) rfl (by decide) (by omega) (by omega) ?_ ?_
    · intro hc2
      have hc2 : pw_g h 28 4 ≤ (0 : Int) := hc2
      refine pw_vret E rfl ?_
      exact ⟨I, E0, ⟨J, by rw [pw_tr0 hc2]; omega, by omega, fun _ _ => rfl⟩, rfl⟩
    · intro hc3
      have hc3 : ¬ (pw_g h 28 4 ≤ (0 : Int)) := hc3
      refine pw_ld E (pc' := 8) (st' := [.ref 44]) rfl (fun _ => rfl) ?_
      obtain ⟨f1l, f1h, -⟩ := pw_obj (c := 28) I rfl
      refine pw_call (m' := 53) (As := [.ref 44]) (rest := []) (ls'' := [some (.ref 44)]) (by omega) E rfl (fun _ => pw_iV rfl rfl rfl rfl (pw_cellI f1h rfl)) (rfl : pm_ent 53 = some (1, 1, 5, 0, pmc_53)) rfl rfl (cm_53_28 (by omega) I hR) ?_
      rintro u3 v2 ⟨rfl, rfl⟩
      refine ⟨_, rfl, ?_⟩
      show pw X d h 52 11 [some (.ref 44), some (pw_i rk), some (.ref 46)] [pw_i (pw_tr 28 29 h)] _
      obtain ⟨k, hk⟩ : ∃ k : Nat, pw_g h 28 4 = (k : Int) + 1 := ⟨(pw_g h 28 4 - 1).toNat, by omega⟩
      have ht := pw_tr1 (c1 := 29) hk
      have ht2 := pw_rk_le (pw_g h 29 k)
      refine pw_ld E (pc' := 12) (st' := [pw_i rk, pw_i (pw_tr 28 29 h)]) rfl (fun _ => rfl) ?_
      refine pw_if2 E (pc' := 48) rfl (by decide) (by omega) (by omega) (by omega) (by omega) ?_ ?_
      · intro hc4
        have hc4 : pw_tr 28 29 h < rk := hc4
        refine pw_vret E rfl ?_
        exact ⟨I, E0, ⟨J, hc4, by omega, fun _ _ => rfl⟩, rfl⟩
      · intro hc5
        have hc5 : ¬ (pw_tr 28 29 h < rk) := hc5
        refine pw_ld E (pc' := 16) (st' := [.ref 46]) rfl (fun _ => rfl) ?_
        refine pw_ld E (pc' := 17) (st' := [.ref 44, .ref 46]) rfl (fun _ => rfl) ?_
        refine pw_getI I E (c := 28) (k := 8) (pc' := 20) rfl rfl rfl rfl rfl rfl (fun hf6a hf6b hf6c hf6d => ?_)
        refine pw_ld E (pc' := 21) (st' := [.ref 44, pw_i (pw_g h 28 8), .ref 46]) rfl (fun _ => rfl) ?_
        refine pw_getR (b := 45) I E (c := 28) (k := 3) (pc' := 24) rfl rfl rfl rfl rfl rfl rfl ?_
        refine pw_ld E (pc' := 25) (st' := [.ref 44, .ref 45, pw_i (pw_g h 28 8), .ref 46]) rfl (fun _ => rfl) ?_
        refine pw_getI I E (c := 28) (k := 4) (pc' := 28) rfl rfl rfl rfl rfl rfl (fun hf7a hf7b hf7c hf7d => ?_)
        refine pw_ld E (pc' := 29) (st' := [pw_i 1, pw_i (pw_g h 28 4), .ref 45, pw_i (pw_g h 28 8), .ref 46]) rfl (fun _ => rfl) ?_
        refine pw_sub E (pc' := 30) rfl rfl ?_
        refine pw_ald I E (c := 29) (pc' := 31) rfl rfl rfl (by decide) rfl (by decide) (by omega) (by omega) rfl (fun hf8a hf8b hf8c hf8d => ?_)
        refine pw_ineg E (pc' := 32) rfl rfl ?_
        obtain ⟨f9l, f9h, -⟩ := pw_obj (c := 30) I rfl
        refine pw_call (m' := 71) (As := [.ref 46, pw_i (pw_g h 28 8), pw_i (-(pw_g h 29 (pw_g h 28 4 - 1).toNat))]) (rest := []) (ls'' := [some (.ref 46), some (pw_i (pw_g h 28 8)), some (pw_i (-(pw_g h 29 (pw_g h 28 4 - 1).toNat)))]) (by omega) E rfl (fun _ => pw_iV rfl rfl rfl rfl (pw_cellI f9h rfl)) (rfl : pm_ent 71 = some (3, 3, 7, 4, pmc_71)) rfl rfl (cm_71_30 (by omega) I _ (by omega) (by omega) _ (by omega) (by omega)) ?_
        rintro h1 v3 ⟨h1I, h1E, h1p, rfl⟩
        refine ⟨_, rfl, ?_⟩
        show pw X d h1 52 35 [some (.ref 44), some (pw_i rk), some (.ref 46)] [] _
        have h1F := E0.tr (h1E.wk (W' := [28, 30, 33, 36]) (by first | rfl | simp))
        have he1 : ∀ k, pw_g h1 28 k = pw_g h 28 k := fun k => pw_Eg (c := 28) I h1E rfl rfl k
        have hw1 : ∀ j, pw_g h1 29 j = pw_g h 29 j := fun k => pw_Eg (c := 29) I h1E rfl rfl k
        have he14 := he1 4
        refine pw_ld E (pc' := 36) (st' := [.ref 44]) rfl (fun _ => rfl) ?_
        refine pw_ld E (pc' := 37) (st' := [.ref 44, .ref 44]) rfl (fun _ => rfl) ?_
        refine pw_getI h1I E (c := 28) (k := 4) (pc' := 40) rfl rfl rfl rfl rfl rfl (fun hf9a hf9b hf9c hf9d => ?_)
        refine pw_ld E (pc' := 41) (st' := [pw_i 1, pw_i (pw_g h1 28 4), .ref 44]) rfl (fun _ => rfl) ?_
        refine pw_sub E (pc' := 42) rfl rfl ?_
        refine pw_putI h1I E (c := 28) (k := 4) (pc' := 45) rfl rfl rfl rfl (by omega) (by omega) (by omega) (by omega) rfl rfl ?_
        intro h2I h2E
        generalize h2w : pw_w h1 28 4 (pw_i ((pw_g h1 28 4) - 1)) = h2 at h2I h2E ⊢
        have h2F := h1F.tr (h2E.wk (W' := [28, 30, 33, 36]) (by first | rfl | simp))
        have he2 : pw_g h2 28 4 = (pw_g h1 28 4) - 1 := by rw [← h2w]; exact pw_g_eq (c := 28) (k := 4) h1I rfl rfl (by omega) (by omega)
        have he3 : ∀ k, k ≠ 4 → pw_g h2 28 k = pw_g h 28 k := fun k hk => by rw [← he1 k, ← h2w]; exact pw_g_ne (by omega)
        have hw2 : ∀ j, pw_g h2 29 j = pw_g h 29 j := fun j => by rw [← hw1 j, ← h2w]; exact pw_g_ne (by omega)
        have he4 : pw_g h2 30 1 = pw_g h1 30 1 := by rw [← h2w]; exact pw_g_ne (by omega)
        refine pw_goto E (pc' := 0) rfl (by decide) ?_
        have hJ := pw_Jk J hk
        have hlt : pw_g h 29 k < 8 := by
          by_cases h8 : 8 ≤ pw_g h 29 k
          · rw [pw_rk8 h8] at ht; omega
          · omega
        have J2 : pw_J 28 29 h2 dp op := pw_Jof (hJ.pop.1 hlt) hw2 (by omega)
        refine pw_mono (ih (pw_g h2 28 4).toNat (by omega) h2I rfl J2) ?_
        rintro h3 v4 ⟨q1, q2, ⟨q3, q4, q5, q6⟩, q7⟩
        exact ⟨q1, h2F.tr q2, ⟨q3, q4, by omega, fun k hk => by rw [q6 k hk, he3 k hk]⟩, q7⟩
set_option maxHeartbeats 4000000 in
theorem cm_49_28 {X : List (Nat × List Value)} {d : Nat} (hd : 2 ≤ d) : ∀ (n : Nat) {h : pm_H} (_ : pw_I h) (_ : (pw_g h 28 4).toNat = n) (_ : pw_J 28 29 h (pw_g h 28 5) (pw_g h 28 6)) (_ : 0 ≤ pw_g h 28 6), pw X d h 49 0 [some (.ref 44), some (.ref 46)] [] (fun h' v => pw_I h' ∧ pw_E [28, 30, 33, 36] h h' ∧ (pw_J 28 29 h' (pw_g h' 28 5) (pw_g h' 28 6) ∧ pw_g h' 30 1 + pw_g h' 28 4 ≤ pw_g h 30 1 + pw_g h 28 4 ∧ pw_g h' 28 7 = 3 ∧ pw_g h' 28 6 = pw_g h 28 6 ∧ pw_g h' 28 8 = pw_g h 28 8) ∧ (v = .inl none)) := by
  intro n
  induction n using Nat.strongRecOn with
  | ind n ih =>
    intro h I hn J ho
    have E : pm_ent 49 = some (2, 2, 5, 4, pmc_49) := rfl
    have E0 : pw_E [28, 30, 33, 36] h h := pw_E.rf _ _
    have FIN : pw X d h 49 56 [some (.ref 44), some (.ref 46)] [] (fun h' v => pw_I h' ∧ pw_E [28, 30, 33, 36] h h' ∧ (pw_J 28 29 h' (pw_g h' 28 5) (pw_g h' 28 6) ∧ pw_g h' 30 1 + pw_g h' 28 4 ≤ pw_g h 30 1 + pw_g h 28 4 ∧ pw_g h' 28 7 = 3 ∧ pw_g h' 28 6 = pw_g h 28 6 ∧ pw_g h' 28 8 = pw_g h 28 8) ∧ (v = .inl none)) := by
      refine pw_ld E (pc' := 57) (st' := [.ref 44]) rfl (fun _ => rfl) ?_
      refine pw_ld E (pc' := 58) (st' := [pw_i 3, .ref 44]) rfl (fun _ => rfl) ?_
      refine pw_putI I E (c := 28) (k := 7) (pc' := 61) rfl rfl rfl rfl (by decide) (by decide) (by decide) (by decide) rfl rfl ?_
      intro h2I h2E
      generalize h2w : pw_w h 28 7 (pw_i 3) = h2 at h2I h2E ⊢
      have h2F := E0.tr (h2E.wk (W' := [28, 30, 33, 36]) (by first | rfl | simp))
      have he2 : pw_g h2 28 7 = 3 := by rw [← h2w]; exact pw_g_eq (c := 28) (k := 7) I rfl rfl (by omega) (by omega)
      have he3 : ∀ k, k ≠ 7 → pw_g h2 28 k = pw_g h 28 k := fun k hk => by rw [← h2w]; exact pw_g_ne (by omega)
      have hw2 : ∀ j, pw_g h2 29 j = pw_g h 29 j := fun j => by rw [← h2w]; exact pw_g_ne (by omega)
      have he4 : pw_g h2 30 1 = pw_g h 30 1 := by rw [← h2w]; exact pw_g_ne (by omega)
      refine pw_vret E rfl ?_
      refine ⟨h2I, h2F, ⟨?_, ?_, he2, he3 6 (by decide), he3 8 (by decide)⟩, rfl⟩
      · rw [he3 5 (by decide), he3 6 (by decide)]
        exact pw_Jof (h := h) J hw2 (by rw [he3 4 (by decide)])
      · rw [he4, he3 4 (by decide)]
        exact Int.le_refl _
    refine pw_ld E (pc' := 1) (st' := [.ref 44]) rfl (fun _ => rfl) ?_
    refine pw_getI I E (c := 28) (k := 4) (pc' := 4) rfl rfl rfl rfl rfl rfl (fun hf1a hf1b hf1c hf1d => ?_)
    refine pw_if E (pc' := 56) rfl (by decide) (by omega) (by omega) ?_ ?_
    · intro _
      exact FIN
    · intro hc3
      have hc3 : ¬ (pw_g h 28 4 ≤ (0 : Int)) := hc3
      obtain ⟨k, hk⟩ : ∃ k : Nat, pw_g h 28 4 = (k : Int) + 1 := ⟨(pw_g h 28 4 - 1).toNat, by omega⟩
      have hk2 : (pw_g h 28 4 - 1).toNat = k := by omega
      refine pw_ld E (pc' := 8) (st' := [.ref 44]) rfl (fun _ => rfl) ?_
      refine pw_getR (b := 45) I E (c := 28) (k := 3) (pc' := 11) rfl rfl rfl rfl rfl rfl rfl ?_
      refine pw_ld E (pc' := 12) (st' := [.ref 44, .ref 45]) rfl (fun _ => rfl) ?_
      refine pw_getI I E (c := 28) (k := 4) (pc' := 15) rfl rfl rfl rfl rfl rfl (fun hf7a hf7b hf7c hf7d => ?_)
      refine pw_ld E (pc' := 16) (st' := [pw_i 1, pw_i (pw_g h 28 4), .ref 45]) rfl (fun _ => rfl) ?_
      refine pw_sub E (pc' := 17) rfl rfl ?_
      refine pw_ald I E (c := 29) (pc' := 18) rfl rfl rfl (by decide) rfl (by decide) (by omega) (by omega) rfl (fun hf8a hf8b hf8c hf8d => ?_)
      refine pw_bip E (pc' := 20) rfl rfl (by decide) ?_
      refine pw_if2 E (pc' := 56) rfl (by decide) (by omega) (by omega) (by decide) (by decide) ?_ ?_
      · intro _
        exact FIN
      · intro hc5
        have hc5 : ¬ (pw_g h 29 (pw_g h 28 4 - 1).toNat ≠ 8) := hc5
        have h8 : pw_g h 29 k = 8 := by
          rw [hk2] at hc5
          omega
        refine pw_ld E (pc' := 24) (st' := [.ref 46]) rfl (fun _ => rfl) ?_
        refine pw_ld E (pc' := 25) (st' := [.ref 44, .ref 46]) rfl (fun _ => rfl) ?_
        refine pw_getI I E (c := 28) (k := 8) (pc' := 28) rfl rfl rfl rfl rfl rfl (fun hf6a hf6b hf6c hf6d => ?_)
        refine pw_bip E (pc' := 30) rfl rfl (by decide) ?_
        obtain ⟨f9l, f9h, -⟩ := pw_obj (c := 30) I rfl
        refine pw_call (m' := 71) (As := [.ref 46, pw_i (pw_g h 28 8), pw_i (-8)]) (rest := []) (ls'' := [some (.ref 46), some (pw_i (pw_g h 28 8)), some (pw_i (-8))]) (by omega) E rfl (fun _ => pw_iV rfl rfl rfl rfl (pw_cellI f9h rfl)) (rfl : pm_ent 71 = some (3, 3, 7, 4, pmc_71)) rfl rfl (cm_71_30 (by omega) I _ (by omega) (by omega) _ (by omega) (by omega)) ?_
        rintro h1 v3 ⟨h1I, h1E, h1p, rfl⟩
        refine ⟨_, rfl, ?_⟩
        show pw X d h1 49 33 [some (.ref 44), some (.ref 46)] [] _
        have h1F := E0.tr (h1E.wk (W' := [28, 30, 33, 36]) (by first | rfl | simp))
        have he1 : ∀ k, pw_g h1 28 k = pw_g h 28 k := fun k => pw_Eg (c := 28) I h1E rfl rfl k
        have hw1 : ∀ j, pw_g h1 29 j = pw_g h 29 j := fun k => pw_Eg (c := 29) I h1E rfl rfl k
        have he14 := he1 4
        refine pw_ld E (pc' := 34) (st' := [.ref 44]) rfl (fun _ => rfl) ?_
        refine pw_ld E (pc' := 35) (st' := [.ref 44, .ref 44]) rfl (fun _ => rfl) ?_
        refine pw_getI h1I E (c := 28) (k := 4) (pc' := 38) rfl rfl rfl rfl rfl rfl (fun hf9a hf9b hf9c hf9d => ?_)
        refine pw_ld E (pc' := 39) (st' := [pw_i 1, pw_i (pw_g h1 28 4), .ref 44]) rfl (fun _ => rfl) ?_
        refine pw_sub E (pc' := 40) rfl rfl ?_
        refine pw_putI h1I E (c := 28) (k := 4) (pc' := 43) rfl rfl rfl rfl (by omega) (by omega) (by omega) (by omega) rfl rfl ?_
        intro h2I h2E
        generalize h2w : pw_w h1 28 4 (pw_i ((pw_g h1 28 4) - 1)) = h2 at h2I h2E ⊢
        have h2F := h1F.tr (h2E.wk (W' := [28, 30, 33, 36]) (by first | rfl | simp))
        have he2 : pw_g h2 28 4 = (pw_g h1 28 4) - 1 := by rw [← h2w]; exact pw_g_eq (c := 28) (k := 4) h1I rfl rfl (by omega) (by omega)
        have he3 : ∀ k, k ≠ 4 → pw_g h2 28 k = pw_g h 28 k := fun k hk => by rw [← he1 k, ← h2w]; exact pw_g_ne (by omega)
        have hw2 : ∀ j, pw_g h2 29 j = pw_g h 29 j := fun j => by rw [← hw1 j, ← h2w]; exact pw_g_ne (by omega)
        have he4 : pw_g h2 30 1 = pw_g h1 30 1 := by rw [← h2w]; exact pw_g_ne (by omega)
        have he25 := he3 5 (by decide)
        have hJ := pw_Jk J hk
        have hJ2 := hJ.pop.2.1 h8
        have hdp : 1 ≤ pw_g h 28 5 ∧ pw_g h 28 5 ≤ 5 := by
          have z1 := hJ2.2.2.1
          have z2 := hJ.2.2.2.2
          omega
        refine pw_ld E (pc' := 44) (st' := [.ref 44]) rfl (fun _ => rfl) ?_
        refine pw_ld E (pc' := 45) (st' := [.ref 44, .ref 44]) rfl (fun _ => rfl) ?_
        refine pw_getI h2I E (c := 28) (k := 5) (pc' := 48) rfl rfl rfl rfl rfl rfl (fun hg9a hg9b hg9c hg9d => ?_)
        refine pw_ld E (pc' := 49) (st' := [pw_i 1, pw_i (pw_g h2 28 5), .ref 44]) rfl (fun _ => rfl) ?_
        refine pw_sub E (pc' := 50) rfl rfl ?_
        refine pw_putI h2I E (c := 28) (k := 5) (pc' := 53) rfl rfl rfl rfl (by omega) (by omega) (by omega) (by omega) rfl rfl ?_
        intro h3I h3E
        generalize h3w : pw_w h2 28 5 (pw_i ((pw_g h2 28 5) - 1)) = h3 at h3I h3E ⊢
        have h3F := h2F.tr (h3E.wk (W' := [28, 30, 33, 36]) (by first | rfl | simp))
        have hb2 : pw_g h3 28 5 = (pw_g h2 28 5) - 1 := by rw [← h3w]; exact pw_g_eq (c := 28) (k := 5) h2I rfl rfl (by omega) (by omega)
        have hb3 : ∀ k, k ≠ 5 → pw_g h3 28 k = pw_g h2 28 k := fun k hk => by rw [← h3w]; exact pw_g_ne (by omega)
        have hv2 : ∀ j, pw_g h3 29 j = pw_g h 29 j := fun j => by rw [← hw2 j, ← h3w]; exact pw_g_ne (by omega)
        have hb4 : pw_g h3 30 1 = pw_g h2 30 1 := by rw [← h3w]; exact pw_g_ne (by omega)
        have hb34 := hb3 4 (by decide)
        have hb36 := hb3 6 (by decide)
        have hb38 := hb3 8 (by decide)
        have he36 := he3 6 (by decide)
        have he38 := he3 8 (by decide)
        refine pw_goto E (pc' := 0) rfl (by decide) ?_
        have J3 : pw_J 28 29 h3 (pw_g h3 28 5) (pw_g h3 28 6) := by
          rw [hb2, he25, hb36, he36]
          exact pw_Jof hJ2 hv2 (by omega)
        refine pw_mono (ih (pw_g h3 28 4).toNat (by omega) h3I rfl J3 (by omega)) ?_
        rintro h4 v4 ⟨q1, q2, ⟨q3, q4, q5, q6, q8⟩, q7⟩
        exact ⟨q1, h3F.tr q2, ⟨q3, by omega, q5, by omega, by omega⟩, q7⟩
