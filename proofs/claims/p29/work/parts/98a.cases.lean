/-! the law's cases (printed by wip/tool/mlawcases.py) -/
theorem pw_KG {W : List Nat} {h h' : pm_H} (I : pw_I h) (E : pw_G W h h') (H : pw_K h) (hn : (W.contains 145 || (W.contains 146 || (W.contains 147 || W.contains 157))) = false) : pw_K h' := by
  obtain ⟨h1, h2⟩ := Bool.or_eq_false_iff.mp hn
  obtain ⟨h2, h3⟩ := Bool.or_eq_false_iff.mp h2
  obtain ⟨h3, h4⟩ := Bool.or_eq_false_iff.mp h3
  exact H.cg (fun j => congrArg pw_iv (pw_Gg (c := 145) I E rfl h1 j)) (fun j => congrArg pw_iv (pw_Gg (c := 146) I E rfl h2 j)) (fun j => congrArg pw_iv (pw_Gg (c := 147) I E rfl h3 j)) (fun j => congrArg pw_iv (pw_Gg (c := 157) I E rfl h4 j))
theorem pw_sc8 {h : pm_H} (I : pw_I h) {i : Int} {a5 a6 a7 : Option Value} (s5 : ∀ n, pm_scl n a5 = true) (s6 : ∀ n, pm_scl n a6 = true) (s7 : ∀ n, pm_scl n a7 = true) : pm_all (pm_scl (16 + pm_len h)) [some (.ref 0), some (.ref 16), some (.ref 141), some (.ref 185), some (pw_i i), a5, a6, a7] = true := by
  have hl : 170 ≤ h.length := by
    obtain ⟨q, h1, -⟩ := I.1 169 _ rfl
    exact (List.getElem?_eq_some_iff.mp h1).1
  rw [pm_all_eq, pm_len_eq]
  have hr : ∀ a : Nat, a < 186 → pm_scl (16 + h.length) (some (.ref a)) = true := fun a ha => Nat.blt_eq.mpr (by omega)
  simp only [List.all_cons, List.all_nil, hr 0 (by decide), hr 16 (by decide), hr 141 (by decide), hr 185 (by decide), s5, s6, s7, Bool.and_true]
  rfl
/-- the same tape; the model's words -/
def pw_Rb (h : pm_H) : Prop := pb_A (pb_c h) (pb_m h) ∧ pt_WK h
theorem pt_WK.G {W : List Nat} {h h' : pm_H} (I : pw_I h) (E : pw_G W h h') (H : pt_WK h) (hn : (W.contains 130 || W.contains 148) = false) : pt_WK h' := by
  obtain ⟨h1, h2⟩ := Bool.or_eq_false_iff.mp hn
  refine ⟨fun w hw => ?_, fun k hk => ?_⟩
  · rw [← H.1 w hw]
    exact congrArg (fun z => (pw_lv z).toInt) (pw_Gg (c := 130) I E rfl h1 w)
  · rw [← H.2 k hk]
    exact congrArg pw_iv (pw_Gg (c := 148) I E rfl h2 k)
theorem pw_RbE {W : List Nat} {h h' : pm_H} (I : pw_I h) (E : pw_E W h h') (T : pw_Rb h) (hn : ((W.contains 24 || W.contains 25) || ((W.contains 126 || W.contains 1002) || (W.contains 130 || W.contains 148))) = false) : pw_Rb h' := by
  obtain ⟨h1, h2⟩ := Bool.or_eq_false_iff.mp hn
  obtain ⟨h1, h3⟩ := Bool.or_eq_false_iff.mp h1
  obtain ⟨h2, h4⟩ := Bool.or_eq_false_iff.mp h2
  obtain ⟨h2, h5⟩ := Bool.or_eq_false_iff.mp h2
  have e1 : pb_c h' = pb_c h := by unfold pb_c; rw [pw_Eg (c := 24) I E rfl h1, show pw_g h' 25 = pw_g h 25 from funext (pw_Eg (c := 25) I E rfl h3)]
  have e2 : pb_m h' = pb_m h := by unfold pb_m; rw [pw_Ef E (Or.inl rfl) h5, show pw_g h' 126 = pw_g h 126 from funext (pw_Eg (c := 126) I E rfl h2)]
  exact ⟨by rw [e1, e2]; exact T.1, T.2.E I E h4⟩
theorem pw_Rb.feed {W W' : List Nat} {h h1 h2 : pm_H} {x y z : Int64} {a a' : Int} (I : pw_I h) (I1 : pw_I h1) (E1 : pw_E W h h1) (E2 : pw_E W' h1 h2) (T : pw_Rb h) (r1 : a = pw_g h1 24 1 ∧ pb_c h1 = pb_fd pw_b97 z 8 (pb_fd pw_b97 y 8 (pb_fd pw_b97 x 8 (pb_c h)))) (r2 : a' = pw_g h2 125 2 ∧ pb_m h2 = pb_fd pw_b199 z 8 (pb_fd pw_b199 y 8 (pb_fd pw_b199 x 8 (pb_m h1)))) (hn1 : ((W.contains 125 || W.contains 126) || (W.contains 130 || W.contains 148)) = false) (hn2 : ((W'.contains 24 || W'.contains 25) || (W'.contains 130 || W'.contains 148)) = false) : a = a' ∧ pw_Rb h2 := by
  obtain ⟨c1, c2⟩ := Bool.or_eq_false_iff.mp hn1
  obtain ⟨c1, c3⟩ := Bool.or_eq_false_iff.mp c1
  obtain ⟨d1, d2⟩ := Bool.or_eq_false_iff.mp hn2
  obtain ⟨d1, d3⟩ := Bool.or_eq_false_iff.mp d1
  have e1 : pb_m h1 = pb_m h := by unfold pb_m; rw [pw_Eg (c := 125) I E1 rfl c1, show pw_g h1 126 = pw_g h 126 from funext (pw_Eg (c := 126) I E1 rfl c3)]
  have e2 : pb_c h2 = pb_c h1 := by unfold pb_c; rw [pw_Eg (c := 24) I1 E2 rfl d1, show pw_g h2 25 = pw_g h1 25 from funext (pw_Eg (c := 25) I1 E2 rfl d3)]
  have A : pb_A (pb_c h2) (pb_m h2) := by
    rw [e2, r1.2, r2.2, e1, pb_fd_eq, pb_fd_eq, pb_fd_eq]
    exact ((T.1.fd pw_b199 x 8).fd pw_b199 y 8).fd pw_b199 z 8
  have B : pw_g h2 24 1 = pw_g h2 125 2 := A.1
  refine ⟨?_, A, (T.2.E I E1 c2).E I1 E2 d2⟩
  rw [r1.1, r2.1, ← B]
  exact (pw_Eg (c := 24) I1 E2 rfl d1 1).symm
theorem pw_Rb.z {W' : List Nat} {h1 h2 : pm_H} (I1 : pw_I h1) (E2 : pw_E W' h1 h2) (K : pt_WK h1) (z1 : pw_g h1 24 1 = 0) (z2 : pw_g h2 125 2 = 0) (hn2 : (W'.contains 24 || (W'.contains 130 || W'.contains 148)) = false) : pw_Rb h2 := by
  obtain ⟨d1, d2⟩ := Bool.or_eq_false_iff.mp hn2
  have e : pw_g h2 24 1 = 0 := (pw_Eg (c := 24) I1 E2 rfl d1 1).trans z1
  exact ⟨⟨e.trans z2.symm, fun k hk => by have hk : (k : Int) < pw_g h2 24 1 := hk; omega⟩, K.E I1 E2 d2⟩
theorem pw_Rb.same {W : List Nat} {h h1 : pm_H} (I : pw_I h) (E1 : pw_G W h h1) (T : pw_Rb h) {wr l a a' : Int} (r1 : (¬ (0 ≤ l ∧ l ≤ 3) → a = -1) ∧ (0 ≤ l → l ≤ 3 → ∀ L : List pt_tok, pt_sg (pw_g h 25) (pw_g h 24 1).toNat 0 L (pw_g h 24 1).toNat → a = (pt_TX wr L (pw_g h 24 1).toNat).1)) (r2 : (¬ (0 ≤ l ∧ l ≤ 3) → a' = -1) ∧ (0 ≤ l → l ≤ 3 → ∃ L : List pt_tok, pt_sg (pw_g h1 126) (pw_g h1 125 2).toNat 0 L (pw_g h1 125 2).toNat ∧ a' = (pt_TX wr L (pw_g h1 125 2).toNat).1)) (hn : (W.contains 125 || W.contains 126) = false) : a = a' := by
  obtain ⟨c1, c2⟩ := Bool.or_eq_false_iff.mp hn
  by_cases q : 0 ≤ l ∧ l ≤ 3
  · obtain ⟨L, s, e⟩ := r2.2 q.1 q.2
    have f1 : pw_g h1 125 2 = pw_g h 125 2 := congrArg pw_iv (pw_Gg (c := 125) I E1 rfl c1 2)
    have f2 : pw_g h1 126 = pw_g h 126 := funext fun j => congrArg pw_iv (pw_Gg (c := 126) I E1 rfl c2 j)
    have f3 : pw_g h 24 1 = pw_g h 125 2 := T.1.1
    rw [f1, ← f3] at e s
    rw [f2] at s
    rw [e]
    refine r1.2 q.1 q.2 L (s.cg (fun j hj => ?_) (Nat.le_refl _))
    have g := T.1.2 j (show (j : Int) < pw_g h 24 1 by omega)
    exact g.symm
  · rw [r1.1 q, r2.1 q]
/-- the model's words, looked at -/
noncomputable def px_veq (a : Int) (v : Value) : Bool := match v with
  | .long x => decide (x.toInt = a)
  | .int x => decide (x.toInt = a)
  | _ => false
noncomputable def px_wkl : List Int → List Value → Bool
  | [], _ => true
  | a :: r, v :: s => px_veq a v && px_wkl r s
  | _ :: _, [] => false
def px_vn (v : Value) : Int := match v with
  | .long x => x.toInt
  | .int x => x.toInt
  | _ => 0
theorem px_wkl_ok : ∀ (W : List Int) (l : List Value), px_wkl W l = true → ∀ i : Nat, i < W.length → ∃ v, l[i]? = some v ∧ px_vn v = W.getD i 0
  | [], _, _, i, hi => absurd hi (by rw [List.length_nil]; omega)
  | a :: r, [], h, i, _ => by cases h
  | a :: r, v :: s, h, i, hi => by
    have h : (px_veq a v && px_wkl r s) = true := h
    rw [Bool.and_eq_true] at h
    cases i with
    | zero =>
      refine ⟨v, rfl, ?_⟩
      show px_vn v = a
      have h1 := h.1
      unfold px_veq at h1
      cases v with
      | long x => exact of_decide_eq_true h1
      | int x => exact of_decide_eq_true h1
      | _ => cases h1
    | succ i => exact px_wkl_ok r s h.2 i (by rw [List.length_cons] at hi; omega)
noncomputable def px_wks (h : pm_H) : Bool := (match pm_nth h 130 with
  | some (.inl q) => px_wkl [418216, 812503, 974156, 28930245, 1176170, 1891, 573, 19741, 43531911, 407043, 1166652, 11873910, 9636, 103204, 25143802, 38396496, 227314, 31543, 1014841, 329128, 755, 1396986782, 679747, 223811164, 1335017851, 4537388, 15063274, 1010834209] q.2
  | _ => false) && (match pm_nth h 148 with
  | some (.inl q) => px_wkl [13, 10, 22, 23, 24, 2, 25, 26, 27] q.2
  | _ => false)
theorem px_wks_ok {h : pm_H} (I : pw_I h) (hb : px_wks h = true) : pt_WK h := by
  unfold px_wks at hb
  rw [Bool.and_eq_true] at hb
  obtain ⟨h1, h2⟩ := hb
  refine ⟨fun w hw => ?_, fun k hk => ?_⟩
  · split at h1
    · rename_i q hq
      rw [pm_nth_eq] at hq
      obtain ⟨v, e1, e2⟩ := px_wkl_ok _ _ h1 w hw
      obtain ⟨l, b1, b2, b3⟩ := pw_arr (c := 130) I rfl
      rw [hq] at b1
      have b1 : q = (3, l) := Sum.inl.inj (Option.some.inj b1)
      rw [b1] at e1
      obtain ⟨x, hx⟩ := b3 w v e1
      have g : pw_gl h 130 w = x := by
        unfold pw_gl pw_at
        rw [hq, b1]
        show pw_lv l[w]? = x
        rw [e1, hx]
        rfl
      show (pw_gl h 130 w).toInt = _
      rw [g]
      rw [hx] at e2
      exact e2
    · cases h1
  · split at h2
    · rename_i q hq
      rw [pm_nth_eq] at hq
      obtain ⟨v, e1, e2⟩ := px_wkl_ok _ _ h2 k hk
      obtain ⟨l, b1, b2, b3⟩ := pw_arr (c := 148) I rfl
      rw [hq] at b1
      have b1 : q = (0, l) := Sum.inl.inj (Option.some.inj b1)
      rw [b1] at e1
      obtain ⟨x, hx, -⟩ := b3 k v e1
      unfold pw_g pw_at
      rw [hq, b1]
      show pw_iv l[k]? = _
      rw [e1, hx]
      rw [hx] at e2
      exact e2
    · cases h2
set_option maxHeartbeats 4000000 in
theorem lc_0 {X : List (Nat × List Value)} {xs : List Int32} {K : Nat} {h : pm_H} {Q : pm_H → (Option Value ⊕ Unit) → Prop} (hX0 : X[0]? = some (0, xs.map Value.int)) (hl : xs.length ≤ 3584) (hX : pw_Xk X) (hR : pw_Xr X) (hS : pw_Xs X) (hF : pw_Xf X) (I : pw_I h) (hK : pw_K h) (hRb : pw_Rb h) (i : Int) (hi0 : 0 ≤ i) (hi1 : i + 7 ≤ xs.length) (a5 a6 a7 : Option Value) (s5 : ∀ n, pm_scl n a5 = true) (s6 : ∀ n, pm_scl n a6 = true) (s7 : ∀ n, pm_scl n a7 = true) (hB : ∀ (h' : pm_H) (b5 b6 b7 : Option Value), pw_I h' → pw_K h' → pw_Rb h' → h'.length ≤ h.length + 1 → pm_slt h' ≤ pm_slt h + 1000 → (∀ n, pm_scl n b5 = true) → (∀ n, pm_scl n b6 = true) → (∀ n, pm_scl n b7 = true) → pwl X K h' 2341 [some (.ref 0), some (.ref 16), some (.ref 141), some (.ref 185), some (pw_i i), b5, b6, b7] [] Q) : pwl X (K + 150) h 220 [some (.ref 0), some (.ref 16), some (.ref 141), some (.ref 185), some (pw_i i), a5, a6, a7] [] Q := by
  have E : pm_ent 309 = some (1, 8, 13, 1, pmc_309) := rfl
  refine pwl_ld E (pc' := 221) (st' := [.ref 16]) rfl (fun _ => rfl) ?_
  refine pwl_ld E (pc' := 222) (st' := [.ref 0, .ref 16]) rfl (fun _ => rfl) ?_
  refine pwl_ld E (pc' := 224) (st' := [pw_i i, .ref 0, .ref 16]) rfl (fun _ => rfl) ?_
  refine pwl_ld E (pc' := 225) (st' := [pw_i 1, pw_i i, .ref 0, .ref 16]) rfl (fun _ => rfl) ?_
  refine pwl_add E (pc' := 226) rfl rfl ?_
  refine pwl_sald E (pc' := 227) rfl hX0 hl (by omega) (by omega) rfl ?_
  have hs1 := pw_s_r xs (i + 1)
  refine pwl_ld E (pc' := 228) (st' := [.ref 0, pw_i (pw_s xs (i + 1)), .ref 16]) rfl (fun _ => rfl) ?_
  refine pwl_ld E (pc' := 230) (st' := [pw_i i, .ref 0, pw_i (pw_s xs (i + 1)), .ref 16]) rfl (fun _ => rfl) ?_
  refine pwl_ld E (pc' := 231) (st' := [pw_i 2, pw_i i, .ref 0, pw_i (pw_s xs (i + 1)), .ref 16]) rfl (fun _ => rfl) ?_
  refine pwl_add E (pc' := 232) rfl rfl ?_
  refine pwl_sald E (pc' := 233) rfl hX0 hl (by omega) (by omega) rfl ?_
  have hs2 := pw_s_r xs (i + 2)
  refine pwl_ld E (pc' := 234) (st' := [.ref 0, pw_i (pw_s xs (i + 2)), pw_i (pw_s xs (i + 1)), .ref 16]) rfl (fun _ => rfl) ?_
  refine pwl_ld E (pc' := 236) (st' := [pw_i i, .ref 0, pw_i (pw_s xs (i + 2)), pw_i (pw_s xs (i + 1)), .ref 16]) rfl (fun _ => rfl) ?_
  refine pwl_ld E (pc' := 237) (st' := [pw_i 3, pw_i i, .ref 0, pw_i (pw_s xs (i + 2)), pw_i (pw_s xs (i + 1)), .ref 16]) rfl (fun _ => rfl) ?_
  refine pwl_add E (pc' := 238) rfl rfl ?_
  refine pwl_sald E (pc' := 239) rfl hX0 hl (by omega) (by omega) rfl ?_
  have hs3 := pw_s_r xs (i + 3)
  refine pwl_ld E (pc' := 240) (st' := [.ref 0, pw_i (pw_s xs (i + 3)), pw_i (pw_s xs (i + 2)), pw_i (pw_s xs (i + 1)), .ref 16]) rfl (fun _ => rfl) ?_
  refine pwl_ld E (pc' := 242) (st' := [pw_i i, .ref 0, pw_i (pw_s xs (i + 3)), pw_i (pw_s xs (i + 2)), pw_i (pw_s xs (i + 1)), .ref 16]) rfl (fun _ => rfl) ?_
  refine pwl_ld E (pc' := 243) (st' := [pw_i 4, pw_i i, .ref 0, pw_i (pw_s xs (i + 3)), pw_i (pw_s xs (i + 2)), pw_i (pw_s xs (i + 1)), .ref 16]) rfl (fun _ => rfl) ?_
  refine pwl_add E (pc' := 244) rfl rfl ?_
  refine pwl_sald E (pc' := 245) rfl hX0 hl (by omega) (by omega) rfl ?_
  have hs4 := pw_s_r xs (i + 4)
  refine pwl_ld E (pc' := 246) (st' := [.ref 0, pw_i (pw_s xs (i + 4)), pw_i (pw_s xs (i + 3)), pw_i (pw_s xs (i + 2)), pw_i (pw_s xs (i + 1)), .ref 16]) rfl (fun _ => rfl) ?_
  refine pwl_ld E (pc' := 248) (st' := [pw_i i, .ref 0, pw_i (pw_s xs (i + 4)), pw_i (pw_s xs (i + 3)), pw_i (pw_s xs (i + 2)), pw_i (pw_s xs (i + 1)), .ref 16]) rfl (fun _ => rfl) ?_
  refine pwl_ld E (pc' := 249) (st' := [pw_i 5, pw_i i, .ref 0, pw_i (pw_s xs (i + 4)), pw_i (pw_s xs (i + 3)), pw_i (pw_s xs (i + 2)), pw_i (pw_s xs (i + 1)), .ref 16]) rfl (fun _ => rfl) ?_
  refine pwl_add E (pc' := 250) rfl rfl ?_
  refine pwl_sald E (pc' := 251) rfl hX0 hl (by omega) (by omega) rfl ?_
  have hs5 := pw_s_r xs (i + 5)
  refine pwl_if E (pc' := 258) rfl (by decide) (by omega) (by omega) ?_ ?_
  · intro hc6
    have hc6 : pw_s xs (i + 5) = (0 : Int) := hc6
    refine pwl_ld E (pc' := 259) (st' := [pw_i 0, pw_i (pw_s xs (i + 4)), pw_i (pw_s xs (i + 3)), pw_i (pw_s xs (i + 2)), pw_i (pw_s xs (i + 1)), .ref 16]) rfl (fun _ => rfl) ?_
    obtain ⟨f7l, f7h, -⟩ := pw_obj (c := 0) I rfl
    refine pwl_call (m' := 119) (As := [.ref 16, pw_i (pw_s xs (i + 1)), pw_i (pw_s xs (i + 2)), pw_i (pw_s xs (i + 3)), pw_i (pw_s xs (i + 4)), pw_i 0]) (rest := []) (ls'' := [some (.ref 16), some (pw_i (pw_s xs (i + 1))), some (pw_i (pw_s xs (i + 2))), some (pw_i (pw_s xs (i + 3))), some (pw_i (pw_s xs (i + 4))), some (pw_i 0)]) E rfl (fun _ => pwl_iV rfl rfl rfl (pw_cellI f7h rfl)) (rfl : pm_ent 119 = some (6, 6, 11, 1, pmc_119)) (by decide) rfl rfl (cm_119 (by decide) I (pw_s xs (i + 1)) (by omega) (by omega) (pw_s xs (i + 2)) (by omega) (by omega) (pw_s xs (i + 3)) (by omega) (by omega) (pw_s xs (i + 4)) (by omega) (by omega) 0 (by decide) (by decide)) ?_
    rintro h9 v8 ⟨h9I, h9E, x10, rfl, hx10a, hx10b, hx10r⟩
    refine ⟨_, rfl, ?_⟩
    have h9K := pw_KE I h9E hK rfl
    have h9L := h9E.1
    show pwl X _ h9 262 [some (.ref 0), some (.ref 16), some (.ref 141), some (.ref 185), some (pw_i i), a5, a6, a7] [pw_i x10] _
    have hx10r : (x10 = 1 ∧ 0 ≤ (pw_s xs (i + 1)) ∧ (pw_s xs (i + 1)) ≤ 23 ∧ 0 ≤ (pw_s xs (i + 2)) ∧ (pw_s xs (i + 2)) ≤ 1 ∧ 0 ≤ (pw_s xs (i + 3)) ∧ (pw_s xs (i + 3)) ≤ 999 ∧ 0 ≤ (pw_s xs (i + 4)) ∧ (pw_s xs (i + 4)) ≤ 99) ∨ (x10 = 0 ∧ ¬ (0 ≤ (pw_s xs (i + 1)) ∧ (pw_s xs (i + 1)) ≤ 23 ∧ 0 ≤ (pw_s xs (i + 2)) ∧ (pw_s xs (i + 2)) ≤ 1 ∧ 0 ≤ (pw_s xs (i + 3)) ∧ (pw_s xs (i + 3)) ≤ 999 ∧ 0 ≤ (pw_s xs (i + 4)) ∧ (pw_s xs (i + 4)) ≤ 99)) := hx10r
    have h9Rb := pw_RbE I h9E hRb rfl
    refine pwl_ld E (pc' := 263) (st' := []) rfl (fun _ => rfl) ?_
    refine pwl_ld E (pc' := 264) (st' := [.ref 141]) rfl (fun _ => rfl) ?_
    refine pwl_ld E (pc' := 265) (st' := [.ref 0, .ref 141]) rfl (fun _ => rfl) ?_
    refine pwl_ld E (pc' := 267) (st' := [pw_i i, .ref 0, .ref 141]) rfl (fun _ => rfl) ?_
    refine pwl_ld E (pc' := 268) (st' := [pw_i 1, pw_i i, .ref 0, .ref 141]) rfl (fun _ => rfl) ?_
    refine pwl_add E (pc' := 269) rfl rfl ?_
    refine pwl_sald E (pc' := 270) rfl hX0 hl (by omega) (by omega) rfl ?_
    have hs11 := pw_s_r xs (i + 1)
    refine pwl_ld E (pc' := 271) (st' := [.ref 0, pw_i (pw_s xs (i + 1)), .ref 141]) rfl (fun _ => rfl) ?_
    refine pwl_ld E (pc' := 273) (st' := [pw_i i, .ref 0, pw_i (pw_s xs (i + 1)), .ref 141]) rfl (fun _ => rfl) ?_
    refine pwl_ld E (pc' := 274) (st' := [pw_i 2, pw_i i, .ref 0, pw_i (pw_s xs (i + 1)), .ref 141]) rfl (fun _ => rfl) ?_
    refine pwl_add E (pc' := 275) rfl rfl ?_
    refine pwl_sald E (pc' := 276) rfl hX0 hl (by omega) (by omega) rfl ?_
    have hs12 := pw_s_r xs (i + 2)
    refine pwl_ld E (pc' := 277) (st' := [.ref 0, pw_i (pw_s xs (i + 2)), pw_i (pw_s xs (i + 1)), .ref 141]) rfl (fun _ => rfl) ?_
    refine pwl_ld E (pc' := 279) (st' := [pw_i i, .ref 0, pw_i (pw_s xs (i + 2)), pw_i (pw_s xs (i + 1)), .ref 141]) rfl (fun _ => rfl) ?_
    refine pwl_ld E (pc' := 280) (st' := [pw_i 3, pw_i i, .ref 0, pw_i (pw_s xs (i + 2)), pw_i (pw_s xs (i + 1)), .ref 141]) rfl (fun _ => rfl) ?_
    refine pwl_add E (pc' := 281) rfl rfl ?_
    refine pwl_sald E (pc' := 282) rfl hX0 hl (by omega) (by omega) rfl ?_
    have hs13 := pw_s_r xs (i + 3)
    refine pwl_ld E (pc' := 283) (st' := [.ref 0, pw_i (pw_s xs (i + 3)), pw_i (pw_s xs (i + 2)), pw_i (pw_s xs (i + 1)), .ref 141]) rfl (fun _ => rfl) ?_
    refine pwl_ld E (pc' := 285) (st' := [pw_i i, .ref 0, pw_i (pw_s xs (i + 3)), pw_i (pw_s xs (i + 2)), pw_i (pw_s xs (i + 1)), .ref 141]) rfl (fun _ => rfl) ?_
    refine pwl_ld E (pc' := 286) (st' := [pw_i 4, pw_i i, .ref 0, pw_i (pw_s xs (i + 3)), pw_i (pw_s xs (i + 2)), pw_i (pw_s xs (i + 1)), .ref 141]) rfl (fun _ => rfl) ?_
    refine pwl_add E (pc' := 287) rfl rfl ?_
    refine pwl_sald E (pc' := 288) rfl hX0 hl (by omega) (by omega) rfl ?_
    have hs14 := pw_s_r xs (i + 4)
    refine pwl_ld E (pc' := 289) (st' := [.ref 0, pw_i (pw_s xs (i + 4)), pw_i (pw_s xs (i + 3)), pw_i (pw_s xs (i + 2)), pw_i (pw_s xs (i + 1)), .ref 141]) rfl (fun _ => rfl) ?_
    refine pwl_ld E (pc' := 291) (st' := [pw_i i, .ref 0, pw_i (pw_s xs (i + 4)), pw_i (pw_s xs (i + 3)), pw_i (pw_s xs (i + 2)), pw_i (pw_s xs (i + 1)), .ref 141]) rfl (fun _ => rfl) ?_
    refine pwl_ld E (pc' := 292) (st' := [pw_i 5, pw_i i, .ref 0, pw_i (pw_s xs (i + 4)), pw_i (pw_s xs (i + 3)), pw_i (pw_s xs (i + 2)), pw_i (pw_s xs (i + 1)), .ref 141]) rfl (fun _ => rfl) ?_
    refine pwl_add E (pc' := 293) rfl rfl ?_
    refine pwl_sald E (pc' := 294) rfl hX0 hl (by omega) (by omega) rfl ?_
    have hs15 := pw_s_r xs (i + 5)
    refine pwl_if E (pc' := 301) rfl (by decide) (by omega) (by omega) ?_ ?_
    · intro hc16
      have hc16 : pw_s xs (i + 5) = (0 : Int) := hc16
      refine pwl_ld E (pc' := 302) (st' := [pw_i 0, pw_i (pw_s xs (i + 4)), pw_i (pw_s xs (i + 3)), pw_i (pw_s xs (i + 2)), pw_i (pw_s xs (i + 1)), .ref 141]) rfl (fun _ => rfl) ?_
      obtain ⟨f17l, f17h, -⟩ := pw_obj (c := 125) h9I rfl
      refine pwl_call (m' := 201) (As := [.ref 141, pw_i (pw_s xs (i + 1)), pw_i (pw_s xs (i + 2)), pw_i (pw_s xs (i + 3)), pw_i (pw_s xs (i + 4)), pw_i 0]) (rest := []) (ls'' := [some (.ref 141), some (pw_i (pw_s xs (i + 1))), some (pw_i (pw_s xs (i + 2))), some (pw_i (pw_s xs (i + 3))), some (pw_i (pw_s xs (i + 4))), some (pw_i 0)]) E rfl (fun _ => pwl_iV rfl rfl rfl (pw_cellI f17h rfl)) (rfl : pm_ent 201 = some (6, 6, 12, 1, pmc_201)) (by decide) rfl rfl (cm_201 (by decide) h9I (pw_s xs (i + 1)) (by omega) (by omega) (pw_s xs (i + 2)) (by omega) (by omega) (pw_s xs (i + 3)) (by omega) (by omega) (pw_s xs (i + 4)) (by omega) (by omega) 0 (by decide) (by decide)) ?_
      rintro h19 v18 ⟨h19I, h19E, x20, rfl, hx20a, hx20b, hx20r⟩
      refine ⟨_, rfl, ?_⟩
      have h19K := pw_KE h9I h19E h9K rfl
      have h19L := h19E.1
      show pwl X _ h19 305 [some (.ref 0), some (.ref 16), some (.ref 141), some (.ref 185), some (pw_i i), a5, a6, a7] [pw_i x20] _
      have hx20r : (x20 = 1 ∧ 0 ≤ (pw_s xs (i + 1)) ∧ (pw_s xs (i + 1)) ≤ 23 ∧ 0 ≤ (pw_s xs (i + 2)) ∧ (pw_s xs (i + 2)) ≤ 1 ∧ 0 ≤ (pw_s xs (i + 3)) ∧ (pw_s xs (i + 3)) ≤ 999 ∧ 0 ≤ (pw_s xs (i + 4)) ∧ (pw_s xs (i + 4)) ≤ 99) ∨ (x20 = 0 ∧ ¬ (0 ≤ (pw_s xs (i + 1)) ∧ (pw_s xs (i + 1)) ≤ 23 ∧ 0 ≤ (pw_s xs (i + 2)) ∧ (pw_s xs (i + 2)) ≤ 1 ∧ 0 ≤ (pw_s xs (i + 3)) ∧ (pw_s xs (i + 3)) ≤ 999 ∧ 0 ≤ (pw_s xs (i + 4)) ∧ (pw_s xs (i + 4)) ≤ 99)) := hx20r
      have h19Rb := pw_RbE h9I h19E h9Rb rfl
      refine pwl_ld E (pc' := 306) (st' := []) rfl (fun _ => rfl) ?_
      refine pwl_goto E (pc' := 2341) rfl (by decide) ?_
      exact pwl_mono (by omega) (hB h19 (a5) (a6) (a7) h19I h19K h19Rb (by omega) (by omega) s5 s6 s7)
    · intro hc21
      have hc21 : ¬ (pw_s xs (i + 5) = (0 : Int)) := hc21
      exfalso; omega
  · intro hc22
    have hc22 : ¬ (pw_s xs (i + 5) = (0 : Int)) := hc22
    refine pwl_ld E (pc' := 255) (st' := [pw_i 1, pw_i (pw_s xs (i + 4)), pw_i (pw_s xs (i + 3)), pw_i (pw_s xs (i + 2)), pw_i (pw_s xs (i + 1)), .ref 16]) rfl (fun _ => rfl) ?_
    refine pwl_goto E (pc' := 259) rfl (by decide) ?_
    obtain ⟨f23l, f23h, -⟩ := pw_obj (c := 0) I rfl
    refine pwl_call (m' := 119) (As := [.ref 16, pw_i (pw_s xs (i + 1)), pw_i (pw_s xs (i + 2)), pw_i (pw_s xs (i + 3)), pw_i (pw_s xs (i + 4)), pw_i 1]) (rest := []) (ls'' := [some (.ref 16), some (pw_i (pw_s xs (i + 1))), some (pw_i (pw_s xs (i + 2))), some (pw_i (pw_s xs (i + 3))), some (pw_i (pw_s xs (i + 4))), some (pw_i 1)]) E rfl (fun _ => pwl_iV rfl rfl rfl (pw_cellI f23h rfl)) (rfl : pm_ent 119 = some (6, 6, 11, 1, pmc_119)) (by decide) rfl rfl (cm_119 (by decide) I (pw_s xs (i + 1)) (by omega) (by omega) (pw_s xs (i + 2)) (by omega) (by omega) (pw_s xs (i + 3)) (by omega) (by omega) (pw_s xs (i + 4)) (by omega) (by omega) 1 (by decide) (by decide)) ?_
    rintro h25 v24 ⟨h25I, h25E, x26, rfl, hx26a, hx26b, hx26r⟩
    refine ⟨_, rfl, ?_⟩
    have h25K := pw_KE I h25E hK rfl
    have h25L := h25E.1
    show pwl X _ h25 262 [some (.ref 0), some (.ref 16), some (.ref 141), some (.ref 185), some (pw_i i), a5, a6, a7] [pw_i x26] _
    have hx26r : (x26 = 1 ∧ 0 ≤ (pw_s xs (i + 1)) ∧ (pw_s xs (i + 1)) ≤ 23 ∧ 0 ≤ (pw_s xs (i + 2)) ∧ (pw_s xs (i + 2)) ≤ 1 ∧ 0 ≤ (pw_s xs (i + 3)) ∧ (pw_s xs (i + 3)) ≤ 999 ∧ 0 ≤ (pw_s xs (i + 4)) ∧ (pw_s xs (i + 4)) ≤ 99) ∨ (x26 = 0 ∧ ¬ (0 ≤ (pw_s xs (i + 1)) ∧ (pw_s xs (i + 1)) ≤ 23 ∧ 0 ≤ (pw_s xs (i + 2)) ∧ (pw_s xs (i + 2)) ≤ 1 ∧ 0 ≤ (pw_s xs (i + 3)) ∧ (pw_s xs (i + 3)) ≤ 999 ∧ 0 ≤ (pw_s xs (i + 4)) ∧ (pw_s xs (i + 4)) ≤ 99)) := hx26r
    have h25Rb := pw_RbE I h25E hRb rfl
    refine pwl_ld E (pc' := 263) (st' := []) rfl (fun _ => rfl) ?_
    refine pwl_ld E (pc' := 264) (st' := [.ref 141]) rfl (fun _ => rfl) ?_
    refine pwl_ld E (pc' := 265) (st' := [.ref 0, .ref 141]) rfl (fun _ => rfl) ?_
    refine pwl_ld E (pc' := 267) (st' := [pw_i i, .ref 0, .ref 141]) rfl (fun _ => rfl) ?_
    refine pwl_ld E (pc' := 268) (st' := [pw_i 1, pw_i i, .ref 0, .ref 141]) rfl (fun _ => rfl) ?_
    refine pwl_add E (pc' := 269) rfl rfl ?_
    refine pwl_sald E (pc' := 270) rfl hX0 hl (by omega) (by omega) rfl ?_
    have hs27 := pw_s_r xs (i + 1)
    refine pwl_ld E (pc' := 271) (st' := [.ref 0, pw_i (pw_s xs (i + 1)), .ref 141]) rfl (fun _ => rfl) ?_
    refine pwl_ld E (pc' := 273) (st' := [pw_i i, .ref 0, pw_i (pw_s xs (i + 1)), .ref 141]) rfl (fun _ => rfl) ?_
    refine pwl_ld E (pc' := 274) (st' := [pw_i 2, pw_i i, .ref 0, pw_i (pw_s xs (i + 1)), .ref 141]) rfl (fun _ => rfl) ?_
    refine pwl_add E (pc' := 275) rfl rfl ?_
    refine pwl_sald E (pc' := 276) rfl hX0 hl (by omega) (by omega) rfl ?_
    have hs28 := pw_s_r xs (i + 2)
    refine pwl_ld E (pc' := 277) (st' := [.ref 0, pw_i (pw_s xs (i + 2)), pw_i (pw_s xs (i + 1)), .ref 141]) rfl (fun _ => rfl) ?_
    refine pwl_ld E (pc' := 279) (st' := [pw_i i, .ref 0, pw_i (pw_s xs (i + 2)), pw_i (pw_s xs (i + 1)), .ref 141]) rfl (fun _ => rfl) ?_
    refine pwl_ld E (pc' := 280) (st' := [pw_i 3, pw_i i, .ref 0, pw_i (pw_s xs (i + 2)), pw_i (pw_s xs (i + 1)), .ref 141]) rfl (fun _ => rfl) ?_
    refine pwl_add E (pc' := 281) rfl rfl ?_
    refine pwl_sald E (pc' := 282) rfl hX0 hl (by omega) (by omega) rfl ?_
    have hs29 := pw_s_r xs (i + 3)
    refine pwl_ld E (pc' := 283) (st' := [.ref 0, pw_i (pw_s xs (i + 3)), pw_i (pw_s xs (i + 2)), pw_i (pw_s xs (i + 1)), .ref 141]) rfl (fun _ => rfl) ?_
    refine pwl_ld E (pc' := 285) (st' := [pw_i i, .ref 0, pw_i (pw_s xs (i + 3)), pw_i (pw_s xs (i + 2)), pw_i (pw_s xs (i + 1)), .ref 141]) rfl (fun _ => rfl) ?_
    refine pwl_ld E (pc' := 286) (st' := [pw_i 4, pw_i i, .ref 0, pw_i (pw_s xs (i + 3)), pw_i (pw_s xs (i + 2)), pw_i (pw_s xs (i + 1)), .ref 141]) rfl (fun _ => rfl) ?_
    refine pwl_add E (pc' := 287) rfl rfl ?_
    refine pwl_sald E (pc' := 288) rfl hX0 hl (by omega) (by omega) rfl ?_
    have hs30 := pw_s_r xs (i + 4)
    refine pwl_ld E (pc' := 289) (st' := [.ref 0, pw_i (pw_s xs (i + 4)), pw_i (pw_s xs (i + 3)), pw_i (pw_s xs (i + 2)), pw_i (pw_s xs (i + 1)), .ref 141]) rfl (fun _ => rfl) ?_
    refine pwl_ld E (pc' := 291) (st' := [pw_i i, .ref 0, pw_i (pw_s xs (i + 4)), pw_i (pw_s xs (i + 3)), pw_i (pw_s xs (i + 2)), pw_i (pw_s xs (i + 1)), .ref 141]) rfl (fun _ => rfl) ?_
    refine pwl_ld E (pc' := 292) (st' := [pw_i 5, pw_i i, .ref 0, pw_i (pw_s xs (i + 4)), pw_i (pw_s xs (i + 3)), pw_i (pw_s xs (i + 2)), pw_i (pw_s xs (i + 1)), .ref 141]) rfl (fun _ => rfl) ?_
    refine pwl_add E (pc' := 293) rfl rfl ?_
    refine pwl_sald E (pc' := 294) rfl hX0 hl (by omega) (by omega) rfl ?_
    have hs31 := pw_s_r xs (i + 5)
    refine pwl_if E (pc' := 301) rfl (by decide) (by omega) (by omega) ?_ ?_
    · intro hc32
      have hc32 : pw_s xs (i + 5) = (0 : Int) := hc32
      exfalso; omega
    · intro hc33
      have hc33 : ¬ (pw_s xs (i + 5) = (0 : Int)) := hc33
      refine pwl_ld E (pc' := 298) (st' := [pw_i 1, pw_i (pw_s xs (i + 4)), pw_i (pw_s xs (i + 3)), pw_i (pw_s xs (i + 2)), pw_i (pw_s xs (i + 1)), .ref 141]) rfl (fun _ => rfl) ?_
      refine pwl_goto E (pc' := 302) rfl (by decide) ?_
      obtain ⟨f34l, f34h, -⟩ := pw_obj (c := 125) h25I rfl
      refine pwl_call (m' := 201) (As := [.ref 141, pw_i (pw_s xs (i + 1)), pw_i (pw_s xs (i + 2)), pw_i (pw_s xs (i + 3)), pw_i (pw_s xs (i + 4)), pw_i 1]) (rest := []) (ls'' := [some (.ref 141), some (pw_i (pw_s xs (i + 1))), some (pw_i (pw_s xs (i + 2))), some (pw_i (pw_s xs (i + 3))), some (pw_i (pw_s xs (i + 4))), some (pw_i 1)]) E rfl (fun _ => pwl_iV rfl rfl rfl (pw_cellI f34h rfl)) (rfl : pm_ent 201 = some (6, 6, 12, 1, pmc_201)) (by decide) rfl rfl (cm_201 (by decide) h25I (pw_s xs (i + 1)) (by omega) (by omega) (pw_s xs (i + 2)) (by omega) (by omega) (pw_s xs (i + 3)) (by omega) (by omega) (pw_s xs (i + 4)) (by omega) (by omega) 1 (by decide) (by decide)) ?_
      rintro h36 v35 ⟨h36I, h36E, x37, rfl, hx37a, hx37b, hx37r⟩
      refine ⟨_, rfl, ?_⟩
      have h36K := pw_KE h25I h36E h25K rfl
      have h36L := h36E.1
      show pwl X _ h36 305 [some (.ref 0), some (.ref 16), some (.ref 141), some (.ref 185), some (pw_i i), a5, a6, a7] [pw_i x37] _
      have hx37r : (x37 = 1 ∧ 0 ≤ (pw_s xs (i + 1)) ∧ (pw_s xs (i + 1)) ≤ 23 ∧ 0 ≤ (pw_s xs (i + 2)) ∧ (pw_s xs (i + 2)) ≤ 1 ∧ 0 ≤ (pw_s xs (i + 3)) ∧ (pw_s xs (i + 3)) ≤ 999 ∧ 0 ≤ (pw_s xs (i + 4)) ∧ (pw_s xs (i + 4)) ≤ 99) ∨ (x37 = 0 ∧ ¬ (0 ≤ (pw_s xs (i + 1)) ∧ (pw_s xs (i + 1)) ≤ 23 ∧ 0 ≤ (pw_s xs (i + 2)) ∧ (pw_s xs (i + 2)) ≤ 1 ∧ 0 ≤ (pw_s xs (i + 3)) ∧ (pw_s xs (i + 3)) ≤ 999 ∧ 0 ≤ (pw_s xs (i + 4)) ∧ (pw_s xs (i + 4)) ≤ 99)) := hx37r
      have h36Rb := pw_RbE h25I h36E h25Rb rfl
      refine pwl_ld E (pc' := 306) (st' := []) rfl (fun _ => rfl) ?_
      refine pwl_goto E (pc' := 2341) rfl (by decide) ?_
      exact pwl_mono (by omega) (hB h36 (a5) (a6) (a7) h36I h36K h36Rb (by omega) (by omega) s5 s6 s7)
set_option maxHeartbeats 4000000 in
theorem lc_1 {X : List (Nat × List Value)} {xs : List Int32} {K : Nat} {h : pm_H} {Q : pm_H → (Option Value ⊕ Unit) → Prop} (hX0 : X[0]? = some (0, xs.map Value.int)) (hl : xs.length ≤ 3584) (hX : pw_Xk X) (hR : pw_Xr X) (hS : pw_Xs X) (hF : pw_Xf X) (I : pw_I h) (hK : pw_K h) (hRb : pw_Rb h) (i : Int) (hi0 : 0 ≤ i) (hi1 : i + 7 ≤ xs.length) (a5 a6 a7 : Option Value) (s5 : ∀ n, pm_scl n a5 = true) (s6 : ∀ n, pm_scl n a6 = true) (s7 : ∀ n, pm_scl n a7 = true) (hB : ∀ (h' : pm_H) (b5 b6 b7 : Option Value), pw_I h' → pw_K h' → pw_Rb h' → h'.length ≤ h.length + 1 → pm_slt h' ≤ pm_slt h + 1000 → (∀ n, pm_scl n b5 = true) → (∀ n, pm_scl n b6 = true) → (∀ n, pm_scl n b7 = true) → pwl X K h' 2341 [some (.ref 0), some (.ref 16), some (.ref 141), some (.ref 185), some (pw_i i), b5, b6, b7] [] Q) : pwl X (K + 150) h 309 [some (.ref 0), some (.ref 16), some (.ref 141), some (.ref 185), some (pw_i i), a5, a6, a7] [] Q := by
  have E : pm_ent 309 = some (1, 8, 13, 1, pmc_309) := rfl
  refine pwl_ld E (pc' := 310) (st' := [.ref 16]) rfl (fun _ => rfl) ?_
  refine pwl_ld E (pc' := 311) (st' := [.ref 0, .ref 16]) rfl (fun _ => rfl) ?_
  refine pwl_ld E (pc' := 313) (st' := [pw_i i, .ref 0, .ref 16]) rfl (fun _ => rfl) ?_
  refine pwl_ld E (pc' := 314) (st' := [pw_i 1, pw_i i, .ref 0, .ref 16]) rfl (fun _ => rfl) ?_
  refine pwl_add E (pc' := 315) rfl rfl ?_
  refine pwl_sald E (pc' := 316) rfl hX0 hl (by omega) (by omega) rfl ?_
  have hs1 := pw_s_r xs (i + 1)
  refine pwl_ld E (pc' := 317) (st' := [.ref 0, pw_i (pw_s xs (i + 1)), .ref 16]) rfl (fun _ => rfl) ?_
  refine pwl_ld E (pc' := 319) (st' := [pw_i i, .ref 0, pw_i (pw_s xs (i + 1)), .ref 16]) rfl (fun _ => rfl) ?_
  refine pwl_ld E (pc' := 320) (st' := [pw_i 2, pw_i i, .ref 0, pw_i (pw_s xs (i + 1)), .ref 16]) rfl (fun _ => rfl) ?_
  refine pwl_add E (pc' := 321) rfl rfl ?_
  refine pwl_sald E (pc' := 322) rfl hX0 hl (by omega) (by omega) rfl ?_
  have hs2 := pw_s_r xs (i + 2)
  refine pwl_ld E (pc' := 323) (st' := [.ref 0, pw_i (pw_s xs (i + 2)), pw_i (pw_s xs (i + 1)), .ref 16]) rfl (fun _ => rfl) ?_
  refine pwl_ld E (pc' := 325) (st' := [pw_i i, .ref 0, pw_i (pw_s xs (i + 2)), pw_i (pw_s xs (i + 1)), .ref 16]) rfl (fun _ => rfl) ?_
  refine pwl_ld E (pc' := 326) (st' := [pw_i 3, pw_i i, .ref 0, pw_i (pw_s xs (i + 2)), pw_i (pw_s xs (i + 1)), .ref 16]) rfl (fun _ => rfl) ?_
  refine pwl_add E (pc' := 327) rfl rfl ?_
  refine pwl_sald E (pc' := 328) rfl hX0 hl (by omega) (by omega) rfl ?_
  have hs3 := pw_s_r xs (i + 3)
  refine pwl_ld E (pc' := 329) (st' := [.ref 0, pw_i (pw_s xs (i + 3)), pw_i (pw_s xs (i + 2)), pw_i (pw_s xs (i + 1)), .ref 16]) rfl (fun _ => rfl) ?_
  refine pwl_ld E (pc' := 331) (st' := [pw_i i, .ref 0, pw_i (pw_s xs (i + 3)), pw_i (pw_s xs (i + 2)), pw_i (pw_s xs (i + 1)), .ref 16]) rfl (fun _ => rfl) ?_
  refine pwl_ld E (pc' := 332) (st' := [pw_i 4, pw_i i, .ref 0, pw_i (pw_s xs (i + 3)), pw_i (pw_s xs (i + 2)), pw_i (pw_s xs (i + 1)), .ref 16]) rfl (fun _ => rfl) ?_
  refine pwl_add E (pc' := 333) rfl rfl ?_
  refine pwl_sald E (pc' := 334) rfl hX0 hl (by omega) (by omega) rfl ?_
  have hs4 := pw_s_r xs (i + 4)
  obtain ⟨f5l, f5h, -⟩ := pw_obj (c := 0) I rfl
  refine pwl_call (m' := 123) (As := [.ref 16, pw_i (pw_s xs (i + 1)), pw_i (pw_s xs (i + 2)), pw_i (pw_s xs (i + 3)), pw_i (pw_s xs (i + 4))]) (rest := []) (ls'' := [some (.ref 16), some (pw_i (pw_s xs (i + 1))), some (pw_i (pw_s xs (i + 2))), some (pw_i (pw_s xs (i + 3))), some (pw_i (pw_s xs (i + 4)))]) E rfl (fun _ => pwl_iV rfl rfl rfl (pw_cellI f5h rfl)) (rfl : pm_ent 123 = some (5, 5, 11, 1, pmc_123)) (by decide) rfl rfl (cm_123 (by decide) I (pw_s xs (i + 1)) (by omega) (by omega) (pw_s xs (i + 2)) (by omega) (by omega) (pw_s xs (i + 3)) (by omega) (by omega) (pw_s xs (i + 4)) (by omega) (by omega)) ?_
  rintro h7 v6 ⟨h7I, h7E, x8, rfl, hx8a, hx8b⟩
  refine ⟨_, rfl, ?_⟩
  have h7K := pw_KE I h7E hK rfl
  have h7L := h7E.1
  show pwl X _ h7 337 [some (.ref 0), some (.ref 16), some (.ref 141), some (.ref 185), some (pw_i i), a5, a6, a7] [pw_i x8] _
  have h7Rb := pw_RbE I h7E hRb rfl
  refine pwl_ld E (pc' := 338) (st' := []) rfl (fun _ => rfl) ?_
  refine pwl_ld E (pc' := 339) (st' := [.ref 141]) rfl (fun _ => rfl) ?_
  refine pwl_ld E (pc' := 340) (st' := [.ref 0, .ref 141]) rfl (fun _ => rfl) ?_
  refine pwl_ld E (pc' := 342) (st' := [pw_i i, .ref 0, .ref 141]) rfl (fun _ => rfl) ?_
  refine pwl_ld E (pc' := 343) (st' := [pw_i 1, pw_i i, .ref 0, .ref 141]) rfl (fun _ => rfl) ?_
  refine pwl_add E (pc' := 344) rfl rfl ?_
  refine pwl_sald E (pc' := 345) rfl hX0 hl (by omega) (by omega) rfl ?_
  have hs9 := pw_s_r xs (i + 1)
  refine pwl_ld E (pc' := 346) (st' := [.ref 0, pw_i (pw_s xs (i + 1)), .ref 141]) rfl (fun _ => rfl) ?_
  refine pwl_ld E (pc' := 348) (st' := [pw_i i, .ref 0, pw_i (pw_s xs (i + 1)), .ref 141]) rfl (fun _ => rfl) ?_
  refine pwl_ld E (pc' := 349) (st' := [pw_i 2, pw_i i, .ref 0, pw_i (pw_s xs (i + 1)), .ref 141]) rfl (fun _ => rfl) ?_
  refine pwl_add E (pc' := 350) rfl rfl ?_
  refine pwl_sald E (pc' := 351) rfl hX0 hl (by omega) (by omega) rfl ?_
  have hs10 := pw_s_r xs (i + 2)
  refine pwl_ld E (pc' := 352) (st' := [.ref 0, pw_i (pw_s xs (i + 2)), pw_i (pw_s xs (i + 1)), .ref 141]) rfl (fun _ => rfl) ?_
  refine pwl_ld E (pc' := 354) (st' := [pw_i i, .ref 0, pw_i (pw_s xs (i + 2)), pw_i (pw_s xs (i + 1)), .ref 141]) rfl (fun _ => rfl) ?_
  refine pwl_ld E (pc' := 355) (st' := [pw_i 3, pw_i i, .ref 0, pw_i (pw_s xs (i + 2)), pw_i (pw_s xs (i + 1)), .ref 141]) rfl (fun _ => rfl) ?_
  refine pwl_add E (pc' := 356) rfl rfl ?_
  refine pwl_sald E (pc' := 357) rfl hX0 hl (by omega) (by omega) rfl ?_
  have hs11 := pw_s_r xs (i + 3)
  refine pwl_ld E (pc' := 358) (st' := [.ref 0, pw_i (pw_s xs (i + 3)), pw_i (pw_s xs (i + 2)), pw_i (pw_s xs (i + 1)), .ref 141]) rfl (fun _ => rfl) ?_
  refine pwl_ld E (pc' := 360) (st' := [pw_i i, .ref 0, pw_i (pw_s xs (i + 3)), pw_i (pw_s xs (i + 2)), pw_i (pw_s xs (i + 1)), .ref 141]) rfl (fun _ => rfl) ?_
  refine pwl_ld E (pc' := 361) (st' := [pw_i 4, pw_i i, .ref 0, pw_i (pw_s xs (i + 3)), pw_i (pw_s xs (i + 2)), pw_i (pw_s xs (i + 1)), .ref 141]) rfl (fun _ => rfl) ?_
  refine pwl_add E (pc' := 362) rfl rfl ?_
  refine pwl_sald E (pc' := 363) rfl hX0 hl (by omega) (by omega) rfl ?_
  have hs12 := pw_s_r xs (i + 4)
  obtain ⟨f13l, f13h, -⟩ := pw_obj (c := 125) h7I rfl
  refine pwl_call (m' := 203) (As := [.ref 141, pw_i (pw_s xs (i + 1)), pw_i (pw_s xs (i + 2)), pw_i (pw_s xs (i + 3)), pw_i (pw_s xs (i + 4))]) (rest := []) (ls'' := [some (.ref 141), some (pw_i (pw_s xs (i + 1))), some (pw_i (pw_s xs (i + 2))), some (pw_i (pw_s xs (i + 3))), some (pw_i (pw_s xs (i + 4))), none, none, none]) E rfl (fun _ => pwl_iV rfl rfl rfl (pw_cellI f13h rfl)) (rfl : pm_ent 203 = some (5, 8, 12, 1, pmc_203)) (by decide) rfl rfl (cm_203 (by decide) h7I (pw_s xs (i + 1)) (by omega) (by omega) (pw_s xs (i + 2)) (by omega) (by omega) (pw_s xs (i + 3)) (by omega) (by omega) (pw_s xs (i + 4)) (by omega) (by omega)) ?_
  rintro h15 v14 ⟨h15I, h15E, x16, rfl, hx16a, hx16b⟩
  refine ⟨_, rfl, ?_⟩
  have h15K := pw_KE h7I h15E h7K rfl
  have h15L := h15E.1
  show pwl X _ h15 366 [some (.ref 0), some (.ref 16), some (.ref 141), some (.ref 185), some (pw_i i), a5, a6, a7] [pw_i x16] _
  have h15Rb := pw_RbE h7I h15E h7Rb rfl
  refine pwl_ld E (pc' := 367) (st' := []) rfl (fun _ => rfl) ?_
  refine pwl_goto E (pc' := 2341) rfl (by decide) ?_
  exact pwl_mono (by omega) (hB h15 (a5) (a6) (a7) h15I h15K h15Rb (by omega) (by omega) s5 s6 s7)
set_option maxHeartbeats 4000000 in
theorem lc_2 {X : List (Nat × List Value)} {xs : List Int32} {K : Nat} {h : pm_H} {Q : pm_H → (Option Value ⊕ Unit) → Prop} (hX0 : X[0]? = some (0, xs.map Value.int)) (hl : xs.length ≤ 3584) (hX : pw_Xk X) (hR : pw_Xr X) (hS : pw_Xs X) (hF : pw_Xf X) (I : pw_I h) (hK : pw_K h) (hRb : pw_Rb h) (i : Int) (hi0 : 0 ≤ i) (hi1 : i + 7 ≤ xs.length) (a5 a6 a7 : Option Value) (s5 : ∀ n, pm_scl n a5 = true) (s6 : ∀ n, pm_scl n a6 = true) (s7 : ∀ n, pm_scl n a7 = true) (hB : ∀ (h' : pm_H) (b5 b6 b7 : Option Value), pw_I h' → pw_K h' → pw_Rb h' → h'.length ≤ h.length + 1 → pm_slt h' ≤ pm_slt h + 1000 → (∀ n, pm_scl n b5 = true) → (∀ n, pm_scl n b6 = true) → (∀ n, pm_scl n b7 = true) → pwl X K h' 2341 [some (.ref 0), some (.ref 16), some (.ref 141), some (.ref 185), some (pw_i i), b5, b6, b7] [] Q) : pwl X (K + 150) h 370 [some (.ref 0), some (.ref 16), some (.ref 141), some (.ref 185), some (pw_i i), a5, a6, a7] [] Q := by
  have E : pm_ent 309 = some (1, 8, 13, 1, pmc_309) := rfl
  refine pwl_ld E (pc' := 371) (st' := [.ref 16]) rfl (fun _ => rfl) ?_
  refine pwl_ld E (pc' := 372) (st' := [.ref 0, .ref 16]) rfl (fun _ => rfl) ?_
  refine pwl_ld E (pc' := 374) (st' := [pw_i i, .ref 0, .ref 16]) rfl (fun _ => rfl) ?_
  refine pwl_ld E (pc' := 375) (st' := [pw_i 1, pw_i i, .ref 0, .ref 16]) rfl (fun _ => rfl) ?_
  refine pwl_add E (pc' := 376) rfl rfl ?_
  refine pwl_sald E (pc' := 377) rfl hX0 hl (by omega) (by omega) rfl ?_
  have hs1 := pw_s_r xs (i + 1)
  refine pwl_ld E (pc' := 378) (st' := [.ref 0, pw_i (pw_s xs (i + 1)), .ref 16]) rfl (fun _ => rfl) ?_
  refine pwl_ld E (pc' := 380) (st' := [pw_i i, .ref 0, pw_i (pw_s xs (i + 1)), .ref 16]) rfl (fun _ => rfl) ?_
  refine pwl_ld E (pc' := 381) (st' := [pw_i 2, pw_i i, .ref 0, pw_i (pw_s xs (i + 1)), .ref 16]) rfl (fun _ => rfl) ?_
  refine pwl_add E (pc' := 382) rfl rfl ?_
  refine pwl_sald E (pc' := 383) rfl hX0 hl (by omega) (by omega) rfl ?_
  have hs2 := pw_s_r xs (i + 2)
  refine pwl_ld E (pc' := 384) (st' := [.ref 0, pw_i (pw_s xs (i + 2)), pw_i (pw_s xs (i + 1)), .ref 16]) rfl (fun _ => rfl) ?_
  refine pwl_ld E (pc' := 386) (st' := [pw_i i, .ref 0, pw_i (pw_s xs (i + 2)), pw_i (pw_s xs (i + 1)), .ref 16]) rfl (fun _ => rfl) ?_
  refine pwl_ld E (pc' := 387) (st' := [pw_i 3, pw_i i, .ref 0, pw_i (pw_s xs (i + 2)), pw_i (pw_s xs (i + 1)), .ref 16]) rfl (fun _ => rfl) ?_
  refine pwl_add E (pc' := 388) rfl rfl ?_
  refine pwl_sald E (pc' := 389) rfl hX0 hl (by omega) (by omega) rfl ?_
  have hs3 := pw_s_r xs (i + 3)
  refine pwl_ld E (pc' := 390) (st' := [.ref 0, pw_i (pw_s xs (i + 3)), pw_i (pw_s xs (i + 2)), pw_i (pw_s xs (i + 1)), .ref 16]) rfl (fun _ => rfl) ?_
  refine pwl_ld E (pc' := 392) (st' := [pw_i i, .ref 0, pw_i (pw_s xs (i + 3)), pw_i (pw_s xs (i + 2)), pw_i (pw_s xs (i + 1)), .ref 16]) rfl (fun _ => rfl) ?_
  refine pwl_ld E (pc' := 393) (st' := [pw_i 4, pw_i i, .ref 0, pw_i (pw_s xs (i + 3)), pw_i (pw_s xs (i + 2)), pw_i (pw_s xs (i + 1)), .ref 16]) rfl (fun _ => rfl) ?_
  refine pwl_add E (pc' := 394) rfl rfl ?_
  refine pwl_sald E (pc' := 395) rfl hX0 hl (by omega) (by omega) rfl ?_
  have hs4 := pw_s_r xs (i + 4)
  obtain ⟨f5l, f5h, -⟩ := pw_obj (c := 0) I rfl
  refine pwl_call (m' := 126) (As := [.ref 16, pw_i (pw_s xs (i + 1)), pw_i (pw_s xs (i + 2)), pw_i (pw_s xs (i + 3)), pw_i (pw_s xs (i + 4))]) (rest := []) (ls'' := [some (.ref 16), some (pw_i (pw_s xs (i + 1))), some (pw_i (pw_s xs (i + 2))), some (pw_i (pw_s xs (i + 3))), some (pw_i (pw_s xs (i + 4)))]) E rfl (fun _ => pwl_iV rfl rfl rfl (pw_cellI f5h rfl)) (rfl : pm_ent 126 = some (5, 5, 11, 1, pmc_126)) (by decide) rfl rfl (cm_126 (by decide) I (pw_s xs (i + 1)) (by omega) (by omega) (pw_s xs (i + 2)) (by omega) (by omega) (pw_s xs (i + 3)) (by omega) (by omega) (pw_s xs (i + 4)) (by omega) (by omega)) ?_
  rintro h7 v6 ⟨h7I, h7E, x8, rfl, hx8a, hx8b⟩
  refine ⟨_, rfl, ?_⟩
  have h7K := pw_KE I h7E hK rfl
  have h7L := h7E.1
  show pwl X _ h7 398 [some (.ref 0), some (.ref 16), some (.ref 141), some (.ref 185), some (pw_i i), a5, a6, a7] [pw_i x8] _
  have h7Rb := pw_RbE I h7E hRb rfl
  refine pwl_ld E (pc' := 399) (st' := []) rfl (fun _ => rfl) ?_
  refine pwl_ld E (pc' := 400) (st' := [.ref 141]) rfl (fun _ => rfl) ?_
  refine pwl_ld E (pc' := 401) (st' := [.ref 0, .ref 141]) rfl (fun _ => rfl) ?_
  refine pwl_ld E (pc' := 403) (st' := [pw_i i, .ref 0, .ref 141]) rfl (fun _ => rfl) ?_
  refine pwl_ld E (pc' := 404) (st' := [pw_i 1, pw_i i, .ref 0, .ref 141]) rfl (fun _ => rfl) ?_
  refine pwl_add E (pc' := 405) rfl rfl ?_
  refine pwl_sald E (pc' := 406) rfl hX0 hl (by omega) (by omega) rfl ?_
  have hs9 := pw_s_r xs (i + 1)
  refine pwl_ld E (pc' := 407) (st' := [.ref 0, pw_i (pw_s xs (i + 1)), .ref 141]) rfl (fun _ => rfl) ?_
  refine pwl_ld E (pc' := 409) (st' := [pw_i i, .ref 0, pw_i (pw_s xs (i + 1)), .ref 141]) rfl (fun _ => rfl) ?_
  refine pwl_ld E (pc' := 410) (st' := [pw_i 2, pw_i i, .ref 0, pw_i (pw_s xs (i + 1)), .ref 141]) rfl (fun _ => rfl) ?_
  refine pwl_add E (pc' := 411) rfl rfl ?_
  refine pwl_sald E (pc' := 412) rfl hX0 hl (by omega) (by omega) rfl ?_
  have hs10 := pw_s_r xs (i + 2)
  refine pwl_ld E (pc' := 413) (st' := [.ref 0, pw_i (pw_s xs (i + 2)), pw_i (pw_s xs (i + 1)), .ref 141]) rfl (fun _ => rfl) ?_
  refine pwl_ld E (pc' := 415) (st' := [pw_i i, .ref 0, pw_i (pw_s xs (i + 2)), pw_i (pw_s xs (i + 1)), .ref 141]) rfl (fun _ => rfl) ?_
  refine pwl_ld E (pc' := 416) (st' := [pw_i 3, pw_i i, .ref 0, pw_i (pw_s xs (i + 2)), pw_i (pw_s xs (i + 1)), .ref 141]) rfl (fun _ => rfl) ?_
  refine pwl_add E (pc' := 417) rfl rfl ?_
  refine pwl_sald E (pc' := 418) rfl hX0 hl (by omega) (by omega) rfl ?_
  have hs11 := pw_s_r xs (i + 3)
  refine pwl_ld E (pc' := 419) (st' := [.ref 0, pw_i (pw_s xs (i + 3)), pw_i (pw_s xs (i + 2)), pw_i (pw_s xs (i + 1)), .ref 141]) rfl (fun _ => rfl) ?_
  refine pwl_ld E (pc' := 421) (st' := [pw_i i, .ref 0, pw_i (pw_s xs (i + 3)), pw_i (pw_s xs (i + 2)), pw_i (pw_s xs (i + 1)), .ref 141]) rfl (fun _ => rfl) ?_
  refine pwl_ld E (pc' := 422) (st' := [pw_i 4, pw_i i, .ref 0, pw_i (pw_s xs (i + 3)), pw_i (pw_s xs (i + 2)), pw_i (pw_s xs (i + 1)), .ref 141]) rfl (fun _ => rfl) ?_
  refine pwl_add E (pc' := 423) rfl rfl ?_
  refine pwl_sald E (pc' := 424) rfl hX0 hl (by omega) (by omega) rfl ?_
  have hs12 := pw_s_r xs (i + 4)
  obtain ⟨f13l, f13h, -⟩ := pw_obj (c := 125) h7I rfl
  refine pwl_call (m' := 206) (As := [.ref 141, pw_i (pw_s xs (i + 1)), pw_i (pw_s xs (i + 2)), pw_i (pw_s xs (i + 3)), pw_i (pw_s xs (i + 4))]) (rest := []) (ls'' := [some (.ref 141), some (pw_i (pw_s xs (i + 1))), some (pw_i (pw_s xs (i + 2))), some (pw_i (pw_s xs (i + 3))), some (pw_i (pw_s xs (i + 4))), none]) E rfl (fun _ => pwl_iV rfl rfl rfl (pw_cellI f13h rfl)) (rfl : pm_ent 206 = some (5, 6, 12, 1, pmc_206)) (by decide) rfl rfl (cm_206 (by decide) h7I (pw_s xs (i + 1)) (by omega) (by omega) (pw_s xs (i + 2)) (by omega) (by omega) (pw_s xs (i + 3)) (by omega) (by omega) (pw_s xs (i + 4)) (by omega) (by omega)) ?_
  rintro h15 v14 ⟨h15I, h15E, x16, rfl, hx16a, hx16b⟩
  refine ⟨_, rfl, ?_⟩
  have h15K := pw_KE h7I h15E h7K rfl
  have h15L := h15E.1
  show pwl X _ h15 427 [some (.ref 0), some (.ref 16), some (.ref 141), some (.ref 185), some (pw_i i), a5, a6, a7] [pw_i x16] _
  have h15Rb := pw_RbE h7I h15E h7Rb rfl
  refine pwl_ld E (pc' := 428) (st' := []) rfl (fun _ => rfl) ?_
  refine pwl_goto E (pc' := 2341) rfl (by decide) ?_
  exact pwl_mono (by omega) (hB h15 (a5) (a6) (a7) h15I h15K h15Rb (by omega) (by omega) s5 s6 s7)
set_option maxHeartbeats 4000000 in
theorem lc_3 {X : List (Nat × List Value)} {xs : List Int32} {K : Nat} {h : pm_H} {Q : pm_H → (Option Value ⊕ Unit) → Prop} (hX0 : X[0]? = some (0, xs.map Value.int)) (hl : xs.length ≤ 3584) (hX : pw_Xk X) (hR : pw_Xr X) (hS : pw_Xs X) (hF : pw_Xf X) (I : pw_I h) (hK : pw_K h) (hRb : pw_Rb h) (i : Int) (hi0 : 0 ≤ i) (hi1 : i + 7 ≤ xs.length) (a5 a6 a7 : Option Value) (s5 : ∀ n, pm_scl n a5 = true) (s6 : ∀ n, pm_scl n a6 = true) (s7 : ∀ n, pm_scl n a7 = true) (hB : ∀ (h' : pm_H) (b5 b6 b7 : Option Value), pw_I h' → pw_K h' → pw_Rb h' → h'.length ≤ h.length + 1 → pm_slt h' ≤ pm_slt h + 1000 → (∀ n, pm_scl n b5 = true) → (∀ n, pm_scl n b6 = true) → (∀ n, pm_scl n b7 = true) → pwl X K h' 2341 [some (.ref 0), some (.ref 16), some (.ref 141), some (.ref 185), some (pw_i i), b5, b6, b7] [] Q) : pwl X (K + 150) h 431 [some (.ref 0), some (.ref 16), some (.ref 141), some (.ref 185), some (pw_i i), a5, a6, a7] [] Q := by
  have E : pm_ent 309 = some (1, 8, 13, 1, pmc_309) := rfl
  refine pwl_ld E (pc' := 432) (st' := [.ref 16]) rfl (fun _ => rfl) ?_
  refine pwl_ld E (pc' := 433) (st' := [.ref 0, .ref 16]) rfl (fun _ => rfl) ?_
  refine pwl_ld E (pc' := 435) (st' := [pw_i i, .ref 0, .ref 16]) rfl (fun _ => rfl) ?_
  refine pwl_ld E (pc' := 436) (st' := [pw_i 1, pw_i i, .ref 0, .ref 16]) rfl (fun _ => rfl) ?_
  refine pwl_add E (pc' := 437) rfl rfl ?_
  refine pwl_sald E (pc' := 438) rfl hX0 hl (by omega) (by omega) rfl ?_
  have hs1 := pw_s_r xs (i + 1)
  obtain ⟨f2l, f2h, -⟩ := pw_obj (c := 0) I rfl
  refine pwl_call (m' := 127) (As := [.ref 16, pw_i (pw_s xs (i + 1))]) (rest := []) (ls'' := [some (.ref 16), some (pw_i (pw_s xs (i + 1)))]) E rfl (fun _ => pwl_iV rfl rfl rfl (pw_cellI f2h rfl)) (rfl : pm_ent 127 = some (2, 2, 11, 1, pmc_127)) (by decide) rfl rfl (cm_127 (by decide) I (pw_s xs (i + 1)) (by omega) (by omega)) ?_
  rintro h4 v3 ⟨h4I, h4E, x5, rfl, hx5a, hx5b, hx5r⟩
  refine ⟨_, rfl, ?_⟩
  have h4K := pw_KE I h4E hK rfl
  have h4L := h4E.1
  show pwl X _ h4 441 [some (.ref 0), some (.ref 16), some (.ref 141), some (.ref 185), some (pw_i i), a5, a6, a7] [pw_i x5] _
  have hx5r : (x5 = 1 ∧ 0 ≤ (pw_s xs (i + 1)) ∧ (pw_s xs (i + 1)) ≤ 10) ∨ (x5 = 0 ∧ ¬ (0 ≤ (pw_s xs (i + 1)) ∧ (pw_s xs (i + 1)) ≤ 10)) := hx5r
  have h4Rb := pw_RbE I h4E hRb rfl
  refine pwl_ld E (pc' := 442) (st' := []) rfl (fun _ => rfl) ?_
  refine pwl_ld E (pc' := 443) (st' := [.ref 141]) rfl (fun _ => rfl) ?_
  refine pwl_ld E (pc' := 444) (st' := [.ref 0, .ref 141]) rfl (fun _ => rfl) ?_
  refine pwl_ld E (pc' := 446) (st' := [pw_i i, .ref 0, .ref 141]) rfl (fun _ => rfl) ?_
  refine pwl_ld E (pc' := 447) (st' := [pw_i 1, pw_i i, .ref 0, .ref 141]) rfl (fun _ => rfl) ?_
  refine pwl_add E (pc' := 448) rfl rfl ?_
  refine pwl_sald E (pc' := 449) rfl hX0 hl (by omega) (by omega) rfl ?_
  have hs6 := pw_s_r xs (i + 1)
  obtain ⟨f7l, f7h, -⟩ := pw_obj (c := 125) h4I rfl
  refine pwl_call (m' := 207) (As := [.ref 141, pw_i (pw_s xs (i + 1))]) (rest := []) (ls'' := [some (.ref 141), some (pw_i (pw_s xs (i + 1)))]) E rfl (fun _ => pwl_iV rfl rfl rfl (pw_cellI f7h rfl)) (rfl : pm_ent 207 = some (2, 2, 12, 1, pmc_207)) (by decide) rfl rfl (cm_207 (by decide) h4I (pw_s xs (i + 1)) (by omega) (by omega)) ?_
  rintro h9 v8 ⟨h9I, h9E, x10, rfl, hx10a, hx10b, hx10r⟩
  refine ⟨_, rfl, ?_⟩
  have h9K := pw_KE h4I h9E h4K rfl
  have h9L := h9E.1
  show pwl X _ h9 452 [some (.ref 0), some (.ref 16), some (.ref 141), some (.ref 185), some (pw_i i), a5, a6, a7] [pw_i x10] _
  have hx10r : (x10 = 1 ∧ 0 ≤ (pw_s xs (i + 1)) ∧ (pw_s xs (i + 1)) ≤ 10) ∨ (x10 = 0 ∧ ¬ (0 ≤ (pw_s xs (i + 1)) ∧ (pw_s xs (i + 1)) ≤ 10)) := hx10r
  have h9Rb := pw_RbE h4I h9E h4Rb rfl
  refine pwl_ld E (pc' := 453) (st' := []) rfl (fun _ => rfl) ?_
  refine pwl_goto E (pc' := 2341) rfl (by decide) ?_
  exact pwl_mono (by omega) (hB h9 (a5) (a6) (a7) h9I h9K h9Rb (by omega) (by omega) s5 s6 s7)
set_option maxHeartbeats 4000000 in
theorem lc_4 {X : List (Nat × List Value)} {xs : List Int32} {K : Nat} {h : pm_H} {Q : pm_H → (Option Value ⊕ Unit) → Prop} (hX0 : X[0]? = some (0, xs.map Value.int)) (hl : xs.length ≤ 3584) (hX : pw_Xk X) (hR : pw_Xr X) (hS : pw_Xs X) (hF : pw_Xf X) (I : pw_I h) (hK : pw_K h) (hRb : pw_Rb h) (i : Int) (hi0 : 0 ≤ i) (hi1 : i + 7 ≤ xs.length) (a5 a6 a7 : Option Value) (s5 : ∀ n, pm_scl n a5 = true) (s6 : ∀ n, pm_scl n a6 = true) (s7 : ∀ n, pm_scl n a7 = true) (hB : ∀ (h' : pm_H) (b5 b6 b7 : Option Value), pw_I h' → pw_K h' → pw_Rb h' → h'.length ≤ h.length + 1 → pm_slt h' ≤ pm_slt h + 1000 → (∀ n, pm_scl n b5 = true) → (∀ n, pm_scl n b6 = true) → (∀ n, pm_scl n b7 = true) → pwl X K h' 2341 [some (.ref 0), some (.ref 16), some (.ref 141), some (.ref 185), some (pw_i i), b5, b6, b7] [] Q) : pwl X (K + 150) h 456 [some (.ref 0), some (.ref 16), some (.ref 141), some (.ref 185), some (pw_i i), a5, a6, a7] [] Q := by
  have E : pm_ent 309 = some (1, 8, 13, 1, pmc_309) := rfl
  refine pwl_ld E (pc' := 457) (st' := [.ref 16]) rfl (fun _ => rfl) ?_
  refine pwl_ld E (pc' := 458) (st' := [.ref 0, .ref 16]) rfl (fun _ => rfl) ?_
  refine pwl_ld E (pc' := 460) (st' := [pw_i i, .ref 0, .ref 16]) rfl (fun _ => rfl) ?_
  refine pwl_ld E (pc' := 461) (st' := [pw_i 1, pw_i i, .ref 0, .ref 16]) rfl (fun _ => rfl) ?_
  refine pwl_add E (pc' := 462) rfl rfl ?_
  refine pwl_sald E (pc' := 463) rfl hX0 hl (by omega) (by omega) rfl ?_
  have hs1 := pw_s_r xs (i + 1)
  refine pwl_ld E (pc' := 464) (st' := [.ref 0, pw_i (pw_s xs (i + 1)), .ref 16]) rfl (fun _ => rfl) ?_
  refine pwl_ld E (pc' := 466) (st' := [pw_i i, .ref 0, pw_i (pw_s xs (i + 1)), .ref 16]) rfl (fun _ => rfl) ?_
  refine pwl_ld E (pc' := 467) (st' := [pw_i 2, pw_i i, .ref 0, pw_i (pw_s xs (i + 1)), .ref 16]) rfl (fun _ => rfl) ?_
  refine pwl_add E (pc' := 468) rfl rfl ?_
  refine pwl_sald E (pc' := 469) rfl hX0 hl (by omega) (by omega) rfl ?_
  have hs2 := pw_s_r xs (i + 2)
  refine pwl_ld E (pc' := 470) (st' := [.ref 0, pw_i (pw_s xs (i + 2)), pw_i (pw_s xs (i + 1)), .ref 16]) rfl (fun _ => rfl) ?_
  refine pwl_ld E (pc' := 472) (st' := [pw_i i, .ref 0, pw_i (pw_s xs (i + 2)), pw_i (pw_s xs (i + 1)), .ref 16]) rfl (fun _ => rfl) ?_
  refine pwl_ld E (pc' := 473) (st' := [pw_i 3, pw_i i, .ref 0, pw_i (pw_s xs (i + 2)), pw_i (pw_s xs (i + 1)), .ref 16]) rfl (fun _ => rfl) ?_
  refine pwl_add E (pc' := 474) rfl rfl ?_
  refine pwl_sald E (pc' := 475) rfl hX0 hl (by omega) (by omega) rfl ?_
  have hs3 := pw_s_r xs (i + 3)
  refine pwl_ld E (pc' := 476) (st' := [.ref 0, pw_i (pw_s xs (i + 3)), pw_i (pw_s xs (i + 2)), pw_i (pw_s xs (i + 1)), .ref 16]) rfl (fun _ => rfl) ?_
  refine pwl_ld E (pc' := 478) (st' := [pw_i i, .ref 0, pw_i (pw_s xs (i + 3)), pw_i (pw_s xs (i + 2)), pw_i (pw_s xs (i + 1)), .ref 16]) rfl (fun _ => rfl) ?_
  refine pwl_ld E (pc' := 479) (st' := [pw_i 4, pw_i i, .ref 0, pw_i (pw_s xs (i + 3)), pw_i (pw_s xs (i + 2)), pw_i (pw_s xs (i + 1)), .ref 16]) rfl (fun _ => rfl) ?_
  refine pwl_add E (pc' := 480) rfl rfl ?_
  refine pwl_sald E (pc' := 481) rfl hX0 hl (by omega) (by omega) rfl ?_
  have hs4 := pw_s_r xs (i + 4)
  obtain ⟨f5l, f5h, -⟩ := pw_obj (c := 0) I rfl
  refine pwl_call (m' := 128) (As := [.ref 16, pw_i (pw_s xs (i + 1)), pw_i (pw_s xs (i + 2)), pw_i (pw_s xs (i + 3)), pw_i (pw_s xs (i + 4))]) (rest := []) (ls'' := [some (.ref 16), some (pw_i (pw_s xs (i + 1))), some (pw_i (pw_s xs (i + 2))), some (pw_i (pw_s xs (i + 3))), some (pw_i (pw_s xs (i + 4)))]) E rfl (fun _ => pwl_iV rfl rfl rfl (pw_cellI f5h rfl)) (rfl : pm_ent 128 = some (5, 5, 11, 1, pmc_128)) (by decide) rfl rfl (cm_128 (by decide) I (pw_s xs (i + 1)) (by omega) (by omega) (pw_s xs (i + 2)) (by omega) (by omega) (pw_s xs (i + 3)) (by omega) (by omega) (pw_s xs (i + 4)) (by omega) (by omega)) ?_
  rintro h7 v6 ⟨h7I, h7E, x8, rfl, hx8a, hx8b, hx8r⟩
  refine ⟨_, rfl, ?_⟩
  have h7K := pw_KE I h7E hK rfl
  have h7L := h7E.1
  show pwl X _ h7 484 [some (.ref 0), some (.ref 16), some (.ref 141), some (.ref 185), some (pw_i i), a5, a6, a7] [pw_i x8] _
  have hx8r : (x8 = 1 ∧ 0 ≤ (pw_s xs (i + 1)) ∧ (pw_s xs (i + 1)) ≤ 1 ∧ 0 ≤ (pw_s xs (i + 2)) ∧ (pw_s xs (i + 2)) ≤ 11 ∧ 0 ≤ (pw_s xs (i + 3)) ∧ (pw_s xs (i + 3)) ≤ 999 ∧ (-99) ≤ (pw_s xs (i + 4)) ∧ (pw_s xs (i + 4)) ≤ 99) ∨ (x8 = 0 ∧ ¬ (0 ≤ (pw_s xs (i + 1)) ∧ (pw_s xs (i + 1)) ≤ 1 ∧ 0 ≤ (pw_s xs (i + 2)) ∧ (pw_s xs (i + 2)) ≤ 11 ∧ 0 ≤ (pw_s xs (i + 3)) ∧ (pw_s xs (i + 3)) ≤ 999 ∧ (-99) ≤ (pw_s xs (i + 4)) ∧ (pw_s xs (i + 4)) ≤ 99)) := hx8r
  have h7Rb := pw_RbE I h7E hRb rfl
  refine pwl_ld E (pc' := 485) (st' := []) rfl (fun _ => rfl) ?_
  refine pwl_ld E (pc' := 486) (st' := [.ref 141]) rfl (fun _ => rfl) ?_
  refine pwl_ld E (pc' := 487) (st' := [.ref 0, .ref 141]) rfl (fun _ => rfl) ?_
  refine pwl_ld E (pc' := 489) (st' := [pw_i i, .ref 0, .ref 141]) rfl (fun _ => rfl) ?_
  refine pwl_ld E (pc' := 490) (st' := [pw_i 1, pw_i i, .ref 0, .ref 141]) rfl (fun _ => rfl) ?_
  refine pwl_add E (pc' := 491) rfl rfl ?_
  refine pwl_sald E (pc' := 492) rfl hX0 hl (by omega) (by omega) rfl ?_
  have hs9 := pw_s_r xs (i + 1)
  refine pwl_ld E (pc' := 493) (st' := [.ref 0, pw_i (pw_s xs (i + 1)), .ref 141]) rfl (fun _ => rfl) ?_
  refine pwl_ld E (pc' := 495) (st' := [pw_i i, .ref 0, pw_i (pw_s xs (i + 1)), .ref 141]) rfl (fun _ => rfl) ?_
  refine pwl_ld E (pc' := 496) (st' := [pw_i 2, pw_i i, .ref 0, pw_i (pw_s xs (i + 1)), .ref 141]) rfl (fun _ => rfl) ?_
  refine pwl_add E (pc' := 497) rfl rfl ?_
  refine pwl_sald E (pc' := 498) rfl hX0 hl (by omega) (by omega) rfl ?_
  have hs10 := pw_s_r xs (i + 2)
  refine pwl_ld E (pc' := 499) (st' := [.ref 0, pw_i (pw_s xs (i + 2)), pw_i (pw_s xs (i + 1)), .ref 141]) rfl (fun _ => rfl) ?_
  refine pwl_ld E (pc' := 501) (st' := [pw_i i, .ref 0, pw_i (pw_s xs (i + 2)), pw_i (pw_s xs (i + 1)), .ref 141]) rfl (fun _ => rfl) ?_
  refine pwl_ld E (pc' := 502) (st' := [pw_i 3, pw_i i, .ref 0, pw_i (pw_s xs (i + 2)), pw_i (pw_s xs (i + 1)), .ref 141]) rfl (fun _ => rfl) ?_
  refine pwl_add E (pc' := 503) rfl rfl ?_
  refine pwl_sald E (pc' := 504) rfl hX0 hl (by omega) (by omega) rfl ?_
  have hs11 := pw_s_r xs (i + 3)
  refine pwl_ld E (pc' := 505) (st' := [.ref 0, pw_i (pw_s xs (i + 3)), pw_i (pw_s xs (i + 2)), pw_i (pw_s xs (i + 1)), .ref 141]) rfl (fun _ => rfl) ?_
  refine pwl_ld E (pc' := 507) (st' := [pw_i i, .ref 0, pw_i (pw_s xs (i + 3)), pw_i (pw_s xs (i + 2)), pw_i (pw_s xs (i + 1)), .ref 141]) rfl (fun _ => rfl) ?_
  refine pwl_ld E (pc' := 508) (st' := [pw_i 4, pw_i i, .ref 0, pw_i (pw_s xs (i + 3)), pw_i (pw_s xs (i + 2)), pw_i (pw_s xs (i + 1)), .ref 141]) rfl (fun _ => rfl) ?_
  refine pwl_add E (pc' := 509) rfl rfl ?_
  refine pwl_sald E (pc' := 510) rfl hX0 hl (by omega) (by omega) rfl ?_
  have hs12 := pw_s_r xs (i + 4)
  obtain ⟨f13l, f13h, -⟩ := pw_obj (c := 125) h7I rfl
  refine pwl_call (m' := 208) (As := [.ref 141, pw_i (pw_s xs (i + 1)), pw_i (pw_s xs (i + 2)), pw_i (pw_s xs (i + 3)), pw_i (pw_s xs (i + 4))]) (rest := []) (ls'' := [some (.ref 141), some (pw_i (pw_s xs (i + 1))), some (pw_i (pw_s xs (i + 2))), some (pw_i (pw_s xs (i + 3))), some (pw_i (pw_s xs (i + 4))), none]) E rfl (fun _ => pwl_iV rfl rfl rfl (pw_cellI f13h rfl)) (rfl : pm_ent 208 = some (5, 6, 12, 1, pmc_208)) (by decide) rfl rfl (cm_208 (by decide) h7I (pw_s xs (i + 1)) (by omega) (by omega) (pw_s xs (i + 2)) (by omega) (by omega) (pw_s xs (i + 3)) (by omega) (by omega) (pw_s xs (i + 4)) (by omega) (by omega)) ?_
  rintro h15 v14 ⟨h15I, h15E, x16, rfl, hx16a, hx16b, hx16r⟩
  refine ⟨_, rfl, ?_⟩
  have h15K := pw_KE h7I h15E h7K rfl
  have h15L := h15E.1
  show pwl X _ h15 513 [some (.ref 0), some (.ref 16), some (.ref 141), some (.ref 185), some (pw_i i), a5, a6, a7] [pw_i x16] _
  have hx16r : (x16 = 1 ∧ 0 ≤ (pw_s xs (i + 1)) ∧ (pw_s xs (i + 1)) ≤ 1 ∧ 0 ≤ (pw_s xs (i + 2)) ∧ (pw_s xs (i + 2)) ≤ 11 ∧ 0 ≤ (pw_s xs (i + 3)) ∧ (pw_s xs (i + 3)) ≤ 999 ∧ (-99) ≤ (pw_s xs (i + 4)) ∧ (pw_s xs (i + 4)) ≤ 99) ∨ (x16 = 0 ∧ ¬ (0 ≤ (pw_s xs (i + 1)) ∧ (pw_s xs (i + 1)) ≤ 1 ∧ 0 ≤ (pw_s xs (i + 2)) ∧ (pw_s xs (i + 2)) ≤ 11 ∧ 0 ≤ (pw_s xs (i + 3)) ∧ (pw_s xs (i + 3)) ≤ 999 ∧ (-99) ≤ (pw_s xs (i + 4)) ∧ (pw_s xs (i + 4)) ≤ 99)) := hx16r
  have h15Rb := pw_RbE h7I h15E h7Rb rfl
  refine pwl_ld E (pc' := 514) (st' := []) rfl (fun _ => rfl) ?_
  refine pwl_goto E (pc' := 2341) rfl (by decide) ?_
  exact pwl_mono (by omega) (hB h15 (a5) (a6) (a7) h15I h15K h15Rb (by omega) (by omega) s5 s6 s7)
set_option maxHeartbeats 4000000 in
theorem lc_5 {X : List (Nat × List Value)} {xs : List Int32} {K : Nat} {h : pm_H} {Q : pm_H → (Option Value ⊕ Unit) → Prop} (hX0 : X[0]? = some (0, xs.map Value.int)) (hl : xs.length ≤ 3584) (hX : pw_Xk X) (hR : pw_Xr X) (hS : pw_Xs X) (hF : pw_Xf X) (I : pw_I h) (hK : pw_K h) (hRb : pw_Rb h) (i : Int) (hi0 : 0 ≤ i) (hi1 : i + 7 ≤ xs.length) (a5 a6 a7 : Option Value) (s5 : ∀ n, pm_scl n a5 = true) (s6 : ∀ n, pm_scl n a6 = true) (s7 : ∀ n, pm_scl n a7 = true) (hB : ∀ (h' : pm_H) (b5 b6 b7 : Option Value), pw_I h' → pw_K h' → pw_Rb h' → h'.length ≤ h.length + 1 → pm_slt h' ≤ pm_slt h + 1000 → (∀ n, pm_scl n b5 = true) → (∀ n, pm_scl n b6 = true) → (∀ n, pm_scl n b7 = true) → pwl X K h' 2341 [some (.ref 0), some (.ref 16), some (.ref 141), some (.ref 185), some (pw_i i), b5, b6, b7] [] Q) : pwl X (K + 150) h 517 [some (.ref 0), some (.ref 16), some (.ref 141), some (.ref 185), some (pw_i i), a5, a6, a7] [] Q := by
  have E : pm_ent 309 = some (1, 8, 13, 1, pmc_309) := rfl
  refine pwl_ld E (pc' := 518) (st' := [.ref 16]) rfl (fun _ => rfl) ?_
  refine pwl_ld E (pc' := 519) (st' := [.ref 0, .ref 16]) rfl (fun _ => rfl) ?_
  refine pwl_ld E (pc' := 521) (st' := [pw_i i, .ref 0, .ref 16]) rfl (fun _ => rfl) ?_
  refine pwl_ld E (pc' := 522) (st' := [pw_i 1, pw_i i, .ref 0, .ref 16]) rfl (fun _ => rfl) ?_
  refine pwl_add E (pc' := 523) rfl rfl ?_
  refine pwl_sald E (pc' := 524) rfl hX0 hl (by omega) (by omega) rfl ?_
  have hs1 := pw_s_r xs (i + 1)
  refine pwl_ld E (pc' := 525) (st' := [.ref 0, pw_i (pw_s xs (i + 1)), .ref 16]) rfl (fun _ => rfl) ?_
  refine pwl_ld E (pc' := 527) (st' := [pw_i i, .ref 0, pw_i (pw_s xs (i + 1)), .ref 16]) rfl (fun _ => rfl) ?_
  refine pwl_ld E (pc' := 528) (st' := [pw_i 2, pw_i i, .ref 0, pw_i (pw_s xs (i + 1)), .ref 16]) rfl (fun _ => rfl) ?_
  refine pwl_add E (pc' := 529) rfl rfl ?_
  refine pwl_sald E (pc' := 530) rfl hX0 hl (by omega) (by omega) rfl ?_
  have hs2 := pw_s_r xs (i + 2)
  obtain ⟨f3l, f3h, -⟩ := pw_obj (c := 0) I rfl
  refine pwl_call (m' := 129) (As := [.ref 16, pw_i (pw_s xs (i + 1)), pw_i (pw_s xs (i + 2))]) (rest := []) (ls'' := [some (.ref 16), some (pw_i (pw_s xs (i + 1))), some (pw_i (pw_s xs (i + 2)))]) E rfl (fun _ => pwl_iV rfl rfl rfl (pw_cellI f3h rfl)) (rfl : pm_ent 129 = some (3, 3, 11, 0, pmc_129)) (by decide) rfl rfl (cm_129 (by decide) I (pw_s xs (i + 1)) (by omega) (by omega) (pw_s xs (i + 2)) (by omega) (by omega)) ?_
  rintro h5 v4 ⟨rfl, x6, rfl, hx6a, hx6b⟩
  refine ⟨_, rfl, ?_⟩
  show pwl X _ h 533 [some (.ref 0), some (.ref 16), some (.ref 141), some (.ref 185), some (pw_i i), a5, a6, a7] [pw_i x6] _
  refine pwl_ld E (pc' := 534) (st' := []) rfl (fun _ => rfl) ?_
  refine pwl_ld E (pc' := 535) (st' := [.ref 141]) rfl (fun _ => rfl) ?_
  refine pwl_ld E (pc' := 536) (st' := [.ref 0, .ref 141]) rfl (fun _ => rfl) ?_
  refine pwl_ld E (pc' := 538) (st' := [pw_i i, .ref 0, .ref 141]) rfl (fun _ => rfl) ?_
  refine pwl_ld E (pc' := 539) (st' := [pw_i 1, pw_i i, .ref 0, .ref 141]) rfl (fun _ => rfl) ?_
  refine pwl_add E (pc' := 540) rfl rfl ?_
  refine pwl_sald E (pc' := 541) rfl hX0 hl (by omega) (by omega) rfl ?_
  have hs7 := pw_s_r xs (i + 1)
  refine pwl_ld E (pc' := 542) (st' := [.ref 0, pw_i (pw_s xs (i + 1)), .ref 141]) rfl (fun _ => rfl) ?_
  refine pwl_ld E (pc' := 544) (st' := [pw_i i, .ref 0, pw_i (pw_s xs (i + 1)), .ref 141]) rfl (fun _ => rfl) ?_
  refine pwl_ld E (pc' := 545) (st' := [pw_i 2, pw_i i, .ref 0, pw_i (pw_s xs (i + 1)), .ref 141]) rfl (fun _ => rfl) ?_
  refine pwl_add E (pc' := 546) rfl rfl ?_
  refine pwl_sald E (pc' := 547) rfl hX0 hl (by omega) (by omega) rfl ?_
  have hs8 := pw_s_r xs (i + 2)
  obtain ⟨f9l, f9h, -⟩ := pw_obj (c := 125) I rfl
  refine pwl_call (m' := 209) (As := [.ref 141, pw_i (pw_s xs (i + 1)), pw_i (pw_s xs (i + 2))]) (rest := []) (ls'' := [some (.ref 141), some (pw_i (pw_s xs (i + 1))), some (pw_i (pw_s xs (i + 2)))]) E rfl (fun _ => pwl_iV rfl rfl rfl (pw_cellI f9h rfl)) (rfl : pm_ent 209 = some (3, 3, 12, 0, pmc_209)) (by decide) rfl rfl (cm_209 (by decide) I (pw_s xs (i + 1)) (by omega) (by omega) (pw_s xs (i + 2)) (by omega) (by omega)) ?_
  rintro h11 v10 ⟨h11I, h11E, x12, rfl, hx12a, hx12b⟩
  refine ⟨_, rfl, ?_⟩
  have h11K := pw_KE I h11E hK rfl
  have h11L := h11E.1
  show pwl X _ h11 550 [some (.ref 0), some (.ref 16), some (.ref 141), some (.ref 185), some (pw_i i), a5, a6, a7] [pw_i x12] _
  have h11Rb := pw_RbE I h11E hRb rfl
  refine pwl_ld E (pc' := 551) (st' := []) rfl (fun _ => rfl) ?_
  refine pwl_goto E (pc' := 2341) rfl (by decide) ?_
  exact pwl_mono (by omega) (hB h11 (a5) (a6) (a7) h11I h11K h11Rb (by omega) (by omega) s5 s6 s7)
set_option maxHeartbeats 4000000 in
theorem lc_6 {X : List (Nat × List Value)} {xs : List Int32} {K : Nat} {h : pm_H} {Q : pm_H → (Option Value ⊕ Unit) → Prop} (hX0 : X[0]? = some (0, xs.map Value.int)) (hl : xs.length ≤ 3584) (hX : pw_Xk X) (hR : pw_Xr X) (hS : pw_Xs X) (hF : pw_Xf X) (I : pw_I h) (hK : pw_K h) (hRb : pw_Rb h) (i : Int) (hi0 : 0 ≤ i) (hi1 : i + 7 ≤ xs.length) (a5 a6 a7 : Option Value) (s5 : ∀ n, pm_scl n a5 = true) (s6 : ∀ n, pm_scl n a6 = true) (s7 : ∀ n, pm_scl n a7 = true) (hB : ∀ (h' : pm_H) (b5 b6 b7 : Option Value), pw_I h' → pw_K h' → pw_Rb h' → h'.length ≤ h.length + 1 → pm_slt h' ≤ pm_slt h + 1000 → (∀ n, pm_scl n b5 = true) → (∀ n, pm_scl n b6 = true) → (∀ n, pm_scl n b7 = true) → pwl X K h' 2341 [some (.ref 0), some (.ref 16), some (.ref 141), some (.ref 185), some (pw_i i), b5, b6, b7] [] Q) : pwl X (K + 150) h 554 [some (.ref 0), some (.ref 16), some (.ref 141), some (.ref 185), some (pw_i i), a5, a6, a7] [] Q := by
  have E : pm_ent 309 = some (1, 8, 13, 1, pmc_309) := rfl
  refine pwl_ld E (pc' := 555) (st' := [.ref 16]) rfl (fun _ => rfl) ?_
  refine pwl_ld E (pc' := 556) (st' := [.ref 0, .ref 16]) rfl (fun _ => rfl) ?_
  refine pwl_ld E (pc' := 558) (st' := [pw_i i, .ref 0, .ref 16]) rfl (fun _ => rfl) ?_
  refine pwl_ld E (pc' := 559) (st' := [pw_i 1, pw_i i, .ref 0, .ref 16]) rfl (fun _ => rfl) ?_
  refine pwl_add E (pc' := 560) rfl rfl ?_
  refine pwl_sald E (pc' := 561) rfl hX0 hl (by omega) (by omega) rfl ?_
  have hs1 := pw_s_r xs (i + 1)
  refine pwl_ld E (pc' := 562) (st' := [.ref 0, pw_i (pw_s xs (i + 1)), .ref 16]) rfl (fun _ => rfl) ?_
  refine pwl_ld E (pc' := 564) (st' := [pw_i i, .ref 0, pw_i (pw_s xs (i + 1)), .ref 16]) rfl (fun _ => rfl) ?_
  refine pwl_ld E (pc' := 565) (st' := [pw_i 2, pw_i i, .ref 0, pw_i (pw_s xs (i + 1)), .ref 16]) rfl (fun _ => rfl) ?_
  refine pwl_add E (pc' := 566) rfl rfl ?_
  refine pwl_sald E (pc' := 567) rfl hX0 hl (by omega) (by omega) rfl ?_
  have hs2 := pw_s_r xs (i + 2)
  refine pwl_ld E (pc' := 568) (st' := [.ref 0, pw_i (pw_s xs (i + 2)), pw_i (pw_s xs (i + 1)), .ref 16]) rfl (fun _ => rfl) ?_
  refine pwl_ld E (pc' := 570) (st' := [pw_i i, .ref 0, pw_i (pw_s xs (i + 2)), pw_i (pw_s xs (i + 1)), .ref 16]) rfl (fun _ => rfl) ?_
  refine pwl_ld E (pc' := 571) (st' := [pw_i 3, pw_i i, .ref 0, pw_i (pw_s xs (i + 2)), pw_i (pw_s xs (i + 1)), .ref 16]) rfl (fun _ => rfl) ?_
  refine pwl_add E (pc' := 572) rfl rfl ?_
  refine pwl_sald E (pc' := 573) rfl hX0 hl (by omega) (by omega) rfl ?_
  have hs3 := pw_s_r xs (i + 3)
  refine pwl_ld E (pc' := 574) (st' := [.ref 0, pw_i (pw_s xs (i + 3)), pw_i (pw_s xs (i + 2)), pw_i (pw_s xs (i + 1)), .ref 16]) rfl (fun _ => rfl) ?_
  refine pwl_ld E (pc' := 576) (st' := [pw_i i, .ref 0, pw_i (pw_s xs (i + 3)), pw_i (pw_s xs (i + 2)), pw_i (pw_s xs (i + 1)), .ref 16]) rfl (fun _ => rfl) ?_
  refine pwl_ld E (pc' := 577) (st' := [pw_i 4, pw_i i, .ref 0, pw_i (pw_s xs (i + 3)), pw_i (pw_s xs (i + 2)), pw_i (pw_s xs (i + 1)), .ref 16]) rfl (fun _ => rfl) ?_
  refine pwl_add E (pc' := 578) rfl rfl ?_
  refine pwl_sald E (pc' := 579) rfl hX0 hl (by omega) (by omega) rfl ?_
  have hs4 := pw_s_r xs (i + 4)
  refine pwl_ld E (pc' := 580) (st' := [.ref 185, pw_i (pw_s xs (i + 4)), pw_i (pw_s xs (i + 3)), pw_i (pw_s xs (i + 2)), pw_i (pw_s xs (i + 1)), .ref 16]) rfl (fun _ => rfl) ?_
  refine pwl_call (m' := 310) (As := [.ref 16, pw_i (pw_s xs (i + 1)), pw_i (pw_s xs (i + 2)), pw_i (pw_s xs (i + 3)), pw_i (pw_s xs (i + 4)), .ref 185]) (rest := []) (ls'' := [some (.ref 16), some (pw_i (pw_s xs (i + 1))), some (pw_i (pw_s xs (i + 2))), some (pw_i (pw_s xs (i + 3))), some (pw_i (pw_s xs (i + 4))), some (.ref 185), none]) E rfl (fun _ => pwl_iS rfl rfl rfl (pw_sc8 I s5 s6 s7) rfl) (rfl : pm_ent 310 = some (6, 7, 13, 0, pmc_310)) (by decide) rfl rfl (cm_310 (by decide) I (pw_s xs (i + 1)) (by omega) (by omega) (pw_s xs (i + 2)) (by omega) (by omega) (pw_s xs (i + 3)) (by omega) (by omega) (pw_s xs (i + 4)) (by omega) (by omega)) ?_
  rintro h6 v5 ⟨h6I, h6E, x7, rfl, hx7a, hx7b⟩
  refine ⟨_, rfl, ?_⟩
  have h6K := pw_KE I h6E hK rfl
  have h6L := h6E.1
  show pwl X _ h6 583 [some (.ref 0), some (.ref 16), some (.ref 141), some (.ref 185), some (pw_i i), a5, a6, a7] [pw_i x7] _
  have h6Rb := pw_RbE I h6E hRb rfl
  refine pwl_ist E (pc' := 585) (ls' := [some (.ref 0), some (.ref 16), some (.ref 141), some (.ref 185), some (pw_i i), some (pw_i x7), a6, a7]) rfl rfl rfl rfl ?_
  refine pwl_ld E (pc' := 586) (st' := [.ref 141]) rfl (fun _ => rfl) ?_
  refine pwl_ld E (pc' := 587) (st' := [.ref 0, .ref 141]) rfl (fun _ => rfl) ?_
  refine pwl_ld E (pc' := 589) (st' := [pw_i i, .ref 0, .ref 141]) rfl (fun _ => rfl) ?_
  refine pwl_ld E (pc' := 590) (st' := [pw_i 1, pw_i i, .ref 0, .ref 141]) rfl (fun _ => rfl) ?_
  refine pwl_add E (pc' := 591) rfl rfl ?_
  refine pwl_sald E (pc' := 592) rfl hX0 hl (by omega) (by omega) rfl ?_
  have hs8 := pw_s_r xs (i + 1)
  refine pwl_ld E (pc' := 593) (st' := [.ref 0, pw_i (pw_s xs (i + 1)), .ref 141]) rfl (fun _ => rfl) ?_
  refine pwl_ld E (pc' := 595) (st' := [pw_i i, .ref 0, pw_i (pw_s xs (i + 1)), .ref 141]) rfl (fun _ => rfl) ?_
  refine pwl_ld E (pc' := 596) (st' := [pw_i 2, pw_i i, .ref 0, pw_i (pw_s xs (i + 1)), .ref 141]) rfl (fun _ => rfl) ?_
  refine pwl_add E (pc' := 597) rfl rfl ?_
  refine pwl_sald E (pc' := 598) rfl hX0 hl (by omega) (by omega) rfl ?_
  have hs9 := pw_s_r xs (i + 2)
  refine pwl_ld E (pc' := 599) (st' := [.ref 0, pw_i (pw_s xs (i + 2)), pw_i (pw_s xs (i + 1)), .ref 141]) rfl (fun _ => rfl) ?_
  refine pwl_ld E (pc' := 601) (st' := [pw_i i, .ref 0, pw_i (pw_s xs (i + 2)), pw_i (pw_s xs (i + 1)), .ref 141]) rfl (fun _ => rfl) ?_
  refine pwl_ld E (pc' := 602) (st' := [pw_i 3, pw_i i, .ref 0, pw_i (pw_s xs (i + 2)), pw_i (pw_s xs (i + 1)), .ref 141]) rfl (fun _ => rfl) ?_
  refine pwl_add E (pc' := 603) rfl rfl ?_
  refine pwl_sald E (pc' := 604) rfl hX0 hl (by omega) (by omega) rfl ?_
  have hs10 := pw_s_r xs (i + 3)
  refine pwl_ld E (pc' := 605) (st' := [.ref 0, pw_i (pw_s xs (i + 3)), pw_i (pw_s xs (i + 2)), pw_i (pw_s xs (i + 1)), .ref 141]) rfl (fun _ => rfl) ?_
  refine pwl_ld E (pc' := 607) (st' := [pw_i i, .ref 0, pw_i (pw_s xs (i + 3)), pw_i (pw_s xs (i + 2)), pw_i (pw_s xs (i + 1)), .ref 141]) rfl (fun _ => rfl) ?_
  refine pwl_ld E (pc' := 608) (st' := [pw_i 4, pw_i i, .ref 0, pw_i (pw_s xs (i + 3)), pw_i (pw_s xs (i + 2)), pw_i (pw_s xs (i + 1)), .ref 141]) rfl (fun _ => rfl) ?_
  refine pwl_add E (pc' := 609) rfl rfl ?_
  refine pwl_sald E (pc' := 610) rfl hX0 hl (by omega) (by omega) rfl ?_
  have hs11 := pw_s_r xs (i + 4)
  obtain ⟨f12l, f12h, -⟩ := pw_obj (c := 125) h6I rfl
  refine pwl_call (m' := 212) (As := [.ref 141, pw_i (pw_s xs (i + 1)), pw_i (pw_s xs (i + 2)), pw_i (pw_s xs (i + 3)), pw_i (pw_s xs (i + 4))]) (rest := []) (ls'' := [some (.ref 141), some (pw_i (pw_s xs (i + 1))), some (pw_i (pw_s xs (i + 2))), some (pw_i (pw_s xs (i + 3))), some (pw_i (pw_s xs (i + 4))), none, none, none, none, none, none]) E rfl (fun _ => pwl_iV rfl rfl rfl (pw_cellI f12h rfl)) (rfl : pm_ent 212 = some (5, 11, 12, 0, pmc_212)) (by decide) rfl rfl (cm_212 (by decide) h6I (pw_s xs (i + 1)) (by omega) (by omega) (pw_s xs (i + 2)) (by omega) (by omega) (pw_s xs (i + 3)) (by omega) (by omega) (pw_s xs (i + 4)) (by omega) (by omega)) ?_
  rintro h14 v13 ⟨h14I, h14E, x15, rfl, hx15a, hx15b⟩
  refine ⟨_, rfl, ?_⟩
  have h14K := pw_KE h6I h14E h6K rfl
  have h14L := h14E.1
  show pwl X _ h14 613 [some (.ref 0), some (.ref 16), some (.ref 141), some (.ref 185), some (pw_i i), some (pw_i x7), a6, a7] [pw_i x15] _
  have h14Rb := pw_RbE h6I h14E h6Rb rfl
  refine pwl_ist E (pc' := 615) (ls' := [some (.ref 0), some (.ref 16), some (.ref 141), some (.ref 185), some (pw_i i), some (pw_i x7), some (pw_i x15), a7]) rfl rfl rfl rfl ?_
  refine pwl_goto E (pc' := 2341) rfl (by decide) ?_
  exact pwl_mono (by omega) (hB h14 (some (pw_i x7)) (some (pw_i x15)) (a7) h14I h14K h14Rb (by omega) (by omega) (fun _ => rfl) (fun _ => rfl) s7)
set_option maxHeartbeats 4000000 in
theorem lc_7 {X : List (Nat × List Value)} {xs : List Int32} {K : Nat} {h : pm_H} {Q : pm_H → (Option Value ⊕ Unit) → Prop} (hX0 : X[0]? = some (0, xs.map Value.int)) (hl : xs.length ≤ 3584) (hX : pw_Xk X) (hR : pw_Xr X) (hS : pw_Xs X) (hF : pw_Xf X) (I : pw_I h) (hK : pw_K h) (hRb : pw_Rb h) (i : Int) (hi0 : 0 ≤ i) (hi1 : i + 7 ≤ xs.length) (a5 a6 a7 : Option Value) (s5 : ∀ n, pm_scl n a5 = true) (s6 : ∀ n, pm_scl n a6 = true) (s7 : ∀ n, pm_scl n a7 = true) (hB : ∀ (h' : pm_H) (b5 b6 b7 : Option Value), pw_I h' → pw_K h' → pw_Rb h' → h'.length ≤ h.length + 1 → pm_slt h' ≤ pm_slt h + 1000 → (∀ n, pm_scl n b5 = true) → (∀ n, pm_scl n b6 = true) → (∀ n, pm_scl n b7 = true) → pwl X K h' 2341 [some (.ref 0), some (.ref 16), some (.ref 141), some (.ref 185), some (pw_i i), b5, b6, b7] [] Q) : pwl X (K + 150) h 618 [some (.ref 0), some (.ref 16), some (.ref 141), some (.ref 185), some (pw_i i), a5, a6, a7] [] Q := by
  have E : pm_ent 309 = some (1, 8, 13, 1, pmc_309) := rfl
  refine pwl_ld E (pc' := 619) (st' := [.ref 16]) rfl (fun _ => rfl) ?_
  refine pwl_ld E (pc' := 620) (st' := [.ref 0, .ref 16]) rfl (fun _ => rfl) ?_
  refine pwl_ld E (pc' := 622) (st' := [pw_i i, .ref 0, .ref 16]) rfl (fun _ => rfl) ?_
  refine pwl_ld E (pc' := 623) (st' := [pw_i 1, pw_i i, .ref 0, .ref 16]) rfl (fun _ => rfl) ?_
  refine pwl_add E (pc' := 624) rfl rfl ?_
  refine pwl_sald E (pc' := 625) rfl hX0 hl (by omega) (by omega) rfl ?_
  have hs1 := pw_s_r xs (i + 1)
  refine pwl_ld E (pc' := 626) (st' := [.ref 0, pw_i (pw_s xs (i + 1)), .ref 16]) rfl (fun _ => rfl) ?_
  refine pwl_ld E (pc' := 628) (st' := [pw_i i, .ref 0, pw_i (pw_s xs (i + 1)), .ref 16]) rfl (fun _ => rfl) ?_
  refine pwl_ld E (pc' := 629) (st' := [pw_i 2, pw_i i, .ref 0, pw_i (pw_s xs (i + 1)), .ref 16]) rfl (fun _ => rfl) ?_
  refine pwl_add E (pc' := 630) rfl rfl ?_
  refine pwl_sald E (pc' := 631) rfl hX0 hl (by omega) (by omega) rfl ?_
  have hs2 := pw_s_r xs (i + 2)
  refine pwl_ld E (pc' := 632) (st' := [.ref 0, pw_i (pw_s xs (i + 2)), pw_i (pw_s xs (i + 1)), .ref 16]) rfl (fun _ => rfl) ?_
  refine pwl_ld E (pc' := 634) (st' := [pw_i i, .ref 0, pw_i (pw_s xs (i + 2)), pw_i (pw_s xs (i + 1)), .ref 16]) rfl (fun _ => rfl) ?_
  refine pwl_ld E (pc' := 635) (st' := [pw_i 3, pw_i i, .ref 0, pw_i (pw_s xs (i + 2)), pw_i (pw_s xs (i + 1)), .ref 16]) rfl (fun _ => rfl) ?_
  refine pwl_add E (pc' := 636) rfl rfl ?_
  refine pwl_sald E (pc' := 637) rfl hX0 hl (by omega) (by omega) rfl ?_
  have hs3 := pw_s_r xs (i + 3)
  refine pwl_ld E (pc' := 638) (st' := [.ref 0, pw_i (pw_s xs (i + 3)), pw_i (pw_s xs (i + 2)), pw_i (pw_s xs (i + 1)), .ref 16]) rfl (fun _ => rfl) ?_
  refine pwl_ld E (pc' := 640) (st' := [pw_i i, .ref 0, pw_i (pw_s xs (i + 3)), pw_i (pw_s xs (i + 2)), pw_i (pw_s xs (i + 1)), .ref 16]) rfl (fun _ => rfl) ?_
  refine pwl_ld E (pc' := 641) (st' := [pw_i 4, pw_i i, .ref 0, pw_i (pw_s xs (i + 3)), pw_i (pw_s xs (i + 2)), pw_i (pw_s xs (i + 1)), .ref 16]) rfl (fun _ => rfl) ?_
  refine pwl_add E (pc' := 642) rfl rfl ?_
  refine pwl_sald E (pc' := 643) rfl hX0 hl (by omega) (by omega) rfl ?_
  have hs4 := pw_s_r xs (i + 4)
  refine pwl_ld E (pc' := 644) (st' := [.ref 185, pw_i (pw_s xs (i + 4)), pw_i (pw_s xs (i + 3)), pw_i (pw_s xs (i + 2)), pw_i (pw_s xs (i + 1)), .ref 16]) rfl (fun _ => rfl) ?_
  refine pwl_call (m' := 311) (As := [.ref 16, pw_i (pw_s xs (i + 1)), pw_i (pw_s xs (i + 2)), pw_i (pw_s xs (i + 3)), pw_i (pw_s xs (i + 4)), .ref 185]) (rest := []) (ls'' := [some (.ref 16), some (pw_i (pw_s xs (i + 1))), some (pw_i (pw_s xs (i + 2))), some (pw_i (pw_s xs (i + 3))), some (pw_i (pw_s xs (i + 4))), some (.ref 185), none]) E rfl (fun _ => pwl_iS rfl rfl rfl (pw_sc8 I s5 s6 s7) rfl) (rfl : pm_ent 311 = some (6, 7, 13, 0, pmc_311)) (by decide) rfl rfl (cm_311 (by decide) I (pw_s xs (i + 1)) (by omega) (by omega) (pw_s xs (i + 2)) (by omega) (by omega) (pw_s xs (i + 3)) (by omega) (by omega) (pw_s xs (i + 4)) (by omega) (by omega)) ?_
  rintro h6 v5 ⟨h6I, h6E, x7, rfl, hx7a, hx7b⟩
  refine ⟨_, rfl, ?_⟩
  have h6K := pw_KE I h6E hK rfl
  have h6L := h6E.1
  show pwl X _ h6 647 [some (.ref 0), some (.ref 16), some (.ref 141), some (.ref 185), some (pw_i i), a5, a6, a7] [pw_i x7] _
  have h6Rb := pw_RbE I h6E hRb rfl
  refine pwl_ist E (pc' := 649) (ls' := [some (.ref 0), some (.ref 16), some (.ref 141), some (.ref 185), some (pw_i i), some (pw_i x7), a6, a7]) rfl rfl rfl rfl ?_
  refine pwl_ld E (pc' := 650) (st' := [.ref 141]) rfl (fun _ => rfl) ?_
  refine pwl_ld E (pc' := 651) (st' := [.ref 0, .ref 141]) rfl (fun _ => rfl) ?_
  refine pwl_ld E (pc' := 653) (st' := [pw_i i, .ref 0, .ref 141]) rfl (fun _ => rfl) ?_
  refine pwl_ld E (pc' := 654) (st' := [pw_i 1, pw_i i, .ref 0, .ref 141]) rfl (fun _ => rfl) ?_
  refine pwl_add E (pc' := 655) rfl rfl ?_
  refine pwl_sald E (pc' := 656) rfl hX0 hl (by omega) (by omega) rfl ?_
  have hs8 := pw_s_r xs (i + 1)
  refine pwl_ld E (pc' := 657) (st' := [.ref 0, pw_i (pw_s xs (i + 1)), .ref 141]) rfl (fun _ => rfl) ?_
  refine pwl_ld E (pc' := 659) (st' := [pw_i i, .ref 0, pw_i (pw_s xs (i + 1)), .ref 141]) rfl (fun _ => rfl) ?_
  refine pwl_ld E (pc' := 660) (st' := [pw_i 2, pw_i i, .ref 0, pw_i (pw_s xs (i + 1)), .ref 141]) rfl (fun _ => rfl) ?_
  refine pwl_add E (pc' := 661) rfl rfl ?_
  refine pwl_sald E (pc' := 662) rfl hX0 hl (by omega) (by omega) rfl ?_
  have hs9 := pw_s_r xs (i + 2)
  refine pwl_ld E (pc' := 663) (st' := [.ref 0, pw_i (pw_s xs (i + 2)), pw_i (pw_s xs (i + 1)), .ref 141]) rfl (fun _ => rfl) ?_
  refine pwl_ld E (pc' := 665) (st' := [pw_i i, .ref 0, pw_i (pw_s xs (i + 2)), pw_i (pw_s xs (i + 1)), .ref 141]) rfl (fun _ => rfl) ?_
  refine pwl_ld E (pc' := 666) (st' := [pw_i 3, pw_i i, .ref 0, pw_i (pw_s xs (i + 2)), pw_i (pw_s xs (i + 1)), .ref 141]) rfl (fun _ => rfl) ?_
  refine pwl_add E (pc' := 667) rfl rfl ?_
  refine pwl_sald E (pc' := 668) rfl hX0 hl (by omega) (by omega) rfl ?_
  have hs10 := pw_s_r xs (i + 3)
  refine pwl_ld E (pc' := 669) (st' := [.ref 0, pw_i (pw_s xs (i + 3)), pw_i (pw_s xs (i + 2)), pw_i (pw_s xs (i + 1)), .ref 141]) rfl (fun _ => rfl) ?_
  refine pwl_ld E (pc' := 671) (st' := [pw_i i, .ref 0, pw_i (pw_s xs (i + 3)), pw_i (pw_s xs (i + 2)), pw_i (pw_s xs (i + 1)), .ref 141]) rfl (fun _ => rfl) ?_
  refine pwl_ld E (pc' := 672) (st' := [pw_i 4, pw_i i, .ref 0, pw_i (pw_s xs (i + 3)), pw_i (pw_s xs (i + 2)), pw_i (pw_s xs (i + 1)), .ref 141]) rfl (fun _ => rfl) ?_
  refine pwl_add E (pc' := 673) rfl rfl ?_
  refine pwl_sald E (pc' := 674) rfl hX0 hl (by omega) (by omega) rfl ?_
  have hs11 := pw_s_r xs (i + 4)
  obtain ⟨f12l, f12h, -⟩ := pw_obj (c := 125) h6I rfl
  refine pwl_call (m' := 216) (As := [.ref 141, pw_i (pw_s xs (i + 1)), pw_i (pw_s xs (i + 2)), pw_i (pw_s xs (i + 3)), pw_i (pw_s xs (i + 4))]) (rest := []) (ls'' := [some (.ref 141), some (pw_i (pw_s xs (i + 1))), some (pw_i (pw_s xs (i + 2))), some (pw_i (pw_s xs (i + 3))), some (pw_i (pw_s xs (i + 4)))]) E rfl (fun _ => pwl_iV rfl rfl rfl (pw_cellI f12h rfl)) (rfl : pm_ent 216 = some (5, 5, 12, 2, pmc_216)) (by decide) rfl rfl (cm_216 (by decide) h6I (pw_s xs (i + 1)) (by omega) (by omega) (pw_s xs (i + 2)) (by omega) (by omega) (pw_s xs (i + 3)) (by omega) (by omega) (pw_s xs (i + 4)) (by omega) (by omega)) ?_
  rintro h14 v13 ⟨h14I, h14E, w15, rfl⟩
  refine ⟨_, rfl, ?_⟩
  have h14K := pw_KE h6I h14E h6K rfl
  have h14L := h14E.1
  show pwl X _ h14 677 [some (.ref 0), some (.ref 16), some (.ref 141), some (.ref 185), some (pw_i i), some (pw_i x7), a6, a7] [.long w15] _
  have h14Rb := pw_RbE h6I h14E h6Rb rfl
  refine pwl_lst E (pc' := 679) (ls' := [some (.ref 0), some (.ref 16), some (.ref 141), some (.ref 185), some (pw_i i), some (pw_i x7), some (.long w15), none]) rfl rfl rfl rfl ?_
  refine pwl_goto E (pc' := 2341) rfl (by decide) ?_
  exact pwl_mono (by omega) (hB h14 (some (pw_i x7)) (some (.long w15)) (none) h14I h14K h14Rb (by omega) (by omega) (fun _ => rfl) (fun _ => rfl) (fun _ => rfl))
set_option maxHeartbeats 4000000 in
theorem lc_8 {X : List (Nat × List Value)} {xs : List Int32} {K : Nat} {h : pm_H} {Q : pm_H → (Option Value ⊕ Unit) → Prop} (hX0 : X[0]? = some (0, xs.map Value.int)) (hl : xs.length ≤ 3584) (hX : pw_Xk X) (hR : pw_Xr X) (hS : pw_Xs X) (hF : pw_Xf X) (I : pw_I h) (hK : pw_K h) (hRb : pw_Rb h) (i : Int) (hi0 : 0 ≤ i) (hi1 : i + 7 ≤ xs.length) (a5 a6 a7 : Option Value) (s5 : ∀ n, pm_scl n a5 = true) (s6 : ∀ n, pm_scl n a6 = true) (s7 : ∀ n, pm_scl n a7 = true) (hB : ∀ (h' : pm_H) (b5 b6 b7 : Option Value), pw_I h' → pw_K h' → pw_Rb h' → h'.length ≤ h.length + 1 → pm_slt h' ≤ pm_slt h + 1000 → (∀ n, pm_scl n b5 = true) → (∀ n, pm_scl n b6 = true) → (∀ n, pm_scl n b7 = true) → pwl X K h' 2341 [some (.ref 0), some (.ref 16), some (.ref 141), some (.ref 185), some (pw_i i), b5, b6, b7] [] Q) : pwl X (K + 150) h 682 [some (.ref 0), some (.ref 16), some (.ref 141), some (.ref 185), some (pw_i i), a5, a6, a7] [] Q := by
  have E : pm_ent 309 = some (1, 8, 13, 1, pmc_309) := rfl
  refine pwl_ld E (pc' := 683) (st' := [.ref 16]) rfl (fun _ => rfl) ?_
  refine pwl_ld E (pc' := 684) (st' := [.ref 0, .ref 16]) rfl (fun _ => rfl) ?_
  refine pwl_ld E (pc' := 686) (st' := [pw_i i, .ref 0, .ref 16]) rfl (fun _ => rfl) ?_
  refine pwl_ld E (pc' := 687) (st' := [pw_i 1, pw_i i, .ref 0, .ref 16]) rfl (fun _ => rfl) ?_
  refine pwl_add E (pc' := 688) rfl rfl ?_
  refine pwl_sald E (pc' := 689) rfl hX0 hl (by omega) (by omega) rfl ?_
  have hs1 := pw_s_r xs (i + 1)
  refine pwl_ld E (pc' := 690) (st' := [.ref 0, pw_i (pw_s xs (i + 1)), .ref 16]) rfl (fun _ => rfl) ?_
  refine pwl_ld E (pc' := 692) (st' := [pw_i i, .ref 0, pw_i (pw_s xs (i + 1)), .ref 16]) rfl (fun _ => rfl) ?_
  refine pwl_ld E (pc' := 693) (st' := [pw_i 2, pw_i i, .ref 0, pw_i (pw_s xs (i + 1)), .ref 16]) rfl (fun _ => rfl) ?_
  refine pwl_add E (pc' := 694) rfl rfl ?_
  refine pwl_sald E (pc' := 695) rfl hX0 hl (by omega) (by omega) rfl ?_
  have hs2 := pw_s_r xs (i + 2)
  refine pwl_ld E (pc' := 696) (st' := [.ref 0, pw_i (pw_s xs (i + 2)), pw_i (pw_s xs (i + 1)), .ref 16]) rfl (fun _ => rfl) ?_
  refine pwl_ld E (pc' := 698) (st' := [pw_i i, .ref 0, pw_i (pw_s xs (i + 2)), pw_i (pw_s xs (i + 1)), .ref 16]) rfl (fun _ => rfl) ?_
  refine pwl_ld E (pc' := 699) (st' := [pw_i 3, pw_i i, .ref 0, pw_i (pw_s xs (i + 2)), pw_i (pw_s xs (i + 1)), .ref 16]) rfl (fun _ => rfl) ?_
  refine pwl_add E (pc' := 700) rfl rfl ?_
  refine pwl_sald E (pc' := 701) rfl hX0 hl (by omega) (by omega) rfl ?_
  have hs3 := pw_s_r xs (i + 3)
  refine pwl_ld E (pc' := 702) (st' := [.ref 0, pw_i (pw_s xs (i + 3)), pw_i (pw_s xs (i + 2)), pw_i (pw_s xs (i + 1)), .ref 16]) rfl (fun _ => rfl) ?_
  refine pwl_ld E (pc' := 704) (st' := [pw_i i, .ref 0, pw_i (pw_s xs (i + 3)), pw_i (pw_s xs (i + 2)), pw_i (pw_s xs (i + 1)), .ref 16]) rfl (fun _ => rfl) ?_
  refine pwl_ld E (pc' := 705) (st' := [pw_i 4, pw_i i, .ref 0, pw_i (pw_s xs (i + 3)), pw_i (pw_s xs (i + 2)), pw_i (pw_s xs (i + 1)), .ref 16]) rfl (fun _ => rfl) ?_
  refine pwl_add E (pc' := 706) rfl rfl ?_
  refine pwl_sald E (pc' := 707) rfl hX0 hl (by omega) (by omega) rfl ?_
  have hs4 := pw_s_r xs (i + 4)
  refine pwl_ld E (pc' := 708) (st' := [.ref 185, pw_i (pw_s xs (i + 4)), pw_i (pw_s xs (i + 3)), pw_i (pw_s xs (i + 2)), pw_i (pw_s xs (i + 1)), .ref 16]) rfl (fun _ => rfl) ?_
  refine pwl_call (m' := 312) (As := [.ref 16, pw_i (pw_s xs (i + 1)), pw_i (pw_s xs (i + 2)), pw_i (pw_s xs (i + 3)), pw_i (pw_s xs (i + 4)), .ref 185]) (rest := []) (ls'' := [some (.ref 16), some (pw_i (pw_s xs (i + 1))), some (pw_i (pw_s xs (i + 2))), some (pw_i (pw_s xs (i + 3))), some (pw_i (pw_s xs (i + 4))), some (.ref 185), none]) E rfl (fun _ => pwl_iS rfl rfl rfl (pw_sc8 I s5 s6 s7) rfl) (rfl : pm_ent 312 = some (6, 7, 13, 0, pmc_312)) (by decide) rfl rfl (cm_312 (by decide) I (pw_s xs (i + 1)) (by omega) (by omega) (pw_s xs (i + 2)) (by omega) (by omega) (pw_s xs (i + 3)) (by omega) (by omega) (pw_s xs (i + 4)) (by omega) (by omega)) ?_
  rintro h6 v5 ⟨h6I, h6E, x7, rfl, hx7a, hx7b⟩
  refine ⟨_, rfl, ?_⟩
  have h6K := pw_KE I h6E hK rfl
  have h6L := h6E.1
  show pwl X _ h6 711 [some (.ref 0), some (.ref 16), some (.ref 141), some (.ref 185), some (pw_i i), a5, a6, a7] [pw_i x7] _
  have h6Rb := pw_RbE I h6E hRb rfl
  refine pwl_ist E (pc' := 713) (ls' := [some (.ref 0), some (.ref 16), some (.ref 141), some (.ref 185), some (pw_i i), some (pw_i x7), a6, a7]) rfl rfl rfl rfl ?_
  refine pwl_ld E (pc' := 714) (st' := [.ref 141]) rfl (fun _ => rfl) ?_
  refine pwl_ld E (pc' := 715) (st' := [.ref 0, .ref 141]) rfl (fun _ => rfl) ?_
  refine pwl_ld E (pc' := 717) (st' := [pw_i i, .ref 0, .ref 141]) rfl (fun _ => rfl) ?_
  refine pwl_ld E (pc' := 718) (st' := [pw_i 1, pw_i i, .ref 0, .ref 141]) rfl (fun _ => rfl) ?_
  refine pwl_add E (pc' := 719) rfl rfl ?_
  refine pwl_sald E (pc' := 720) rfl hX0 hl (by omega) (by omega) rfl ?_
  have hs8 := pw_s_r xs (i + 1)
  refine pwl_ld E (pc' := 721) (st' := [.ref 0, pw_i (pw_s xs (i + 1)), .ref 141]) rfl (fun _ => rfl) ?_
  refine pwl_ld E (pc' := 723) (st' := [pw_i i, .ref 0, pw_i (pw_s xs (i + 1)), .ref 141]) rfl (fun _ => rfl) ?_
  refine pwl_ld E (pc' := 724) (st' := [pw_i 2, pw_i i, .ref 0, pw_i (pw_s xs (i + 1)), .ref 141]) rfl (fun _ => rfl) ?_
  refine pwl_add E (pc' := 725) rfl rfl ?_
  refine pwl_sald E (pc' := 726) rfl hX0 hl (by omega) (by omega) rfl ?_
  have hs9 := pw_s_r xs (i + 2)
  refine pwl_ld E (pc' := 727) (st' := [.ref 0, pw_i (pw_s xs (i + 2)), pw_i (pw_s xs (i + 1)), .ref 141]) rfl (fun _ => rfl) ?_
  refine pwl_ld E (pc' := 729) (st' := [pw_i i, .ref 0, pw_i (pw_s xs (i + 2)), pw_i (pw_s xs (i + 1)), .ref 141]) rfl (fun _ => rfl) ?_
  refine pwl_ld E (pc' := 730) (st' := [pw_i 3, pw_i i, .ref 0, pw_i (pw_s xs (i + 2)), pw_i (pw_s xs (i + 1)), .ref 141]) rfl (fun _ => rfl) ?_
  refine pwl_add E (pc' := 731) rfl rfl ?_
  refine pwl_sald E (pc' := 732) rfl hX0 hl (by omega) (by omega) rfl ?_
  have hs10 := pw_s_r xs (i + 3)
  refine pwl_ld E (pc' := 733) (st' := [.ref 0, pw_i (pw_s xs (i + 3)), pw_i (pw_s xs (i + 2)), pw_i (pw_s xs (i + 1)), .ref 141]) rfl (fun _ => rfl) ?_
  refine pwl_ld E (pc' := 735) (st' := [pw_i i, .ref 0, pw_i (pw_s xs (i + 3)), pw_i (pw_s xs (i + 2)), pw_i (pw_s xs (i + 1)), .ref 141]) rfl (fun _ => rfl) ?_
  refine pwl_ld E (pc' := 736) (st' := [pw_i 4, pw_i i, .ref 0, pw_i (pw_s xs (i + 3)), pw_i (pw_s xs (i + 2)), pw_i (pw_s xs (i + 1)), .ref 141]) rfl (fun _ => rfl) ?_
  refine pwl_add E (pc' := 737) rfl rfl ?_
  refine pwl_sald E (pc' := 738) rfl hX0 hl (by omega) (by omega) rfl ?_
  have hs11 := pw_s_r xs (i + 4)
  obtain ⟨f12l, f12h, -⟩ := pw_obj (c := 125) h6I rfl
  refine pwl_call (m' := 224) (As := [.ref 141, pw_i (pw_s xs (i + 1)), pw_i (pw_s xs (i + 2)), pw_i (pw_s xs (i + 3)), pw_i (pw_s xs (i + 4))]) (rest := []) (ls'' := [some (.ref 141), some (pw_i (pw_s xs (i + 1))), some (pw_i (pw_s xs (i + 2))), some (pw_i (pw_s xs (i + 3))), some (pw_i (pw_s xs (i + 4))), none, none, none, none]) E rfl (fun _ => pwl_iV rfl rfl rfl (pw_cellI f12h rfl)) (rfl : pm_ent 224 = some (5, 9, 12, 2, pmc_224)) (by decide) rfl rfl (cm_224 (by decide) h6I (pw_s xs (i + 1)) (by omega) (by omega) (pw_s xs (i + 2)) (by omega) (by omega) (pw_s xs (i + 3)) (by omega) (by omega) (pw_s xs (i + 4)) (by omega) (by omega)) ?_
  rintro h14 v13 ⟨h14I, h14E, w15, rfl⟩
  refine ⟨_, rfl, ?_⟩
  have h14K := pw_KE h6I h14E h6K rfl
  have h14L := h14E.1
  show pwl X _ h14 741 [some (.ref 0), some (.ref 16), some (.ref 141), some (.ref 185), some (pw_i i), some (pw_i x7), a6, a7] [.long w15] _
  have h14Rb := pw_RbE h6I h14E h6Rb rfl
  refine pwl_lst E (pc' := 743) (ls' := [some (.ref 0), some (.ref 16), some (.ref 141), some (.ref 185), some (pw_i i), some (pw_i x7), some (.long w15), none]) rfl rfl rfl rfl ?_
  refine pwl_goto E (pc' := 2341) rfl (by decide) ?_
  exact pwl_mono (by omega) (hB h14 (some (pw_i x7)) (some (.long w15)) (none) h14I h14K h14Rb (by omega) (by omega) (fun _ => rfl) (fun _ => rfl) (fun _ => rfl))
set_option maxHeartbeats 4000000 in
theorem lc_9 {X : List (Nat × List Value)} {xs : List Int32} {K : Nat} {h : pm_H} {Q : pm_H → (Option Value ⊕ Unit) → Prop} (hX0 : X[0]? = some (0, xs.map Value.int)) (hl : xs.length ≤ 3584) (hX : pw_Xk X) (hR : pw_Xr X) (hS : pw_Xs X) (hF : pw_Xf X) (I : pw_I h) (hK : pw_K h) (hRb : pw_Rb h) (i : Int) (hi0 : 0 ≤ i) (hi1 : i + 7 ≤ xs.length) (a5 a6 a7 : Option Value) (s5 : ∀ n, pm_scl n a5 = true) (s6 : ∀ n, pm_scl n a6 = true) (s7 : ∀ n, pm_scl n a7 = true) (hB : ∀ (h' : pm_H) (b5 b6 b7 : Option Value), pw_I h' → pw_K h' → pw_Rb h' → h'.length ≤ h.length + 1 → pm_slt h' ≤ pm_slt h + 1000 → (∀ n, pm_scl n b5 = true) → (∀ n, pm_scl n b6 = true) → (∀ n, pm_scl n b7 = true) → pwl X K h' 2341 [some (.ref 0), some (.ref 16), some (.ref 141), some (.ref 185), some (pw_i i), b5, b6, b7] [] Q) : pwl X (K + 150) h 746 [some (.ref 0), some (.ref 16), some (.ref 141), some (.ref 185), some (pw_i i), a5, a6, a7] [] Q := by
  have E : pm_ent 309 = some (1, 8, 13, 1, pmc_309) := rfl
  refine pwl_ld E (pc' := 747) (st' := [.ref 16]) rfl (fun _ => rfl) ?_
  refine pwl_ld E (pc' := 748) (st' := [.ref 0, .ref 16]) rfl (fun _ => rfl) ?_
  refine pwl_ld E (pc' := 750) (st' := [pw_i i, .ref 0, .ref 16]) rfl (fun _ => rfl) ?_
  refine pwl_ld E (pc' := 751) (st' := [pw_i 1, pw_i i, .ref 0, .ref 16]) rfl (fun _ => rfl) ?_
  refine pwl_add E (pc' := 752) rfl rfl ?_
  refine pwl_sald E (pc' := 753) rfl hX0 hl (by omega) (by omega) rfl ?_
  have hs1 := pw_s_r xs (i + 1)
  refine pwl_ld E (pc' := 754) (st' := [.ref 0, pw_i (pw_s xs (i + 1)), .ref 16]) rfl (fun _ => rfl) ?_
  refine pwl_ld E (pc' := 756) (st' := [pw_i i, .ref 0, pw_i (pw_s xs (i + 1)), .ref 16]) rfl (fun _ => rfl) ?_
  refine pwl_ld E (pc' := 757) (st' := [pw_i 2, pw_i i, .ref 0, pw_i (pw_s xs (i + 1)), .ref 16]) rfl (fun _ => rfl) ?_
  refine pwl_add E (pc' := 758) rfl rfl ?_
  refine pwl_sald E (pc' := 759) rfl hX0 hl (by omega) (by omega) rfl ?_
  have hs2 := pw_s_r xs (i + 2)
  refine pwl_ld E (pc' := 760) (st' := [.ref 0, pw_i (pw_s xs (i + 2)), pw_i (pw_s xs (i + 1)), .ref 16]) rfl (fun _ => rfl) ?_
  refine pwl_ld E (pc' := 762) (st' := [pw_i i, .ref 0, pw_i (pw_s xs (i + 2)), pw_i (pw_s xs (i + 1)), .ref 16]) rfl (fun _ => rfl) ?_
  refine pwl_ld E (pc' := 763) (st' := [pw_i 3, pw_i i, .ref 0, pw_i (pw_s xs (i + 2)), pw_i (pw_s xs (i + 1)), .ref 16]) rfl (fun _ => rfl) ?_
  refine pwl_add E (pc' := 764) rfl rfl ?_
  refine pwl_sald E (pc' := 765) rfl hX0 hl (by omega) (by omega) rfl ?_
  have hs3 := pw_s_r xs (i + 3)
  refine pwl_ld E (pc' := 766) (st' := [.ref 185, pw_i (pw_s xs (i + 3)), pw_i (pw_s xs (i + 2)), pw_i (pw_s xs (i + 1)), .ref 16]) rfl (fun _ => rfl) ?_
  refine pwl_call (m' := 313) (As := [.ref 16, pw_i (pw_s xs (i + 1)), pw_i (pw_s xs (i + 2)), pw_i (pw_s xs (i + 3)), .ref 185]) (rest := []) (ls'' := [some (.ref 16), some (pw_i (pw_s xs (i + 1))), some (pw_i (pw_s xs (i + 2))), some (pw_i (pw_s xs (i + 3))), some (.ref 185), none]) E rfl (fun _ => pwl_iS rfl rfl rfl (pw_sc8 I s5 s6 s7) rfl) (rfl : pm_ent 313 = some (5, 6, 13, 0, pmc_313)) (by decide) rfl rfl (cm_313 (by decide) I (pw_s xs (i + 1)) (by omega) (by omega) (pw_s xs (i + 2)) (by omega) (by omega) (pw_s xs (i + 3)) (by omega) (by omega)) ?_
  rintro h5 v4 ⟨h5I, h5E, x6, rfl, hx6a, hx6b⟩
  refine ⟨_, rfl, ?_⟩
  have h5K := pw_KE I h5E hK rfl
  have h5L := h5E.1
  show pwl X _ h5 769 [some (.ref 0), some (.ref 16), some (.ref 141), some (.ref 185), some (pw_i i), a5, a6, a7] [pw_i x6] _
  have h5Rb := pw_RbE I h5E hRb rfl
  refine pwl_ist E (pc' := 771) (ls' := [some (.ref 0), some (.ref 16), some (.ref 141), some (.ref 185), some (pw_i i), some (pw_i x6), a6, a7]) rfl rfl rfl rfl ?_
  refine pwl_ld E (pc' := 772) (st' := [.ref 141]) rfl (fun _ => rfl) ?_
  refine pwl_ld E (pc' := 773) (st' := [.ref 0, .ref 141]) rfl (fun _ => rfl) ?_
  refine pwl_ld E (pc' := 775) (st' := [pw_i i, .ref 0, .ref 141]) rfl (fun _ => rfl) ?_
  refine pwl_ld E (pc' := 776) (st' := [pw_i 1, pw_i i, .ref 0, .ref 141]) rfl (fun _ => rfl) ?_
  refine pwl_add E (pc' := 777) rfl rfl ?_
  refine pwl_sald E (pc' := 778) rfl hX0 hl (by omega) (by omega) rfl ?_
  have hs7 := pw_s_r xs (i + 1)
  refine pwl_ld E (pc' := 779) (st' := [.ref 0, pw_i (pw_s xs (i + 1)), .ref 141]) rfl (fun _ => rfl) ?_
  refine pwl_ld E (pc' := 781) (st' := [pw_i i, .ref 0, pw_i (pw_s xs (i + 1)), .ref 141]) rfl (fun _ => rfl) ?_
  refine pwl_ld E (pc' := 782) (st' := [pw_i 2, pw_i i, .ref 0, pw_i (pw_s xs (i + 1)), .ref 141]) rfl (fun _ => rfl) ?_
  refine pwl_add E (pc' := 783) rfl rfl ?_
  refine pwl_sald E (pc' := 784) rfl hX0 hl (by omega) (by omega) rfl ?_
  have hs8 := pw_s_r xs (i + 2)
  refine pwl_ld E (pc' := 785) (st' := [.ref 0, pw_i (pw_s xs (i + 2)), pw_i (pw_s xs (i + 1)), .ref 141]) rfl (fun _ => rfl) ?_
  refine pwl_ld E (pc' := 787) (st' := [pw_i i, .ref 0, pw_i (pw_s xs (i + 2)), pw_i (pw_s xs (i + 1)), .ref 141]) rfl (fun _ => rfl) ?_
  refine pwl_ld E (pc' := 788) (st' := [pw_i 3, pw_i i, .ref 0, pw_i (pw_s xs (i + 2)), pw_i (pw_s xs (i + 1)), .ref 141]) rfl (fun _ => rfl) ?_
  refine pwl_add E (pc' := 789) rfl rfl ?_
  refine pwl_sald E (pc' := 790) rfl hX0 hl (by omega) (by omega) rfl ?_
  have hs9 := pw_s_r xs (i + 3)
  obtain ⟨f10l, f10h, -⟩ := pw_obj (c := 125) h5I rfl
  refine pwl_call (m' := 225) (As := [.ref 141, pw_i (pw_s xs (i + 1)), pw_i (pw_s xs (i + 2)), pw_i (pw_s xs (i + 3))]) (rest := []) (ls'' := [some (.ref 141), some (pw_i (pw_s xs (i + 1))), some (pw_i (pw_s xs (i + 2))), some (pw_i (pw_s xs (i + 3)))]) E rfl (fun _ => pwl_iV rfl rfl rfl (pw_cellI f10h rfl)) (rfl : pm_ent 225 = some (4, 4, 12, 2, pmc_225)) (by decide) rfl rfl (cm_225 (by decide) h5I (pw_s xs (i + 1)) (by omega) (by omega) (pw_s xs (i + 2)) (by omega) (by omega) (pw_s xs (i + 3)) (by omega) (by omega)) ?_
  rintro h12 v11 ⟨h12I, h12E, w13, rfl⟩
  refine ⟨_, rfl, ?_⟩
  have h12K := pw_KE h5I h12E h5K rfl
  have h12L := h12E.1
  show pwl X _ h12 793 [some (.ref 0), some (.ref 16), some (.ref 141), some (.ref 185), some (pw_i i), some (pw_i x6), a6, a7] [.long w13] _
  have h12Rb := pw_RbE h5I h12E h5Rb rfl
  refine pwl_lst E (pc' := 795) (ls' := [some (.ref 0), some (.ref 16), some (.ref 141), some (.ref 185), some (pw_i i), some (pw_i x6), some (.long w13), none]) rfl rfl rfl rfl ?_
  refine pwl_goto E (pc' := 2341) rfl (by decide) ?_
  exact pwl_mono (by omega) (hB h12 (some (pw_i x6)) (some (.long w13)) (none) h12I h12K h12Rb (by omega) (by omega) (fun _ => rfl) (fun _ => rfl) (fun _ => rfl))
set_option maxHeartbeats 4000000 in
theorem lc_10 {X : List (Nat × List Value)} {xs : List Int32} {K : Nat} {h : pm_H} {Q : pm_H → (Option Value ⊕ Unit) → Prop} (hX0 : X[0]? = some (0, xs.map Value.int)) (hl : xs.length ≤ 3584) (hX : pw_Xk X) (hR : pw_Xr X) (hS : pw_Xs X) (hF : pw_Xf X) (I : pw_I h) (hK : pw_K h) (hRb : pw_Rb h) (i : Int) (hi0 : 0 ≤ i) (hi1 : i + 7 ≤ xs.length) (a5 a6 a7 : Option Value) (s5 : ∀ n, pm_scl n a5 = true) (s6 : ∀ n, pm_scl n a6 = true) (s7 : ∀ n, pm_scl n a7 = true) (hB : ∀ (h' : pm_H) (b5 b6 b7 : Option Value), pw_I h' → pw_K h' → pw_Rb h' → h'.length ≤ h.length + 1 → pm_slt h' ≤ pm_slt h + 1000 → (∀ n, pm_scl n b5 = true) → (∀ n, pm_scl n b6 = true) → (∀ n, pm_scl n b7 = true) → pwl X K h' 2341 [some (.ref 0), some (.ref 16), some (.ref 141), some (.ref 185), some (pw_i i), b5, b6, b7] [] Q) : pwl X (K + 150) h 798 [some (.ref 0), some (.ref 16), some (.ref 141), some (.ref 185), some (pw_i i), a5, a6, a7] [] Q := by
  have E : pm_ent 309 = some (1, 8, 13, 1, pmc_309) := rfl
  refine pwl_ld E (pc' := 799) (st' := [.ref 16]) rfl (fun _ => rfl) ?_
  refine pwl_ld E (pc' := 800) (st' := [.ref 0, .ref 16]) rfl (fun _ => rfl) ?_
  refine pwl_ld E (pc' := 802) (st' := [pw_i i, .ref 0, .ref 16]) rfl (fun _ => rfl) ?_
  refine pwl_ld E (pc' := 803) (st' := [pw_i 1, pw_i i, .ref 0, .ref 16]) rfl (fun _ => rfl) ?_
  refine pwl_add E (pc' := 804) rfl rfl ?_
  refine pwl_sald E (pc' := 805) rfl hX0 hl (by omega) (by omega) rfl ?_
  have hs1 := pw_s_r xs (i + 1)
  refine pwl_ld E (pc' := 806) (st' := [.ref 0, pw_i (pw_s xs (i + 1)), .ref 16]) rfl (fun _ => rfl) ?_
  refine pwl_ld E (pc' := 808) (st' := [pw_i i, .ref 0, pw_i (pw_s xs (i + 1)), .ref 16]) rfl (fun _ => rfl) ?_
  refine pwl_ld E (pc' := 809) (st' := [pw_i 2, pw_i i, .ref 0, pw_i (pw_s xs (i + 1)), .ref 16]) rfl (fun _ => rfl) ?_
  refine pwl_add E (pc' := 810) rfl rfl ?_
  refine pwl_sald E (pc' := 811) rfl hX0 hl (by omega) (by omega) rfl ?_
  have hs2 := pw_s_r xs (i + 2)
  obtain ⟨f3l, f3h, -⟩ := pw_obj (c := 0) I rfl
  refine pwl_call (m' := 130) (As := [.ref 16, pw_i (pw_s xs (i + 1)), pw_i (pw_s xs (i + 2))]) (rest := []) (ls'' := [some (.ref 16), some (pw_i (pw_s xs (i + 1))), some (pw_i (pw_s xs (i + 2)))]) E rfl (fun _ => pwl_iV rfl rfl rfl (pw_cellI f3h rfl)) (rfl : pm_ent 130 = some (3, 3, 11, 0, pmc_130)) (by decide) rfl rfl (cm_130 (by decide) I (pw_s xs (i + 1)) (by omega) (by omega) (pw_s xs (i + 2)) (by omega) (by omega)) ?_
  rintro h5 v4 ⟨h5I, h5E, x6, rfl, hx6a, hx6b⟩
  refine ⟨_, rfl, ?_⟩
  have h5K := pw_KE I h5E hK rfl
  have h5L := h5E.1
  show pwl X _ h5 814 [some (.ref 0), some (.ref 16), some (.ref 141), some (.ref 185), some (pw_i i), a5, a6, a7] [pw_i x6] _
  have h5Rb := pw_RbE I h5E hRb rfl
  refine pwl_ld E (pc' := 815) (st' := []) rfl (fun _ => rfl) ?_
  refine pwl_ld E (pc' := 816) (st' := [.ref 141]) rfl (fun _ => rfl) ?_
  refine pwl_ld E (pc' := 817) (st' := [.ref 0, .ref 141]) rfl (fun _ => rfl) ?_
  refine pwl_ld E (pc' := 819) (st' := [pw_i i, .ref 0, .ref 141]) rfl (fun _ => rfl) ?_
  refine pwl_ld E (pc' := 820) (st' := [pw_i 1, pw_i i, .ref 0, .ref 141]) rfl (fun _ => rfl) ?_
  refine pwl_add E (pc' := 821) rfl rfl ?_
  refine pwl_sald E (pc' := 822) rfl hX0 hl (by omega) (by omega) rfl ?_
  have hs7 := pw_s_r xs (i + 1)
  refine pwl_ld E (pc' := 823) (st' := [.ref 0, pw_i (pw_s xs (i + 1)), .ref 141]) rfl (fun _ => rfl) ?_
  refine pwl_ld E (pc' := 825) (st' := [pw_i i, .ref 0, pw_i (pw_s xs (i + 1)), .ref 141]) rfl (fun _ => rfl) ?_
  refine pwl_ld E (pc' := 826) (st' := [pw_i 2, pw_i i, .ref 0, pw_i (pw_s xs (i + 1)), .ref 141]) rfl (fun _ => rfl) ?_
  refine pwl_add E (pc' := 827) rfl rfl ?_
  refine pwl_sald E (pc' := 828) rfl hX0 hl (by omega) (by omega) rfl ?_
  have hs8 := pw_s_r xs (i + 2)
  obtain ⟨f9l, f9h, -⟩ := pw_obj (c := 125) h5I rfl
  refine pwl_call (m' := 228) (As := [.ref 141, pw_i (pw_s xs (i + 1)), pw_i (pw_s xs (i + 2))]) (rest := []) (ls'' := [some (.ref 141), some (pw_i (pw_s xs (i + 1))), some (pw_i (pw_s xs (i + 2))), none]) E rfl (fun _ => pwl_iV rfl rfl rfl (pw_cellI f9h rfl)) (rfl : pm_ent 228 = some (3, 4, 12, 0, pmc_228)) (by decide) rfl rfl (cm_228 (by decide) h5I (pw_s xs (i + 1)) (by omega) (by omega) (pw_s xs (i + 2)) (by omega) (by omega)) ?_
  rintro h11 v10 ⟨h11I, h11E, x12, rfl, hx12a, hx12b⟩
  refine ⟨_, rfl, ?_⟩
  have h11K := pw_KE h5I h11E h5K rfl
  have h11L := h11E.1
  show pwl X _ h11 831 [some (.ref 0), some (.ref 16), some (.ref 141), some (.ref 185), some (pw_i i), a5, a6, a7] [pw_i x12] _
  have h11Rb := pw_RbE h5I h11E h5Rb rfl
  refine pwl_ld E (pc' := 832) (st' := []) rfl (fun _ => rfl) ?_
  refine pwl_goto E (pc' := 2341) rfl (by decide) ?_
  exact pwl_mono (by omega) (hB h11 (a5) (a6) (a7) h11I h11K h11Rb (by omega) (by omega) s5 s6 s7)
set_option maxHeartbeats 4000000 in
theorem lc_11 {X : List (Nat × List Value)} {xs : List Int32} {K : Nat} {h : pm_H} {Q : pm_H → (Option Value ⊕ Unit) → Prop} (hX0 : X[0]? = some (0, xs.map Value.int)) (hl : xs.length ≤ 3584) (hX : pw_Xk X) (hR : pw_Xr X) (hS : pw_Xs X) (hF : pw_Xf X) (I : pw_I h) (hK : pw_K h) (hRb : pw_Rb h) (i : Int) (hi0 : 0 ≤ i) (hi1 : i + 7 ≤ xs.length) (a5 a6 a7 : Option Value) (s5 : ∀ n, pm_scl n a5 = true) (s6 : ∀ n, pm_scl n a6 = true) (s7 : ∀ n, pm_scl n a7 = true) (hB : ∀ (h' : pm_H) (b5 b6 b7 : Option Value), pw_I h' → pw_K h' → pw_Rb h' → h'.length ≤ h.length + 1 → pm_slt h' ≤ pm_slt h + 1000 → (∀ n, pm_scl n b5 = true) → (∀ n, pm_scl n b6 = true) → (∀ n, pm_scl n b7 = true) → pwl X K h' 2341 [some (.ref 0), some (.ref 16), some (.ref 141), some (.ref 185), some (pw_i i), b5, b6, b7] [] Q) : pwl X (K + 150) h 835 [some (.ref 0), some (.ref 16), some (.ref 141), some (.ref 185), some (pw_i i), a5, a6, a7] [] Q := by
  have E : pm_ent 309 = some (1, 8, 13, 1, pmc_309) := rfl
  refine pwl_ld E (pc' := 836) (st' := [.ref 16]) rfl (fun _ => rfl) ?_
  refine pwl_ld E (pc' := 837) (st' := [.ref 0, .ref 16]) rfl (fun _ => rfl) ?_
  refine pwl_ld E (pc' := 839) (st' := [pw_i i, .ref 0, .ref 16]) rfl (fun _ => rfl) ?_
  refine pwl_ld E (pc' := 840) (st' := [pw_i 1, pw_i i, .ref 0, .ref 16]) rfl (fun _ => rfl) ?_
  refine pwl_add E (pc' := 841) rfl rfl ?_
  refine pwl_sald E (pc' := 842) rfl hX0 hl (by omega) (by omega) rfl ?_
  have hs1 := pw_s_r xs (i + 1)
  refine pwl_ld E (pc' := 843) (st' := [.ref 0, pw_i (pw_s xs (i + 1)), .ref 16]) rfl (fun _ => rfl) ?_
  refine pwl_ld E (pc' := 845) (st' := [pw_i i, .ref 0, pw_i (pw_s xs (i + 1)), .ref 16]) rfl (fun _ => rfl) ?_
  refine pwl_ld E (pc' := 846) (st' := [pw_i 2, pw_i i, .ref 0, pw_i (pw_s xs (i + 1)), .ref 16]) rfl (fun _ => rfl) ?_
  refine pwl_add E (pc' := 847) rfl rfl ?_
  refine pwl_sald E (pc' := 848) rfl hX0 hl (by omega) (by omega) rfl ?_
  have hs2 := pw_s_r xs (i + 2)
  obtain ⟨f3l, f3h, -⟩ := pw_obj (c := 0) I rfl
  refine pwl_call (m' := 134) (As := [.ref 16, pw_i (pw_s xs (i + 1)), pw_i (pw_s xs (i + 2))]) (rest := []) (ls'' := [some (.ref 16), some (pw_i (pw_s xs (i + 1))), some (pw_i (pw_s xs (i + 2))), none, none, none, none, none, none, none, none, none, none]) E rfl (fun _ => pwl_iV rfl rfl rfl (pw_cellI f3h rfl)) (rfl : pm_ent 134 = some (3, 13, 11, 0, pmc_134)) (by decide) rfl rfl (cm_134 (by decide) I (pw_s xs (i + 1)) (by omega) (by omega) (pw_s xs (i + 2)) (by omega) (by omega)) ?_
  rintro h5 v4 ⟨rfl, x6, rfl, hx6a, hx6b⟩
  refine ⟨_, rfl, ?_⟩
  show pwl X _ h 851 [some (.ref 0), some (.ref 16), some (.ref 141), some (.ref 185), some (pw_i i), a5, a6, a7] [pw_i x6] _
  refine pwl_ld E (pc' := 852) (st' := []) rfl (fun _ => rfl) ?_
  refine pwl_ld E (pc' := 853) (st' := [.ref 141]) rfl (fun _ => rfl) ?_
  refine pwl_ld E (pc' := 854) (st' := [.ref 0, .ref 141]) rfl (fun _ => rfl) ?_
  refine pwl_ld E (pc' := 856) (st' := [pw_i i, .ref 0, .ref 141]) rfl (fun _ => rfl) ?_
  refine pwl_ld E (pc' := 857) (st' := [pw_i 1, pw_i i, .ref 0, .ref 141]) rfl (fun _ => rfl) ?_
  refine pwl_add E (pc' := 858) rfl rfl ?_
  refine pwl_sald E (pc' := 859) rfl hX0 hl (by omega) (by omega) rfl ?_
  have hs7 := pw_s_r xs (i + 1)
  refine pwl_ld E (pc' := 860) (st' := [.ref 0, pw_i (pw_s xs (i + 1)), .ref 141]) rfl (fun _ => rfl) ?_
  refine pwl_ld E (pc' := 862) (st' := [pw_i i, .ref 0, pw_i (pw_s xs (i + 1)), .ref 141]) rfl (fun _ => rfl) ?_
  refine pwl_ld E (pc' := 863) (st' := [pw_i 2, pw_i i, .ref 0, pw_i (pw_s xs (i + 1)), .ref 141]) rfl (fun _ => rfl) ?_
  refine pwl_add E (pc' := 864) rfl rfl ?_
  refine pwl_sald E (pc' := 865) rfl hX0 hl (by omega) (by omega) rfl ?_
  have hs8 := pw_s_r xs (i + 2)
  obtain ⟨f9l, f9h, -⟩ := pw_obj (c := 125) I rfl
  refine pwl_call (m' := 229) (As := [.ref 141, pw_i (pw_s xs (i + 1)), pw_i (pw_s xs (i + 2))]) (rest := []) (ls'' := [some (.ref 141), some (pw_i (pw_s xs (i + 1))), some (pw_i (pw_s xs (i + 2))), none, none, none, none, none, none, none, none, none, none, none]) E rfl (fun _ => pwl_iV rfl rfl rfl (pw_cellI f9h rfl)) (rfl : pm_ent 229 = some (3, 14, 12, 0, pmc_229)) (by decide) rfl rfl (cm_229 (by decide) I (pw_s xs (i + 1)) (by omega) (by omega) (pw_s xs (i + 2)) (by omega) (by omega)) ?_
  rintro h11 v10 ⟨h11I, h11E, x12, rfl, hx12a, hx12b⟩
  refine ⟨_, rfl, ?_⟩
  have h11K := pw_KE I h11E hK rfl
  have h11L := h11E.1
  show pwl X _ h11 868 [some (.ref 0), some (.ref 16), some (.ref 141), some (.ref 185), some (pw_i i), a5, a6, a7] [pw_i x12] _
  have h11Rb := pw_RbE I h11E hRb rfl
  refine pwl_ld E (pc' := 869) (st' := []) rfl (fun _ => rfl) ?_
  refine pwl_goto E (pc' := 2341) rfl (by decide) ?_
  exact pwl_mono (by omega) (hB h11 (a5) (a6) (a7) h11I h11K h11Rb (by omega) (by omega) s5 s6 s7)
set_option maxHeartbeats 4000000 in
theorem lc_12 {X : List (Nat × List Value)} {xs : List Int32} {K : Nat} {h : pm_H} {Q : pm_H → (Option Value ⊕ Unit) → Prop} (hX0 : X[0]? = some (0, xs.map Value.int)) (hl : xs.length ≤ 3584) (hX : pw_Xk X) (hR : pw_Xr X) (hS : pw_Xs X) (hF : pw_Xf X) (I : pw_I h) (hK : pw_K h) (hRb : pw_Rb h) (i : Int) (hi0 : 0 ≤ i) (hi1 : i + 7 ≤ xs.length) (a5 a6 a7 : Option Value) (s5 : ∀ n, pm_scl n a5 = true) (s6 : ∀ n, pm_scl n a6 = true) (s7 : ∀ n, pm_scl n a7 = true) (hB : ∀ (h' : pm_H) (b5 b6 b7 : Option Value), pw_I h' → pw_K h' → pw_Rb h' → h'.length ≤ h.length + 1 → pm_slt h' ≤ pm_slt h + 1000 → (∀ n, pm_scl n b5 = true) → (∀ n, pm_scl n b6 = true) → (∀ n, pm_scl n b7 = true) → pwl X K h' 2341 [some (.ref 0), some (.ref 16), some (.ref 141), some (.ref 185), some (pw_i i), b5, b6, b7] [] Q) : pwl X (K + 150) h 872 [some (.ref 0), some (.ref 16), some (.ref 141), some (.ref 185), some (pw_i i), a5, a6, a7] [] Q := by
  have E : pm_ent 309 = some (1, 8, 13, 1, pmc_309) := rfl
  refine pwl_ld E (pc' := 873) (st' := [.ref 16]) rfl (fun _ => rfl) ?_
  refine pwl_ld E (pc' := 874) (st' := [.ref 0, .ref 16]) rfl (fun _ => rfl) ?_
  refine pwl_ld E (pc' := 876) (st' := [pw_i i, .ref 0, .ref 16]) rfl (fun _ => rfl) ?_
  refine pwl_ld E (pc' := 877) (st' := [pw_i 1, pw_i i, .ref 0, .ref 16]) rfl (fun _ => rfl) ?_
  refine pwl_add E (pc' := 878) rfl rfl ?_
  refine pwl_sald E (pc' := 879) rfl hX0 hl (by omega) (by omega) rfl ?_
  have hs1 := pw_s_r xs (i + 1)
  refine pwl_ld E (pc' := 880) (st' := [.ref 0, pw_i (pw_s xs (i + 1)), .ref 16]) rfl (fun _ => rfl) ?_
  refine pwl_ld E (pc' := 882) (st' := [pw_i i, .ref 0, pw_i (pw_s xs (i + 1)), .ref 16]) rfl (fun _ => rfl) ?_
  refine pwl_ld E (pc' := 883) (st' := [pw_i 2, pw_i i, .ref 0, pw_i (pw_s xs (i + 1)), .ref 16]) rfl (fun _ => rfl) ?_
  refine pwl_add E (pc' := 884) rfl rfl ?_
  refine pwl_sald E (pc' := 885) rfl hX0 hl (by omega) (by omega) rfl ?_
  have hs2 := pw_s_r xs (i + 2)
  refine pwl_ld E (pc' := 886) (st' := [.ref 0, pw_i (pw_s xs (i + 2)), pw_i (pw_s xs (i + 1)), .ref 16]) rfl (fun _ => rfl) ?_
  refine pwl_ld E (pc' := 888) (st' := [pw_i i, .ref 0, pw_i (pw_s xs (i + 2)), pw_i (pw_s xs (i + 1)), .ref 16]) rfl (fun _ => rfl) ?_
  refine pwl_ld E (pc' := 889) (st' := [pw_i 3, pw_i i, .ref 0, pw_i (pw_s xs (i + 2)), pw_i (pw_s xs (i + 1)), .ref 16]) rfl (fun _ => rfl) ?_
  refine pwl_add E (pc' := 890) rfl rfl ?_
  refine pwl_sald E (pc' := 891) rfl hX0 hl (by omega) (by omega) rfl ?_
  have hs3 := pw_s_r xs (i + 3)
  refine pwl_if E (pc' := 898) rfl (by decide) (by omega) (by omega) ?_ ?_
  · intro hc4
    have hc4 : pw_s xs (i + 3) = (0 : Int) := hc4
    refine pwl_ld E (pc' := 899) (st' := [pw_i 0, pw_i (pw_s xs (i + 2)), pw_i (pw_s xs (i + 1)), .ref 16]) rfl (fun _ => rfl) ?_
    refine pwl_ld E (pc' := 900) (st' := [.ref 0, pw_i 0, pw_i (pw_s xs (i + 2)), pw_i (pw_s xs (i + 1)), .ref 16]) rfl (fun _ => rfl) ?_
    refine pwl_ld E (pc' := 902) (st' := [pw_i i, .ref 0, pw_i 0, pw_i (pw_s xs (i + 2)), pw_i (pw_s xs (i + 1)), .ref 16]) rfl (fun _ => rfl) ?_
    refine pwl_ld E (pc' := 903) (st' := [pw_i 4, pw_i i, .ref 0, pw_i 0, pw_i (pw_s xs (i + 2)), pw_i (pw_s xs (i + 1)), .ref 16]) rfl (fun _ => rfl) ?_
    refine pwl_add E (pc' := 904) rfl rfl ?_
    refine pwl_sald E (pc' := 905) rfl hX0 hl (by omega) (by omega) rfl ?_
    have hs5 := pw_s_r xs (i + 4)
    refine pwl_ld E (pc' := 906) (st' := [.ref 185, pw_i (pw_s xs (i + 4)), pw_i 0, pw_i (pw_s xs (i + 2)), pw_i (pw_s xs (i + 1)), .ref 16]) rfl (fun _ => rfl) ?_
    refine pwl_call (m' := 314) (As := [.ref 16, pw_i (pw_s xs (i + 1)), pw_i (pw_s xs (i + 2)), pw_i 0, pw_i (pw_s xs (i + 4)), .ref 185]) (rest := []) (ls'' := [some (.ref 16), some (pw_i (pw_s xs (i + 1))), some (pw_i (pw_s xs (i + 2))), some (pw_i 0), some (pw_i (pw_s xs (i + 4))), some (.ref 185), none]) E rfl (fun _ => pwl_iS rfl rfl rfl (pw_sc8 I s5 s6 s7) rfl) (rfl : pm_ent 314 = some (6, 7, 13, 0, pmc_314)) (by decide) rfl rfl (cm_314 (by decide) I (pw_s xs (i + 1)) (by omega) (by omega) (pw_s xs (i + 2)) (by omega) (by omega) 0 (by decide) (by decide) (pw_s xs (i + 4)) (by omega) (by omega)) ?_
    rintro h7 v6 ⟨h7I, h7E, x8, rfl, hx8a, hx8b⟩
    refine ⟨_, rfl, ?_⟩
    have h7K := pw_KE I h7E hK rfl
    have h7L := h7E.1
    show pwl X _ h7 909 [some (.ref 0), some (.ref 16), some (.ref 141), some (.ref 185), some (pw_i i), a5, a6, a7] [pw_i x8] _
    have h7Rb := pw_RbE I h7E hRb rfl
    refine pwl_ist E (pc' := 911) (ls' := [some (.ref 0), some (.ref 16), some (.ref 141), some (.ref 185), some (pw_i i), some (pw_i x8), a6, a7]) rfl rfl rfl rfl ?_
    refine pwl_ld E (pc' := 912) (st' := [.ref 141]) rfl (fun _ => rfl) ?_
    refine pwl_ld E (pc' := 913) (st' := [.ref 0, .ref 141]) rfl (fun _ => rfl) ?_
    refine pwl_ld E (pc' := 915) (st' := [pw_i i, .ref 0, .ref 141]) rfl (fun _ => rfl) ?_
    refine pwl_ld E (pc' := 916) (st' := [pw_i 1, pw_i i, .ref 0, .ref 141]) rfl (fun _ => rfl) ?_
    refine pwl_add E (pc' := 917) rfl rfl ?_
    refine pwl_sald E (pc' := 918) rfl hX0 hl (by omega) (by omega) rfl ?_
    have hs9 := pw_s_r xs (i + 1)
    refine pwl_ld E (pc' := 919) (st' := [.ref 0, pw_i (pw_s xs (i + 1)), .ref 141]) rfl (fun _ => rfl) ?_
    refine pwl_ld E (pc' := 921) (st' := [pw_i i, .ref 0, pw_i (pw_s xs (i + 1)), .ref 141]) rfl (fun _ => rfl) ?_
    refine pwl_ld E (pc' := 922) (st' := [pw_i 2, pw_i i, .ref 0, pw_i (pw_s xs (i + 1)), .ref 141]) rfl (fun _ => rfl) ?_
    refine pwl_add E (pc' := 923) rfl rfl ?_
    refine pwl_sald E (pc' := 924) rfl hX0 hl (by omega) (by omega) rfl ?_
    have hs10 := pw_s_r xs (i + 2)
    refine pwl_ld E (pc' := 925) (st' := [.ref 0, pw_i (pw_s xs (i + 2)), pw_i (pw_s xs (i + 1)), .ref 141]) rfl (fun _ => rfl) ?_
    refine pwl_ld E (pc' := 927) (st' := [pw_i i, .ref 0, pw_i (pw_s xs (i + 2)), pw_i (pw_s xs (i + 1)), .ref 141]) rfl (fun _ => rfl) ?_
    refine pwl_ld E (pc' := 928) (st' := [pw_i 3, pw_i i, .ref 0, pw_i (pw_s xs (i + 2)), pw_i (pw_s xs (i + 1)), .ref 141]) rfl (fun _ => rfl) ?_
    refine pwl_add E (pc' := 929) rfl rfl ?_
    refine pwl_sald E (pc' := 930) rfl hX0 hl (by omega) (by omega) rfl ?_
    have hs11 := pw_s_r xs (i + 3)
    refine pwl_if E (pc' := 937) rfl (by decide) (by omega) (by omega) ?_ ?_
    · intro hc12
      have hc12 : pw_s xs (i + 3) = (0 : Int) := hc12
      refine pwl_ld E (pc' := 938) (st' := [pw_i 0, pw_i (pw_s xs (i + 2)), pw_i (pw_s xs (i + 1)), .ref 141]) rfl (fun _ => rfl) ?_
      refine pwl_ld E (pc' := 939) (st' := [.ref 0, pw_i 0, pw_i (pw_s xs (i + 2)), pw_i (pw_s xs (i + 1)), .ref 141]) rfl (fun _ => rfl) ?_
      refine pwl_ld E (pc' := 941) (st' := [pw_i i, .ref 0, pw_i 0, pw_i (pw_s xs (i + 2)), pw_i (pw_s xs (i + 1)), .ref 141]) rfl (fun _ => rfl) ?_
      refine pwl_ld E (pc' := 942) (st' := [pw_i 4, pw_i i, .ref 0, pw_i 0, pw_i (pw_s xs (i + 2)), pw_i (pw_s xs (i + 1)), .ref 141]) rfl (fun _ => rfl) ?_
      refine pwl_add E (pc' := 943) rfl rfl ?_
      refine pwl_sald E (pc' := 944) rfl hX0 hl (by omega) (by omega) rfl ?_
      have hs13 := pw_s_r xs (i + 4)
      obtain ⟨f14l, f14h, -⟩ := pw_obj (c := 125) h7I rfl
      refine pwl_call (m' := 230) (As := [.ref 141, pw_i (pw_s xs (i + 1)), pw_i (pw_s xs (i + 2)), pw_i 0, pw_i (pw_s xs (i + 4))]) (rest := []) (ls'' := [some (.ref 141), some (pw_i (pw_s xs (i + 1))), some (pw_i (pw_s xs (i + 2))), some (pw_i 0), some (pw_i (pw_s xs (i + 4))), none, none, none]) E rfl (fun _ => pwl_iV rfl rfl rfl (pw_cellI f14h rfl)) (rfl : pm_ent 230 = some (5, 8, 12, 2, pmc_230)) (by decide) rfl rfl (cm_230 (by decide) h7I (pw_s xs (i + 1)) (by omega) (by omega) (pw_s xs (i + 2)) (by omega) (by omega) 0 (by decide) (by decide) (pw_s xs (i + 4)) (by omega) (by omega)) ?_
      rintro h16 v15 ⟨h16I, h16E, w17, rfl⟩
      refine ⟨_, rfl, ?_⟩
      have h16K := pw_KE h7I h16E h7K rfl
      have h16L := h16E.1
      show pwl X _ h16 947 [some (.ref 0), some (.ref 16), some (.ref 141), some (.ref 185), some (pw_i i), some (pw_i x8), a6, a7] [.long w17] _
      have h16Rb := pw_RbE h7I h16E h7Rb rfl
      refine pwl_lst E (pc' := 949) (ls' := [some (.ref 0), some (.ref 16), some (.ref 141), some (.ref 185), some (pw_i i), some (pw_i x8), some (.long w17), none]) rfl rfl rfl rfl ?_
      refine pwl_goto E (pc' := 2341) rfl (by decide) ?_
      exact pwl_mono (by omega) (hB h16 (some (pw_i x8)) (some (.long w17)) (none) h16I h16K h16Rb (by omega) (by omega) (fun _ => rfl) (fun _ => rfl) (fun _ => rfl))
    · intro hc18
      have hc18 : ¬ (pw_s xs (i + 3) = (0 : Int)) := hc18
      exfalso; omega
  · intro hc19
    have hc19 : ¬ (pw_s xs (i + 3) = (0 : Int)) := hc19
    refine pwl_ld E (pc' := 895) (st' := [pw_i 1, pw_i (pw_s xs (i + 2)), pw_i (pw_s xs (i + 1)), .ref 16]) rfl (fun _ => rfl) ?_
    refine pwl_goto E (pc' := 899) rfl (by decide) ?_
    refine pwl_ld E (pc' := 900) (st' := [.ref 0, pw_i 1, pw_i (pw_s xs (i + 2)), pw_i (pw_s xs (i + 1)), .ref 16]) rfl (fun _ => rfl) ?_
    refine pwl_ld E (pc' := 902) (st' := [pw_i i, .ref 0, pw_i 1, pw_i (pw_s xs (i + 2)), pw_i (pw_s xs (i + 1)), .ref 16]) rfl (fun _ => rfl) ?_
    refine pwl_ld E (pc' := 903) (st' := [pw_i 4, pw_i i, .ref 0, pw_i 1, pw_i (pw_s xs (i + 2)), pw_i (pw_s xs (i + 1)), .ref 16]) rfl (fun _ => rfl) ?_
    refine pwl_add E (pc' := 904) rfl rfl ?_
    refine pwl_sald E (pc' := 905) rfl hX0 hl (by omega) (by omega) rfl ?_
    have hs20 := pw_s_r xs (i + 4)
    refine pwl_ld E (pc' := 906) (st' := [.ref 185, pw_i (pw_s xs (i + 4)), pw_i 1, pw_i (pw_s xs (i + 2)), pw_i (pw_s xs (i + 1)), .ref 16]) rfl (fun _ => rfl) ?_
    refine pwl_call (m' := 314) (As := [.ref 16, pw_i (pw_s xs (i + 1)), pw_i (pw_s xs (i + 2)), pw_i 1, pw_i (pw_s xs (i + 4)), .ref 185]) (rest := []) (ls'' := [some (.ref 16), some (pw_i (pw_s xs (i + 1))), some (pw_i (pw_s xs (i + 2))), some (pw_i 1), some (pw_i (pw_s xs (i + 4))), some (.ref 185), none]) E rfl (fun _ => pwl_iS rfl rfl rfl (pw_sc8 I s5 s6 s7) rfl) (rfl : pm_ent 314 = some (6, 7, 13, 0, pmc_314)) (by decide) rfl rfl (cm_314 (by decide) I (pw_s xs (i + 1)) (by omega) (by omega) (pw_s xs (i + 2)) (by omega) (by omega) 1 (by decide) (by decide) (pw_s xs (i + 4)) (by omega) (by omega)) ?_
    rintro h22 v21 ⟨h22I, h22E, x23, rfl, hx23a, hx23b⟩
    refine ⟨_, rfl, ?_⟩
    have h22K := pw_KE I h22E hK rfl
    have h22L := h22E.1
    show pwl X _ h22 909 [some (.ref 0), some (.ref 16), some (.ref 141), some (.ref 185), some (pw_i i), a5, a6, a7] [pw_i x23] _
    have h22Rb := pw_RbE I h22E hRb rfl
    refine pwl_ist E (pc' := 911) (ls' := [some (.ref 0), some (.ref 16), some (.ref 141), some (.ref 185), some (pw_i i), some (pw_i x23), a6, a7]) rfl rfl rfl rfl ?_
    refine pwl_ld E (pc' := 912) (st' := [.ref 141]) rfl (fun _ => rfl) ?_
    refine pwl_ld E (pc' := 913) (st' := [.ref 0, .ref 141]) rfl (fun _ => rfl) ?_
    refine pwl_ld E (pc' := 915) (st' := [pw_i i, .ref 0, .ref 141]) rfl (fun _ => rfl) ?_
    refine pwl_ld E (pc' := 916) (st' := [pw_i 1, pw_i i, .ref 0, .ref 141]) rfl (fun _ => rfl) ?_
    refine pwl_add E (pc' := 917) rfl rfl ?_
    refine pwl_sald E (pc' := 918) rfl hX0 hl (by omega) (by omega) rfl ?_
    have hs24 := pw_s_r xs (i + 1)
    refine pwl_ld E (pc' := 919) (st' := [.ref 0, pw_i (pw_s xs (i + 1)), .ref 141]) rfl (fun _ => rfl) ?_
    refine pwl_ld E (pc' := 921) (st' := [pw_i i, .ref 0, pw_i (pw_s xs (i + 1)), .ref 141]) rfl (fun _ => rfl) ?_
    refine pwl_ld E (pc' := 922) (st' := [pw_i 2, pw_i i, .ref 0, pw_i (pw_s xs (i + 1)), .ref 141]) rfl (fun _ => rfl) ?_
    refine pwl_add E (pc' := 923) rfl rfl ?_
    refine pwl_sald E (pc' := 924) rfl hX0 hl (by omega) (by omega) rfl ?_
    have hs25 := pw_s_r xs (i + 2)
    refine pwl_ld E (pc' := 925) (st' := [.ref 0, pw_i (pw_s xs (i + 2)), pw_i (pw_s xs (i + 1)), .ref 141]) rfl (fun _ => rfl) ?_
    refine pwl_ld E (pc' := 927) (st' := [pw_i i, .ref 0, pw_i (pw_s xs (i + 2)), pw_i (pw_s xs (i + 1)), .ref 141]) rfl (fun _ => rfl) ?_
    refine pwl_ld E (pc' := 928) (st' := [pw_i 3, pw_i i, .ref 0, pw_i (pw_s xs (i + 2)), pw_i (pw_s xs (i + 1)), .ref 141]) rfl (fun _ => rfl) ?_
    refine pwl_add E (pc' := 929) rfl rfl ?_
    refine pwl_sald E (pc' := 930) rfl hX0 hl (by omega) (by omega) rfl ?_
    have hs26 := pw_s_r xs (i + 3)
    refine pwl_if E (pc' := 937) rfl (by decide) (by omega) (by omega) ?_ ?_
    · intro hc27
      have hc27 : pw_s xs (i + 3) = (0 : Int) := hc27
      exfalso; omega
    · intro hc28
      have hc28 : ¬ (pw_s xs (i + 3) = (0 : Int)) := hc28
      refine pwl_ld E (pc' := 934) (st' := [pw_i 1, pw_i (pw_s xs (i + 2)), pw_i (pw_s xs (i + 1)), .ref 141]) rfl (fun _ => rfl) ?_
      refine pwl_goto E (pc' := 938) rfl (by decide) ?_
      refine pwl_ld E (pc' := 939) (st' := [.ref 0, pw_i 1, pw_i (pw_s xs (i + 2)), pw_i (pw_s xs (i + 1)), .ref 141]) rfl (fun _ => rfl) ?_
      refine pwl_ld E (pc' := 941) (st' := [pw_i i, .ref 0, pw_i 1, pw_i (pw_s xs (i + 2)), pw_i (pw_s xs (i + 1)), .ref 141]) rfl (fun _ => rfl) ?_
      refine pwl_ld E (pc' := 942) (st' := [pw_i 4, pw_i i, .ref 0, pw_i 1, pw_i (pw_s xs (i + 2)), pw_i (pw_s xs (i + 1)), .ref 141]) rfl (fun _ => rfl) ?_
      refine pwl_add E (pc' := 943) rfl rfl ?_
      refine pwl_sald E (pc' := 944) rfl hX0 hl (by omega) (by omega) rfl ?_
      have hs29 := pw_s_r xs (i + 4)
      obtain ⟨f30l, f30h, -⟩ := pw_obj (c := 125) h22I rfl
      refine pwl_call (m' := 230) (As := [.ref 141, pw_i (pw_s xs (i + 1)), pw_i (pw_s xs (i + 2)), pw_i 1, pw_i (pw_s xs (i + 4))]) (rest := []) (ls'' := [some (.ref 141), some (pw_i (pw_s xs (i + 1))), some (pw_i (pw_s xs (i + 2))), some (pw_i 1), some (pw_i (pw_s xs (i + 4))), none, none, none]) E rfl (fun _ => pwl_iV rfl rfl rfl (pw_cellI f30h rfl)) (rfl : pm_ent 230 = some (5, 8, 12, 2, pmc_230)) (by decide) rfl rfl (cm_230 (by decide) h22I (pw_s xs (i + 1)) (by omega) (by omega) (pw_s xs (i + 2)) (by omega) (by omega) 1 (by decide) (by decide) (pw_s xs (i + 4)) (by omega) (by omega)) ?_
      rintro h32 v31 ⟨h32I, h32E, w33, rfl⟩
      refine ⟨_, rfl, ?_⟩
      have h32K := pw_KE h22I h32E h22K rfl
      have h32L := h32E.1
      show pwl X _ h32 947 [some (.ref 0), some (.ref 16), some (.ref 141), some (.ref 185), some (pw_i i), some (pw_i x23), a6, a7] [.long w33] _
      have h32Rb := pw_RbE h22I h32E h22Rb rfl
      refine pwl_lst E (pc' := 949) (ls' := [some (.ref 0), some (.ref 16), some (.ref 141), some (.ref 185), some (pw_i i), some (pw_i x23), some (.long w33), none]) rfl rfl rfl rfl ?_
      refine pwl_goto E (pc' := 2341) rfl (by decide) ?_
      exact pwl_mono (by omega) (hB h32 (some (pw_i x23)) (some (.long w33)) (none) h32I h32K h32Rb (by omega) (by omega) (fun _ => rfl) (fun _ => rfl) (fun _ => rfl))
set_option maxHeartbeats 4000000 in
theorem lc_13 {X : List (Nat × List Value)} {xs : List Int32} {K : Nat} {h : pm_H} {Q : pm_H → (Option Value ⊕ Unit) → Prop} (hX0 : X[0]? = some (0, xs.map Value.int)) (hl : xs.length ≤ 3584) (hX : pw_Xk X) (hR : pw_Xr X) (hS : pw_Xs X) (hF : pw_Xf X) (I : pw_I h) (hK : pw_K h) (hRb : pw_Rb h) (i : Int) (hi0 : 0 ≤ i) (hi1 : i + 7 ≤ xs.length) (a5 a6 a7 : Option Value) (s5 : ∀ n, pm_scl n a5 = true) (s6 : ∀ n, pm_scl n a6 = true) (s7 : ∀ n, pm_scl n a7 = true) (hB : ∀ (h' : pm_H) (b5 b6 b7 : Option Value), pw_I h' → pw_K h' → pw_Rb h' → h'.length ≤ h.length + 1 → pm_slt h' ≤ pm_slt h + 1000 → (∀ n, pm_scl n b5 = true) → (∀ n, pm_scl n b6 = true) → (∀ n, pm_scl n b7 = true) → pwl X K h' 2341 [some (.ref 0), some (.ref 16), some (.ref 141), some (.ref 185), some (pw_i i), b5, b6, b7] [] Q) : pwl X (K + 150) h 952 [some (.ref 0), some (.ref 16), some (.ref 141), some (.ref 185), some (pw_i i), a5, a6, a7] [] Q := by
  have E : pm_ent 309 = some (1, 8, 13, 1, pmc_309) := rfl
  refine pwl_ld E (pc' := 953) (st' := [.ref 16]) rfl (fun _ => rfl) ?_
  refine pwl_ld E (pc' := 954) (st' := [.ref 0, .ref 16]) rfl (fun _ => rfl) ?_
  refine pwl_ld E (pc' := 956) (st' := [pw_i i, .ref 0, .ref 16]) rfl (fun _ => rfl) ?_
  refine pwl_ld E (pc' := 957) (st' := [pw_i 1, pw_i i, .ref 0, .ref 16]) rfl (fun _ => rfl) ?_
  refine pwl_add E (pc' := 958) rfl rfl ?_
  refine pwl_sald E (pc' := 959) rfl hX0 hl (by omega) (by omega) rfl ?_
  have hs1 := pw_s_r xs (i + 1)
  refine pwl_ld E (pc' := 960) (st' := [.ref 0, pw_i (pw_s xs (i + 1)), .ref 16]) rfl (fun _ => rfl) ?_
  refine pwl_ld E (pc' := 962) (st' := [pw_i i, .ref 0, pw_i (pw_s xs (i + 1)), .ref 16]) rfl (fun _ => rfl) ?_
  refine pwl_ld E (pc' := 963) (st' := [pw_i 2, pw_i i, .ref 0, pw_i (pw_s xs (i + 1)), .ref 16]) rfl (fun _ => rfl) ?_
  refine pwl_add E (pc' := 964) rfl rfl ?_
  refine pwl_sald E (pc' := 965) rfl hX0 hl (by omega) (by omega) rfl ?_
  have hs2 := pw_s_r xs (i + 2)
  refine pwl_ld E (pc' := 966) (st' := [.ref 0, pw_i (pw_s xs (i + 2)), pw_i (pw_s xs (i + 1)), .ref 16]) rfl (fun _ => rfl) ?_
  refine pwl_ld E (pc' := 968) (st' := [pw_i i, .ref 0, pw_i (pw_s xs (i + 2)), pw_i (pw_s xs (i + 1)), .ref 16]) rfl (fun _ => rfl) ?_
  refine pwl_ld E (pc' := 969) (st' := [pw_i 3, pw_i i, .ref 0, pw_i (pw_s xs (i + 2)), pw_i (pw_s xs (i + 1)), .ref 16]) rfl (fun _ => rfl) ?_
  refine pwl_add E (pc' := 970) rfl rfl ?_
  refine pwl_sald E (pc' := 971) rfl hX0 hl (by omega) (by omega) rfl ?_
  have hs3 := pw_s_r xs (i + 3)
  refine pwl_ld E (pc' := 972) (st' := [.ref 0, pw_i (pw_s xs (i + 3)), pw_i (pw_s xs (i + 2)), pw_i (pw_s xs (i + 1)), .ref 16]) rfl (fun _ => rfl) ?_
  refine pwl_ld E (pc' := 974) (st' := [pw_i i, .ref 0, pw_i (pw_s xs (i + 3)), pw_i (pw_s xs (i + 2)), pw_i (pw_s xs (i + 1)), .ref 16]) rfl (fun _ => rfl) ?_
  refine pwl_ld E (pc' := 975) (st' := [pw_i 4, pw_i i, .ref 0, pw_i (pw_s xs (i + 3)), pw_i (pw_s xs (i + 2)), pw_i (pw_s xs (i + 1)), .ref 16]) rfl (fun _ => rfl) ?_
  refine pwl_add E (pc' := 976) rfl rfl ?_
  refine pwl_sald E (pc' := 977) rfl hX0 hl (by omega) (by omega) rfl ?_
  have hs4 := pw_s_r xs (i + 4)
  refine pwl_ld E (pc' := 978) (st' := [.ref 185, pw_i (pw_s xs (i + 4)), pw_i (pw_s xs (i + 3)), pw_i (pw_s xs (i + 2)), pw_i (pw_s xs (i + 1)), .ref 16]) rfl (fun _ => rfl) ?_
  refine pwl_call (m' := 315) (As := [.ref 16, pw_i (pw_s xs (i + 1)), pw_i (pw_s xs (i + 2)), pw_i (pw_s xs (i + 3)), pw_i (pw_s xs (i + 4)), .ref 185]) (rest := []) (ls'' := [some (.ref 16), some (pw_i (pw_s xs (i + 1))), some (pw_i (pw_s xs (i + 2))), some (pw_i (pw_s xs (i + 3))), some (pw_i (pw_s xs (i + 4))), some (.ref 185), none]) E rfl (fun _ => pwl_iS rfl rfl rfl (pw_sc8 I s5 s6 s7) rfl) (rfl : pm_ent 315 = some (6, 7, 13, 0, pmc_315)) (by decide) rfl rfl (cm_315 (by decide) I (pw_s xs (i + 1)) (by omega) (by omega) (pw_s xs (i + 2)) (by omega) (by omega) (pw_s xs (i + 3)) (by omega) (by omega) (pw_s xs (i + 4)) (by omega) (by omega)) ?_
  rintro h6 v5 ⟨h6I, h6E, x7, rfl, hx7a, hx7b⟩
  refine ⟨_, rfl, ?_⟩
  have h6K := pw_KE I h6E hK rfl
  have h6L := h6E.1
  show pwl X _ h6 981 [some (.ref 0), some (.ref 16), some (.ref 141), some (.ref 185), some (pw_i i), a5, a6, a7] [pw_i x7] _
  have h6Rb := pw_RbE I h6E hRb rfl
  refine pwl_ist E (pc' := 983) (ls' := [some (.ref 0), some (.ref 16), some (.ref 141), some (.ref 185), some (pw_i i), some (pw_i x7), a6, a7]) rfl rfl rfl rfl ?_
  refine pwl_ld E (pc' := 984) (st' := [.ref 141]) rfl (fun _ => rfl) ?_
  refine pwl_ld E (pc' := 985) (st' := [.ref 0, .ref 141]) rfl (fun _ => rfl) ?_
  refine pwl_ld E (pc' := 987) (st' := [pw_i i, .ref 0, .ref 141]) rfl (fun _ => rfl) ?_
  refine pwl_ld E (pc' := 988) (st' := [pw_i 1, pw_i i, .ref 0, .ref 141]) rfl (fun _ => rfl) ?_
  refine pwl_add E (pc' := 989) rfl rfl ?_
  refine pwl_sald E (pc' := 990) rfl hX0 hl (by omega) (by omega) rfl ?_
  have hs8 := pw_s_r xs (i + 1)
  refine pwl_ld E (pc' := 991) (st' := [.ref 0, pw_i (pw_s xs (i + 1)), .ref 141]) rfl (fun _ => rfl) ?_
  refine pwl_ld E (pc' := 993) (st' := [pw_i i, .ref 0, pw_i (pw_s xs (i + 1)), .ref 141]) rfl (fun _ => rfl) ?_
  refine pwl_ld E (pc' := 994) (st' := [pw_i 2, pw_i i, .ref 0, pw_i (pw_s xs (i + 1)), .ref 141]) rfl (fun _ => rfl) ?_
  refine pwl_add E (pc' := 995) rfl rfl ?_
  refine pwl_sald E (pc' := 996) rfl hX0 hl (by omega) (by omega) rfl ?_
  have hs9 := pw_s_r xs (i + 2)
  refine pwl_ld E (pc' := 997) (st' := [.ref 0, pw_i (pw_s xs (i + 2)), pw_i (pw_s xs (i + 1)), .ref 141]) rfl (fun _ => rfl) ?_
  refine pwl_ld E (pc' := 999) (st' := [pw_i i, .ref 0, pw_i (pw_s xs (i + 2)), pw_i (pw_s xs (i + 1)), .ref 141]) rfl (fun _ => rfl) ?_
  refine pwl_ld E (pc' := 1000) (st' := [pw_i 3, pw_i i, .ref 0, pw_i (pw_s xs (i + 2)), pw_i (pw_s xs (i + 1)), .ref 141]) rfl (fun _ => rfl) ?_
  refine pwl_add E (pc' := 1001) rfl rfl ?_
  refine pwl_sald E (pc' := 1002) rfl hX0 hl (by omega) (by omega) rfl ?_
  have hs10 := pw_s_r xs (i + 3)
  refine pwl_ld E (pc' := 1003) (st' := [.ref 0, pw_i (pw_s xs (i + 3)), pw_i (pw_s xs (i + 2)), pw_i (pw_s xs (i + 1)), .ref 141]) rfl (fun _ => rfl) ?_
  refine pwl_ld E (pc' := 1005) (st' := [pw_i i, .ref 0, pw_i (pw_s xs (i + 3)), pw_i (pw_s xs (i + 2)), pw_i (pw_s xs (i + 1)), .ref 141]) rfl (fun _ => rfl) ?_
  refine pwl_ld E (pc' := 1006) (st' := [pw_i 4, pw_i i, .ref 0, pw_i (pw_s xs (i + 3)), pw_i (pw_s xs (i + 2)), pw_i (pw_s xs (i + 1)), .ref 141]) rfl (fun _ => rfl) ?_
  refine pwl_add E (pc' := 1007) rfl rfl ?_
  refine pwl_sald E (pc' := 1008) rfl hX0 hl (by omega) (by omega) rfl ?_
  have hs11 := pw_s_r xs (i + 4)
  obtain ⟨f12l, f12h, -⟩ := pw_obj (c := 125) h6I rfl
  refine pwl_call (m' := 231) (As := [.ref 141, pw_i (pw_s xs (i + 1)), pw_i (pw_s xs (i + 2)), pw_i (pw_s xs (i + 3)), pw_i (pw_s xs (i + 4))]) (rest := []) (ls'' := [some (.ref 141), some (pw_i (pw_s xs (i + 1))), some (pw_i (pw_s xs (i + 2))), some (pw_i (pw_s xs (i + 3))), some (pw_i (pw_s xs (i + 4))), none]) E rfl (fun _ => pwl_iV rfl rfl rfl (pw_cellI f12h rfl)) (rfl : pm_ent 231 = some (5, 6, 12, 2, pmc_231)) (by decide) rfl rfl (cm_231 (by decide) h6I (pw_s xs (i + 1)) (by omega) (by omega) (pw_s xs (i + 2)) (by omega) (by omega) (pw_s xs (i + 3)) (by omega) (by omega) (pw_s xs (i + 4)) (by omega) (by omega)) ?_
  rintro h14 v13 ⟨h14I, h14E, w15, rfl⟩
  refine ⟨_, rfl, ?_⟩
  have h14K := pw_KE h6I h14E h6K rfl
  have h14L := h14E.1
  show pwl X _ h14 1011 [some (.ref 0), some (.ref 16), some (.ref 141), some (.ref 185), some (pw_i i), some (pw_i x7), a6, a7] [.long w15] _
  have h14Rb := pw_RbE h6I h14E h6Rb rfl
  refine pwl_lst E (pc' := 1013) (ls' := [some (.ref 0), some (.ref 16), some (.ref 141), some (.ref 185), some (pw_i i), some (pw_i x7), some (.long w15), none]) rfl rfl rfl rfl ?_
  refine pwl_goto E (pc' := 2341) rfl (by decide) ?_
  exact pwl_mono (by omega) (hB h14 (some (pw_i x7)) (some (.long w15)) (none) h14I h14K h14Rb (by omega) (by omega) (fun _ => rfl) (fun _ => rfl) (fun _ => rfl))

