section
/-! a new row of ints: Arrays.copyOf, Script.copyOf -/
/-- as pw_E, but one cell of at most 1000 may be new -/
def pw_G (W : List Nat) (h h' : pm_H) : Prop := (h.length ≤ h'.length ∧ h'.length ≤ h.length + 1 ∧ pm_slt h ≤ pm_slt h' ∧ pm_slt h' ≤ pm_slt h + 1000) ∧ ∀ c : Nat, c < h.length → c ∉ W → h'[c]? = h[c]?
theorem pw_E.G {W : List Nat} {a b : pm_H} (h1 : pw_E W a b) : pw_G W a b := ⟨⟨by rw [h1.1.1]; exact Nat.le_refl _, by rw [h1.1.1]; omega, by rw [h1.1.2]; exact Nat.le_refl _, by rw [h1.1.2]; omega⟩, h1.2.1⟩
theorem pw_G.tE {W : List Nat} {a b c : pm_H} (h1 : pw_G W a b) (h2 : pw_E W b c) : pw_G W a c := ⟨by rw [h2.1.1, h2.1.2]; exact h1.1, fun q hq hn => (h2.2.1 q (Nat.lt_of_lt_of_le hq h1.1.1) hn).trans (h1.2 q hq hn)⟩
theorem pw_E.tG {W : List Nat} {a b c : pm_H} (h1 : pw_E W a b) (h2 : pw_G W b c) : pw_G W a c := ⟨by rw [← h1.1.1, ← h1.1.2]; exact h2.1, fun q hq hn => (h2.2 q (by rw [h1.1.1]; exact hq) hn).trans (h1.2.1 q hq hn)⟩
theorem pw_G.wk {W W' : List Nat} {a b : pm_H} (h1 : pw_G W a b) (hs : W.all (fun c => W'.contains c) = true) : pw_G W' a b := ⟨h1.1, fun q hq hn => h1.2 q hq fun hm => hn (by
  have := List.all_eq_true.mp hs q hm
  exact List.contains_iff_mem.mp this)⟩
theorem pw_Gg {h h' : pm_H} {c : Nat} {W : List Nat} {s : pw_S} (I : pw_I h) (E : pw_G W h h') (hs : pw_T[c]? = some s) (hn : W.contains c = false) (k : Nat) : pw_at h' c k = pw_at h c k := by
  obtain ⟨q, h1, -⟩ := I.1 c _ hs
  unfold pw_at
  rw [E.2 c (List.getElem?_eq_some_iff.mp h1).1 (fun hm => by
    have := List.contains_iff_mem.mpr hm
    rw [hn] at this; cases this)]
theorem pw_vk_push {h : pm_H} {x : pm_C} {sp : pw_F} {v : Value} (hv : pw_vk h sp v) : pw_vk (h ++ [x]) sp v := by
  obtain ⟨k, lo, hi⟩ := sp
  have key : (∃ (c : Nat) (l : List Value), v = .ref (16 + c) ∧ h[c]? = some (.inl (0, l)) ∧ l.length ≤ 1000 ∧ pw_ints l) → ∃ (c2 : Nat) (l : List Value), v = .ref (16 + c2) ∧ (h ++ [x])[c2]? = some (.inl (0, l)) ∧ l.length ≤ 1000 ∧ pw_ints l := by
    rintro ⟨c2, l, e1, e2, e3⟩
    exact ⟨c2, l, e1, by rw [List.getElem?_append_left (List.getElem?_eq_some_iff.mp e2).1]; exact e2, e3⟩
  match k, hv with
  | 0, hv => exact hv
  | 1, hv => exact hv
  | 2, hv => exact hv
  | 4, hv => exact hv
  | 3, hv => exact key hv
  | k + 5, hv => exact key hv
theorem pw_ok_push {h : pm_H} {y : pm_C} {s : pw_S} {x : pm_C} (hv : pw_ok h s x) : pw_ok (h ++ [y]) s x := by
  match s, x, hv with
  | .inl _, .inl _, hv => exact hv
  | .inr (ci, sps), .inr (cj, fs), hv => exact ⟨hv.1, hv.2.1, fun k sp v g1 g2 => pw_vk_push (hv.2.2 k sp v g1 g2)⟩
theorem pw_scv_mono {n m : Nat} (hn : n ≤ m) {v : Value} (h : pm_scv n v = true) : pm_scv m v = true := by
  cases v with
  | ref a => exact Nat.blt_eq.mpr (Nat.lt_of_lt_of_le (Nat.blt_eq.mp h) hn)
  | _ => rfl
theorem pw_scc_mono {n m : Nat} (hn : n ≤ m) {c : pm_C} (h : pm_scc n c = true) : pm_scc m c = true := by
  match c, h with
  | .inl q, h =>
    have h : cond (Nat.blt q.1 5) true (pm_all (pm_scv n) q.2) = true := h
    show cond (Nat.blt q.1 5) true (pm_all (pm_scv m) q.2) = true
    cases hb : Nat.blt q.1 5 with
    | true => rfl
    | false =>
      rw [hb] at h
      have h : pm_all (pm_scv n) q.2 = true := h
      show pm_all (pm_scv m) q.2 = true
      rw [pm_all_eq, List.all_eq_true] at h ⊢
      exact fun v hv => pw_scv_mono hn (h v hv)
  | .inr q, h =>
    have h : pm_all (pm_scv n) q.2 = true := h
    show pm_all (pm_scv m) q.2 = true
    rw [pm_all_eq, List.all_eq_true] at h ⊢
    exact fun v hv => pw_scv_mono hn (h v hv)
theorem pw_I_push {h : pm_H} {t : Nat} {l : List Value} (ht : Nat.blt t 5 = true) (I : pw_I h) : pw_I (h ++ [.inl (t, l)]) := by
  refine ⟨fun c s hT => ?_, ?_⟩
  · obtain ⟨q, h1, h2⟩ := I.1 c s hT
    exact ⟨q, by rw [List.getElem?_append_left (List.getElem?_eq_some_iff.mp h1).1]; exact h1, pw_ok_push h2⟩
  · have h1 := I.2
    unfold pm_scH at h1 ⊢
    rw [pm_all_eq, List.all_eq_true, pm_len_eq] at h1 ⊢
    intro c hc
    rw [List.length_append]
    rcases List.mem_append.mp hc with g | g
    · exact pw_scc_mono (by simp) (h1 c g)
    · rw [List.mem_singleton.mp g]
      show cond (Nat.blt t 5) true _ = true
      rw [ht]; rfl
section Pn
variable {X : List (Nat × List Value)} {d : Nat} {h : pm_H} {m pc pc' len na nl own rt : Nat} {C : pm_T (Instr × Nat)} {ls : pm_L} {r : List Value} {Q : pm_H → (Option Value ⊕ Unit) → Prop} {i : Instr}
theorem pw_newi {n : Int} (he : pm_ent m = some (na, nl, own, rt, C)) (hq : pm_get C pc = some (.newarray .int, len)) (hc : pc + len = pc') (h0 : 0 ≤ n) (h1 : n ≤ 60000) (H : pw X d (h ++ [.inl (0, List.replicate n.toNat (.int 0))]) m pc' ls (.ref (16 + h.length) :: r) Q) : pw X d h m pc ls (pw_i n :: r) Q := by
  subst hc
  refine pw_go he hq (fun ih => ?_) H
  show cond (decide (Int32.ofInt n < 0)) none (cond (Nat.ble (Int32.ofInt n).toNatClampNeg 60000) (cond (Nat.blt 0 5) (pm_fn (pm_len h) fun z => pm_fn (pc + len) fun q => ih d (h ++ [.inl (0, pm_rep (Int32.ofInt n).toNatClampNeg (.int 0))]) m q ls (.ref (16 + z) :: r)) none) none) = _
  rw [decide_eq_false (pw_neg h0 (by omega)), cond_false, pw_clamp h0 (by omega), Nat.ble_eq_true_of_le (by omega), cond_true, pm_fn_eq, pm_fn_eq, pm_len_eq, pm_rep_eq]
  rfl
theorem pw_cpyN {ix c q a a2 : Nat} {l l' : List Value} {n : Int} (he : pm_ent m = some (na, nl, own, rt, C)) (hq : pm_get C pc = some (.invokestatic ix, len)) (hl : pm_get (pm_lnk own) ix = some (12, 5, 0, 0)) (e1 : h[c]? = some (.inl (0, l))) (f1 : h[q]? = some (.inl (0, l'))) (h0 : 0 ≤ n) (h1 : n ≤ 60000) (hn : n.toNat ≤ l.length) (hn2 : n.toNat = l'.length) (ha : 16 + c = a) (ha2 : 16 + q = a2) (h8 : pm_cat8 r = true)
    (H : pw X d (h.set q (.inl (0, l.take n.toNat))) m (pc + 3) ls r Q) : pw X d h m pc ls (pw_i n :: pw_i 0 :: .ref a2 :: pw_i 0 :: .ref a :: r) Q := by
  refine pw_go he hq (fun ih => ?_) H
  refine (pw_prim0 (len := len) hl rfl).trans ?_
  show (match pm_row X h a, pm_cell h a2 with
    | some (t, l), some (.inl (t', l')) => cond (Nat.beq t 0 && (Nat.beq t' 0 && (Nat.ble 16 a && (!decide (Int32.ofInt n < 0) && (!decide (Int32.ofInt 0 < 0) && (!decide (Int32.ofInt 0 < 0) && (Nat.ble ((Int32.ofInt 0).toNatClampNeg + (Int32.ofInt n).toNatClampNeg) (pm_len l) && Nat.ble ((Int32.ofInt 0).toNatClampNeg + (Int32.ofInt n).toNatClampNeg) (pm_len l'))))))))
      (cond (pm_cat8 r) (pm_fn (pc + 3) fun q => ih d (pm_set h (a2 - 16) (.inl (0, pm_cpy l l' (Int32.ofInt 0).toNatClampNeg (Int32.ofInt 0).toNatClampNeg (Int32.ofInt n).toNatClampNeg))) m q ls r) none) none
    | _, _ => none) = _
  rw [pw_rowI e1 ha, pw_cellI f1 ha2]
  dsimp only
  have en : (Int32.ofInt n).toNatClampNeg = n.toNat := pw_clamp h0 (by omega)
  have e0 : (Int32.ofInt 0).toNatClampNeg = 0 := rfl
  rw [en, e0, decide_eq_false (pw_neg h0 (by omega)), pm_len_eq, pm_len_eq]
  have hb : (Nat.beq 0 0 && (Nat.beq 0 0 && (Nat.ble 16 a && (!false && (!decide (Int32.ofInt 0 < 0) && (!decide (Int32.ofInt 0 < 0) && (Nat.ble (0 + n.toNat) l.length && Nat.ble (0 + n.toNat) l'.length))))))) = true := by
    rw [Nat.ble_eq_true_of_le (show 16 ≤ a by omega), Nat.ble_eq_true_of_le (show 0 + n.toNat ≤ l.length by omega), Nat.ble_eq_true_of_le (show 0 + n.toNat ≤ l'.length by omega)]
    rfl
  have ea : a2 - 16 = q := by omega
  rw [hb, cond_true, h8, cond_true, pm_fn_eq, ea, pm_set_eq]
  have ec : pm_cpy l l' 0 0 n.toNat = l.take n.toNat := by
    unfold pm_cpy
    rw [List.take_zero, List.drop_zero, List.nil_append, List.drop_of_length_le (by omega), List.append_nil]
  rw [ec]
end Pn
theorem cm_325 {X : List (Nat × List Value)} {d : Nat} {h : pm_H} {c : Nat} {l : List Value} {n : Int} (e1 : h[c]? = some (.inl (0, l))) (hl : l.length = 1000) (h0 : 0 ≤ n) (h1 : n ≤ 999) : pw X d h 325 0 [some (.ref (16 + c)), some (pw_i n), none] [] (fun h' v => h' = h ++ [.inl (0, l.take n.toNat)] ∧ v = .inl (some (.ref (16 + h.length)))) := by
  have E : pm_ent 325 = some (2, 3, 14, 3, pmc_325) := rfl
  have hc : c < h.length := (List.getElem?_eq_some_iff.mp e1).1
  refine pw_ld E (pc' := 1) (st' := [pw_i n]) rfl (fun _ => rfl) ?_
  refine pw_ld E (pc' := 2) (st' := [.ref (16 + c), pw_i n]) rfl (fun _ => rfl) ?_
  refine pw_alen E (pc' := 3) rfl (pw_rowI e1 rfl) rfl rfl ?_
  rw [hl]
  refine pw_if2 E (pc' := 14) rfl (by decide) (by omega) (by omega) (by decide) (by decide) ?_ ?_
  · intro _
    refine pw_ld E (pc' := 15) (st' := [pw_i n]) rfl (fun _ => rfl) ?_
    refine pw_newi E (pc' := 17) rfl rfl h0 (by omega) ?_
    have e2 : (h ++ [.inl (0, List.replicate n.toNat (.int 0))])[c]? = some (.inl (0, l)) := by rw [List.getElem?_append_left hc]; exact e1
    have e3 : (h ++ [.inl (0, List.replicate n.toNat (.int 0))])[h.length]? = some (.inl (0, List.replicate n.toNat (.int 0))) := by rw [List.getElem?_append_right (Nat.le_refl _), Nat.sub_self]; rfl
    generalize hg : h ++ [.inl (0, List.replicate n.toNat (Value.int 0))] = g at e2 e3 ⊢
    refine pw_astn E (pc' := 18) (ls' := [some (.ref (16 + c)), some (pw_i n), some (.ref (16 + h.length))]) rfl rfl rfl rfl ?_
    refine pw_ld E (pc' := 19) (st' := [.ref (16 + c)]) rfl (fun _ => rfl) ?_
    refine pw_ld E (pc' := 20) (st' := [pw_i 0, .ref (16 + c)]) rfl (fun _ => rfl) ?_
    refine pw_ld E (pc' := 21) (st' := [.ref (16 + h.length), pw_i 0, .ref (16 + c)]) rfl (fun _ => rfl) ?_
    refine pw_ld E (pc' := 22) (st' := [pw_i 0, .ref (16 + h.length), pw_i 0, .ref (16 + c)]) rfl (fun _ => rfl) ?_
    refine pw_ld E (pc' := 23) (st' := [.ref (16 + c), pw_i 0, .ref (16 + h.length), pw_i 0, .ref (16 + c)]) rfl (fun _ => rfl) ?_
    refine pw_alen E (pc' := 24) rfl (pw_rowI e2 rfl) rfl rfl ?_
    rw [hl]
    refine pw_ld E (pc' := 25) (st' := [pw_i n, pw_i (1000 : Nat), pw_i 0, .ref (16 + h.length), pw_i 0, .ref (16 + c)]) rfl (fun _ => rfl) ?_
    refine pw_min E rfl rfl (by decide) (by decide) (by omega) (by omega) rfl ?_
    rw [show min ((1000 : Nat) : Int) n = n by omega]
    refine pw_cpyN (q := h.length) E rfl rfl e2 e3 h0 (by omega) (by omega) List.length_replicate.symm rfl rfl rfl ?_
    refine pw_ld E (pc' := 32) (st' := [.ref (16 + h.length)]) rfl (fun _ => rfl) ?_
    refine pw_aret E rfl ⟨?_, rfl⟩
    rw [← hg, List.set_append_right _ _ (Nat.le_refl _), Nat.sub_self]
    rfl
  · intro hn
    exact absurd (show pw_c .ne n ((1000 : Nat) : Int) from (by show n ≠ ((1000 : Nat) : Int); omega)) hn
theorem pw_scq {h : pm_H} {q : Nat} {x : pm_C} (hq : h[q]? = some x) : pm_scv (16 + h.length) (.ref (16 + q)) = true := by
  have := (List.getElem?_eq_some_iff.mp hq).1
  exact Nat.blt_eq.mpr (by omega)
set_option maxHeartbeats 4000000 in
theorem cm_73t {X : List (Nat × List Value)} {d : Nat} {h : pm_H} (I : pw_I h) (c : Nat) (hc : pw_Sc c) (q0 : Nat) (q0l : List Value) (q0h : h[q0]? = some (.inl (0, q0l))) (q0n : q0l.length ≤ 1000) (q0i : pw_ints q0l) : pw X d h 73 12 [some (.ref (16 + c)), some (.ref 46), none] [.ref (16 + q0), .ref (16 + c)] (fun h' v => pw_I h' ∧ pw_E [c, c + 1, c + 2, c + 3, c + 4] h h' ∧ v = .inl none) := by
  have E : pm_ent 73 = some (2, 3, 7, 4, pmc_73) := rfl
  have E0 : pw_E [c, c + 1, c + 2, c + 3, c + 4] h h := pw_E.rf _ _
  refine pw_put0 I E (c := c) (k := 0) (pc' := 15) rfl rfl (pw_Sc_o hc) rfl ⟨q0, q0l, rfl, q0h, q0n, q0i⟩ (pw_scq q0h) rfl rfl rfl ?_
  intro h1I h1E
  generalize h1w : pw_w h c 0 (.ref (16 + q0)) = h1 at h1I h1E ⊢
  have h1F := E0.tr (h1E.wk (W' := [c, c + 1, c + 2, c + 3, c + 4]) (by first | rfl | simp))
  refine pw_ld E (pc' := 16) (st' := [.ref (16 + c)]) rfl (fun _ => rfl) ?_
  refine pw_ld E (pc' := 17) (st' := [.ref 46, .ref (16 + c)]) rfl (fun _ => rfl) ?_
  refine pw_getI h1I E (c := 30) (k := 1) (pc' := 20) rfl rfl rfl rfl rfl rfl (fun hf2a hf2b hf2c hf2d => ?_)
  refine pw_putI h1I E (c := c) (k := 1) (pc' := 23) rfl rfl (pw_Sc_o hc) rfl (by omega) (by omega) (by omega) (by omega) rfl rfl ?_
  intro h3I h3E
  generalize h3w : pw_w h1 c 1 (pw_i (pw_g h1 30 1)) = h3 at h3I h3E ⊢
  have h3F := h1F.tr (h3E.wk (W' := [c, c + 1, c + 2, c + 3, c + 4]) (by first | rfl | simp))
  refine pw_ld E (pc' := 24) (st' := [pw_i 0]) rfl (fun _ => rfl) ?_
  refine pw_istn E (pc' := 25) (ls' := [some (.ref (16 + c)), some (.ref 46), some (pw_i 0)]) rfl rfl rfl rfl ?_
  have L25 : ∀ (n25 : Nat) (k25_2 : Int) (h25 : pm_H), pw_I h25 → pw_E [c, c + 1, c + 2, c + 3, c + 4] h h25 → 0 ≤ k25_2 → k25_2 ≤ 4 → (4 - k25_2).toNat = n25 → pw X d h25 73 25 [some (.ref (16 + c)), some (.ref 46), some (pw_i k25_2)] [] (fun h' v => pw_I h' ∧ pw_E [c, c + 1, c + 2, c + 3, c + 4] h h' ∧ v = .inl none) := by
    intro n25
    induction n25 using Nat.strongRecOn with
    | ind n25 ih25 =>
      intro k25_2 h25 I25 E25 k25_2a k25_2b hm25
      refine pw_ld E (pc' := 26) (st' := [pw_i k25_2]) rfl (fun _ => rfl) ?_
      refine pw_ld E (pc' := 27) (st' := [pw_i 4, pw_i k25_2]) rfl (fun _ => rfl) ?_
      refine pw_if2 E (pc' := 84) rfl (by decide) (by omega) (by omega) (by decide) (by decide) ?_ ?_
      · intro hc4
        have hc4 : (4 : Int) ≤ k25_2 := hc4
        refine pw_vret E rfl ?_
        exact ⟨I25, E25, rfl⟩
      · intro hc5
        have hc5 : ¬ ((4 : Int) ≤ k25_2) := hc5
        refine pw_ld E (pc' := 31) (st' := [.ref (16 + c)]) rfl (fun _ => rfl) ?_
        refine pw_getR (b := 16 + (c + 1)) I25 E (c := c) (k := 2) (pc' := 34) rfl rfl (pw_Sc_o hc) rfl rfl rfl rfl ?_
        refine pw_ld E (pc' := 35) (st' := [pw_i k25_2, .ref (16 + (c + 1))]) rfl (fun _ => rfl) ?_
        refine pw_ld E (pc' := 36) (st' := [.ref 46, pw_i k25_2, .ref (16 + (c + 1))]) rfl (fun _ => rfl) ?_
        refine pw_getR (b := 47) I25 E (c := 30) (k := 2) (pc' := 39) rfl rfl rfl rfl rfl rfl rfl ?_
        refine pw_ld E (pc' := 40) (st' := [pw_i k25_2, .ref 47, pw_i k25_2, .ref (16 + (c + 1))]) rfl (fun _ => rfl) ?_
        refine pw_ald I25 E (c := 31) (pc' := 41) rfl rfl rfl (by decide) rfl (by decide) (by omega) (by omega) rfl (fun hf6a hf6b hf6c hf6d => ?_)
        refine pw_ast0 I25 E (c := c + 1) (pc' := 42) rfl rfl (pw_Sc_1 hc) (by decide) rfl (by decide) (by omega) (by omega) (pw_b1 (by omega) (by omega)) (by omega) (by omega) (by omega) (by omega) rfl ?_
        intro h7I h7E
        generalize h7w : pw_w h25 (c + 1) (k25_2.toNat) (pw_i (pw_g h25 31 (k25_2.toNat))) = h7 at h7I h7E ⊢
        have h7F := E25.tr (h7E.wk (W' := [c, c + 1, c + 2, c + 3, c + 4]) (by first | rfl | simp))
        refine pw_ld E (pc' := 43) (st' := [.ref (16 + c)]) rfl (fun _ => rfl) ?_
        refine pw_getR (b := 16 + (c + 2)) h7I E (c := c) (k := 3) (pc' := 46) rfl rfl (pw_Sc_o hc) rfl rfl rfl rfl ?_
        refine pw_ld E (pc' := 47) (st' := [pw_i k25_2, .ref (16 + (c + 2))]) rfl (fun _ => rfl) ?_
        refine pw_ld E (pc' := 48) (st' := [.ref 46, pw_i k25_2, .ref (16 + (c + 2))]) rfl (fun _ => rfl) ?_
        refine pw_getR (b := 48) h7I E (c := 30) (k := 3) (pc' := 51) rfl rfl rfl rfl rfl rfl rfl ?_
        refine pw_ld E (pc' := 52) (st' := [pw_i k25_2, .ref 48, pw_i k25_2, .ref (16 + (c + 2))]) rfl (fun _ => rfl) ?_
        refine pw_ald h7I E (c := 32) (pc' := 53) rfl rfl rfl (by decide) rfl (by decide) (by omega) (by omega) rfl (fun hf8a hf8b hf8c hf8d => ?_)
        refine pw_ast0 h7I E (c := c + 2) (pc' := 54) rfl rfl (pw_Sc_2 hc) (by decide) rfl (by decide) (by omega) (by omega) rfl (by omega) (by omega) (by omega) (by omega) rfl ?_
        intro h9I h9E
        generalize h9w : pw_w h7 (c + 2) (k25_2.toNat) (pw_i (pw_g h7 32 (k25_2.toNat))) = h9 at h9I h9E ⊢
        have h9F := h7F.tr (h9E.wk (W' := [c, c + 1, c + 2, c + 3, c + 4]) (by first | rfl | simp))
        refine pw_ld E (pc' := 55) (st' := [.ref (16 + c)]) rfl (fun _ => rfl) ?_
        refine pw_getR (b := 16 + (c + 3)) h9I E (c := c) (k := 4) (pc' := 58) rfl rfl (pw_Sc_o hc) rfl rfl rfl rfl ?_
        refine pw_ld E (pc' := 59) (st' := [pw_i k25_2, .ref (16 + (c + 3))]) rfl (fun _ => rfl) ?_
        refine pw_ld E (pc' := 60) (st' := [.ref 46, pw_i k25_2, .ref (16 + (c + 3))]) rfl (fun _ => rfl) ?_
        refine pw_getR (b := 49) h9I E (c := 30) (k := 4) (pc' := 63) rfl rfl rfl rfl rfl rfl rfl ?_
        refine pw_ld E (pc' := 64) (st' := [pw_i k25_2, .ref 49, pw_i k25_2, .ref (16 + (c + 3))]) rfl (fun _ => rfl) ?_
        refine pw_ald h9I E (c := 33) (pc' := 65) rfl rfl rfl (by decide) rfl (by decide) (by omega) (by omega) rfl (fun hf10a hf10b hf10c hf10d => ?_)
        refine pw_ast0 h9I E (c := c + 3) (pc' := 66) rfl rfl (pw_Sc_3 hc) (by decide) rfl (by decide) (by omega) (by omega) rfl (by omega) (by omega) (by omega) (by omega) rfl ?_
        intro h11I h11E
        generalize h11w : pw_w h9 (c + 3) (k25_2.toNat) (pw_i (pw_g h9 33 (k25_2.toNat))) = h11 at h11I h11E ⊢
        have h11F := h9F.tr (h11E.wk (W' := [c, c + 1, c + 2, c + 3, c + 4]) (by first | rfl | simp))
        refine pw_ld E (pc' := 67) (st' := [.ref (16 + c)]) rfl (fun _ => rfl) ?_
        refine pw_getR (b := 16 + (c + 4)) h11I E (c := c) (k := 5) (pc' := 70) rfl rfl (pw_Sc_o hc) rfl rfl rfl rfl ?_
        refine pw_ld E (pc' := 71) (st' := [pw_i k25_2, .ref (16 + (c + 4))]) rfl (fun _ => rfl) ?_
        refine pw_ld E (pc' := 72) (st' := [.ref 46, pw_i k25_2, .ref (16 + (c + 4))]) rfl (fun _ => rfl) ?_
        refine pw_getR (b := 50) h11I E (c := 30) (k := 5) (pc' := 75) rfl rfl rfl rfl rfl rfl rfl ?_
        refine pw_ld E (pc' := 76) (st' := [pw_i k25_2, .ref 50, pw_i k25_2, .ref (16 + (c + 4))]) rfl (fun _ => rfl) ?_
        refine pw_ald h11I E (c := 34) (pc' := 77) rfl rfl rfl (by decide) rfl (by decide) (by omega) (by omega) rfl (fun hf12a hf12b hf12c hf12d => ?_)
        refine pw_ast0 h11I E (c := c + 4) (pc' := 78) rfl rfl (pw_Sc_4 hc) (by decide) rfl (by decide) (by omega) (by omega) rfl (by omega) (by omega) (by omega) (by omega) rfl ?_
        intro h13I h13E
        generalize h13w : pw_w h11 (c + 4) (k25_2.toNat) (pw_i (pw_g h11 34 (k25_2.toNat))) = h13 at h13I h13E ⊢
        have h13F := h11F.tr (h13E.wk (W' := [c, c + 1, c + 2, c + 3, c + 4]) (by first | rfl | simp))
        refine pw_inc E (pc' := 81) (ls' := [some (.ref (16 + c)), some (.ref 46), some (pw_i (k25_2 + 1))]) rfl rfl rfl rfl ?_
        refine pw_goto E (pc' := 25) rfl (by decide) ?_
        exact ih25 _ (by omega) (k25_2 + 1) h13 h13I h13F (by omega) (by omega)  rfl
  exact L25 _ (0) h3 h3I h3F (by omega) (by omega)  rfl
theorem pw_G_push {W : List Nat} {h : pm_H} {l : List Value} (hl : l.length ≤ 1000) : pw_G W h (h ++ [.inl (0, l)]) := by
  refine ⟨⟨by simp, by simp, by rw [pm_slt_push]; omega, by rw [pm_slt_push]; show pm_slt h + l.length ≤ _; omega⟩, fun c hc _ => List.getElem?_append_left hc⟩
theorem cm_73 {X : List (Nat × List Value)} {d : Nat} {h : pm_H} (hd : 2 ≤ d) (I : pw_I h) (c : Nat) (hc : pw_Sc c) (hlen : pw_g h 30 1 ≤ 999) : pw X d h 73 0 [some (.ref (16 + c)), some (.ref 46), none] [] (fun h' v => pw_I h' ∧ pw_G [c, c + 1, c + 2, c + 3, c + 4] h h' ∧ v = .inl none) := by
  have E : pm_ent 73 = some (2, 3, 7, 4, pmc_73) := rfl
  refine pw_ld E (pc' := 1) (st' := [.ref (16 + c)]) rfl (fun _ => rfl) ?_
  refine pw_ld E (pc' := 2) (st' := [.ref 46, .ref (16 + c)]) rfl (fun _ => rfl) ?_
  refine pw_getR (b := 52) I E (c := 30) (k := 0) (pc' := 5) rfl rfl rfl rfl rfl rfl rfl ?_
  refine pw_ld E (pc' := 6) (st' := [.ref 46, .ref 52, .ref (16 + c)]) rfl (fun _ => rfl) ?_
  refine pw_getI I E (c := 30) (k := 1) (pc' := 9) rfl rfl rfl rfl rfl rfl (fun ha hb _ _ => ?_)
  obtain ⟨l, e1, e2, e3⟩ := pw_arr (c := 36) I rfl
  refine pw_call (m' := 325) (As := [.ref 52, pw_i (pw_g h 30 1)]) (rest := [.ref (16 + c)]) (ls'' := [some (.ref (16 + 36)), some (pw_i (pw_g h 30 1)), none]) (by omega) E rfl (fun _ => pw_iS rfl rfl rfl) (rfl : pm_ent 325 = some (2, 3, 14, 3, pmc_325)) rfl rfl (cm_325 e1 e2 ha hlen) ?_
  rintro h1 v1 ⟨rfl, rfl⟩
  refine ⟨_, rfl, ?_⟩
  have ht : (l.take (pw_g h 30 1).toNat).length ≤ 1000 := by rw [List.length_take]; omega
  refine pw_mono (cm_73t (pw_I_push rfl I) c hc h.length (l.take (pw_g h 30 1).toNat) (by rw [List.getElem?_append_right (Nat.le_refl _), Nat.sub_self]; rfl) ht (fun j v hv => ?_)) ?_
  · rw [List.getElem?_take] at hv
    split at hv
    · obtain ⟨a, rfl, -⟩ := e3 j v hv
      exact ⟨_, rfl⟩
    · cases hv
  · rintro h2 v2 ⟨I2, E2, rfl⟩
    exact ⟨I2, (pw_G_push ht).tE E2, rfl⟩
set_option maxHeartbeats 4000000 in
theorem cm_143_26 {X : List (Nat × List Value)} {d : Nat} {h : pm_H} (hd : 7 ≤ d) (I : pw_I h) (hX : pw_Xk X) (hR : pw_Xr X) (c : Nat) (hc : pw_Sc c) : pw X d h 143 0 [some (.ref 16), some (.ref 42), some (.ref (16 + c)), none] [] (fun h' v => pw_I h' ∧ pw_G [24, 26, 27, 30, 31, 32, 33, 34, 36, c, c + 1, c + 2, c + 3, c + 4] h h' ∧ ∃ a : Int, v = .inl (some (pw_i a)) ∧ (-2147483648) ≤ a ∧ a ≤ 2147483647) := by
  have E : pm_ent 143 = some (3, 4, 11, 0, pmc_143) := rfl
  refine pw_ld E (pc' := 1) (st' := [.ref 42]) rfl (fun _ => rfl) ?_
  refine pw_ld E (pc' := 2) (st' := [.ref 16, .ref 42]) rfl (fun _ => rfl) ?_
  refine pw_getR (b := 40) I E (c := 0) (k := 10) (pc' := 5) rfl rfl rfl rfl rfl rfl rfl ?_
  refine pw_ld E (pc' := 6) (st' := [.ref 16, .ref 40, .ref 42]) rfl (fun _ => rfl) ?_
  refine pw_getR (b := 46) I E (c := 0) (k := 13) (pc' := 9) rfl rfl rfl rfl rfl rfl rfl ?_
  obtain ⟨f1l, f1h, -⟩ := pw_obj (c := 26) I rfl
  refine pw_call (m' := 44) (As := [.ref 42, .ref 40, .ref 46]) (rest := []) (ls'' := [some (.ref 42), some (.ref 40), some (.ref 46), none, none]) (by omega) E rfl (fun _ => pw_iV rfl rfl rfl rfl (pw_cellI f1h rfl)) (rfl : pm_ent 44 = some (3, 5, 5, 0, pmc_44)) rfl rfl (cm_44_26 (by omega) I hX hR) ?_
  rintro h1 v1 ⟨I1, E1, a, rfl, ha, hb, hz⟩
  refine ⟨_, rfl, ?_⟩
  show pw X d h1 143 12 [some (.ref 16), some (.ref 42), some (.ref (16 + c)), none] [pw_i a] _
  refine pw_istn E (pc' := 13) (ls' := [some (.ref 16), some (.ref 42), some (.ref (16 + c)), some (pw_i a)]) rfl rfl rfl rfl ?_
  refine pw_ld E (pc' := 14) (st' := [.ref 16]) rfl (fun _ => rfl) ?_
  refine pw_getR (b := 40) I1 E (c := 0) (k := 10) (pc' := 17) rfl rfl rfl rfl rfl rfl rfl ?_
  obtain ⟨f2l, f2h, -⟩ := pw_obj (c := 24) I1 rfl
  refine pw_call (m' := 99) (As := [.ref 40]) (rest := []) (ls'' := [some (.ref 40)]) (by omega) E rfl (fun _ => pw_iV rfl rfl rfl rfl (pw_cellI f2h rfl)) (rfl : pm_ent 99 = some (1, 1, 9, 4, pmc_99)) rfl rfl (cm_99 (by omega) I1) ?_
  rintro h2 v2 ⟨I2, E2, rfl⟩
  refine ⟨_, rfl, ?_⟩
  show pw X d h2 143 20 [some (.ref 16), some (.ref 42), some (.ref (16 + c)), some (pw_i a)] [] _
  have e30 : pw_g h2 30 1 = pw_g h1 30 1 := pw_Eg (c := 30) I1 E2 rfl rfl 1
  have EE : pw_E [24, 26, 27, 30, 31, 32, 33, 34, 36, c, c + 1, c + 2, c + 3, c + 4] h h2 := (E1.wk (W' := [24, 26, 27, 30, 31, 32, 33, 34, 36, c, c + 1, c + 2, c + 3, c + 4]) (by simp)).tr (E2.wk (W' := [24, 26, 27, 30, 31, 32, 33, 34, 36, c, c + 1, c + 2, c + 3, c + 4]) (by simp))
  refine pw_ld E (pc' := 21) (st' := [pw_i a]) rfl (fun _ => rfl) ?_
  refine pw_if E (pc' := 32) rfl (by decide) ha hb ?_ ?_
  · intro _
    refine pw_ld E (pc' := 33) (st' := [pw_i a]) rfl (fun _ => rfl) ?_
    refine pw_iret E rfl ?_
    exact ⟨I2, EE.G, a, rfl, ha, hb⟩
  · intro hn
    have hn : ¬ (a ≠ 0) := hn
    refine pw_ld E (pc' := 25) (st' := [.ref (16 + c)]) rfl (fun _ => rfl) ?_
    refine pw_ld E (pc' := 26) (st' := [.ref 16, .ref (16 + c)]) rfl (fun _ => rfl) ?_
    refine pw_getR (b := 46) I2 E (c := 0) (k := 13) (pc' := 29) rfl rfl rfl rfl rfl rfl rfl ?_
    obtain ⟨f3l, f3h, -⟩ := pw_obj (c := c) I2 (pw_Sc_o hc)
    refine pw_call (m' := 73) (As := [.ref (16 + c), .ref 46]) (rest := []) (ls'' := [some (.ref (16 + c)), some (.ref 46), none]) (by omega) E rfl (fun _ => pw_iV rfl rfl rfl rfl (pw_cellI f3h rfl)) (rfl : pm_ent 73 = some (2, 3, 7, 4, pmc_73)) rfl rfl (cm_73 (by omega) I2 c hc (by omega)) ?_
    rintro h3 v3 ⟨I3, G3, rfl⟩
    refine ⟨_, rfl, ?_⟩
    show pw X d h3 143 32 [some (.ref 16), some (.ref 42), some (.ref (16 + c)), some (pw_i a)] [] _
    refine pw_ld E (pc' := 33) (st' := [pw_i a]) rfl (fun _ => rfl) ?_
    refine pw_iret E rfl ?_
    exact ⟨I3, EE.tG (G3.wk (W' := [24, 26, 27, 30, 31, 32, 33, 34, 36, c, c + 1, c + 2, c + 3, c + 4]) (by simp)), a, rfl, ha, hb⟩
set_option maxHeartbeats 4000000 in
theorem cm_143_28 {X : List (Nat × List Value)} {d : Nat} {h : pm_H} (hd : 7 ≤ d) (I : pw_I h) (hX : pw_Xk X) (hR : pw_Xr X) (c : Nat) (hc : pw_Sc c) : pw X d h 143 0 [some (.ref 16), some (.ref 44), some (.ref (16 + c)), none] [] (fun h' v => pw_I h' ∧ pw_G [24, 28, 29, 30, 31, 32, 33, 34, 36, c, c + 1, c + 2, c + 3, c + 4] h h' ∧ ∃ a : Int, v = .inl (some (pw_i a)) ∧ (-2147483648) ≤ a ∧ a ≤ 2147483647) := by
  have E : pm_ent 143 = some (3, 4, 11, 0, pmc_143) := rfl
  refine pw_ld E (pc' := 1) (st' := [.ref 44]) rfl (fun _ => rfl) ?_
  refine pw_ld E (pc' := 2) (st' := [.ref 16, .ref 44]) rfl (fun _ => rfl) ?_
  refine pw_getR (b := 40) I E (c := 0) (k := 10) (pc' := 5) rfl rfl rfl rfl rfl rfl rfl ?_
  refine pw_ld E (pc' := 6) (st' := [.ref 16, .ref 40, .ref 44]) rfl (fun _ => rfl) ?_
  refine pw_getR (b := 46) I E (c := 0) (k := 13) (pc' := 9) rfl rfl rfl rfl rfl rfl rfl ?_
  obtain ⟨f1l, f1h, -⟩ := pw_obj (c := 28) I rfl
  refine pw_call (m' := 44) (As := [.ref 44, .ref 40, .ref 46]) (rest := []) (ls'' := [some (.ref 44), some (.ref 40), some (.ref 46), none, none]) (by omega) E rfl (fun _ => pw_iV rfl rfl rfl rfl (pw_cellI f1h rfl)) (rfl : pm_ent 44 = some (3, 5, 5, 0, pmc_44)) rfl rfl (cm_44_28 (by omega) I hX hR) ?_
  rintro h1 v1 ⟨I1, E1, a, rfl, ha, hb, hz⟩
  refine ⟨_, rfl, ?_⟩
  show pw X d h1 143 12 [some (.ref 16), some (.ref 44), some (.ref (16 + c)), none] [pw_i a] _
  refine pw_istn E (pc' := 13) (ls' := [some (.ref 16), some (.ref 44), some (.ref (16 + c)), some (pw_i a)]) rfl rfl rfl rfl ?_
  refine pw_ld E (pc' := 14) (st' := [.ref 16]) rfl (fun _ => rfl) ?_
  refine pw_getR (b := 40) I1 E (c := 0) (k := 10) (pc' := 17) rfl rfl rfl rfl rfl rfl rfl ?_
  obtain ⟨f2l, f2h, -⟩ := pw_obj (c := 24) I1 rfl
  refine pw_call (m' := 99) (As := [.ref 40]) (rest := []) (ls'' := [some (.ref 40)]) (by omega) E rfl (fun _ => pw_iV rfl rfl rfl rfl (pw_cellI f2h rfl)) (rfl : pm_ent 99 = some (1, 1, 9, 4, pmc_99)) rfl rfl (cm_99 (by omega) I1) ?_
  rintro h2 v2 ⟨I2, E2, rfl⟩
  refine ⟨_, rfl, ?_⟩
  show pw X d h2 143 20 [some (.ref 16), some (.ref 44), some (.ref (16 + c)), some (pw_i a)] [] _
  have e30 : pw_g h2 30 1 = pw_g h1 30 1 := pw_Eg (c := 30) I1 E2 rfl rfl 1
  have EE : pw_E [24, 28, 29, 30, 31, 32, 33, 34, 36, c, c + 1, c + 2, c + 3, c + 4] h h2 := (E1.wk (W' := [24, 28, 29, 30, 31, 32, 33, 34, 36, c, c + 1, c + 2, c + 3, c + 4]) (by simp)).tr (E2.wk (W' := [24, 28, 29, 30, 31, 32, 33, 34, 36, c, c + 1, c + 2, c + 3, c + 4]) (by simp))
  refine pw_ld E (pc' := 21) (st' := [pw_i a]) rfl (fun _ => rfl) ?_
  refine pw_if E (pc' := 32) rfl (by decide) ha hb ?_ ?_
  · intro _
    refine pw_ld E (pc' := 33) (st' := [pw_i a]) rfl (fun _ => rfl) ?_
    refine pw_iret E rfl ?_
    exact ⟨I2, EE.G, a, rfl, ha, hb⟩
  · intro hn
    have hn : ¬ (a ≠ 0) := hn
    refine pw_ld E (pc' := 25) (st' := [.ref (16 + c)]) rfl (fun _ => rfl) ?_
    refine pw_ld E (pc' := 26) (st' := [.ref 16, .ref (16 + c)]) rfl (fun _ => rfl) ?_
    refine pw_getR (b := 46) I2 E (c := 0) (k := 13) (pc' := 29) rfl rfl rfl rfl rfl rfl rfl ?_
    obtain ⟨f3l, f3h, -⟩ := pw_obj (c := c) I2 (pw_Sc_o hc)
    refine pw_call (m' := 73) (As := [.ref (16 + c), .ref 46]) (rest := []) (ls'' := [some (.ref (16 + c)), some (.ref 46), none]) (by omega) E rfl (fun _ => pw_iV rfl rfl rfl rfl (pw_cellI f3h rfl)) (rfl : pm_ent 73 = some (2, 3, 7, 4, pmc_73)) rfl rfl (cm_73 (by omega) I2 c hc (by omega)) ?_
    rintro h3 v3 ⟨I3, G3, rfl⟩
    refine ⟨_, rfl, ?_⟩
    show pw X d h3 143 32 [some (.ref 16), some (.ref 44), some (.ref (16 + c)), some (pw_i a)] [] _
    refine pw_ld E (pc' := 33) (st' := [pw_i a]) rfl (fun _ => rfl) ?_
    refine pw_iret E rfl ?_
    exact ⟨I3, EE.tG (G3.wk (W' := [24, 28, 29, 30, 31, 32, 33, 34, 36, c, c + 1, c + 2, c + 3, c + 4]) (by simp)), a, rfl, ha, hb⟩
/-- the cells that law and writer of the class may write -/
def pw_WL : List Nat := [24, 26, 27, 28, 29, 30, 31, 32, 33, 34, 36] ++ (List.range 56).map (fun j => 39 + j)
set_option maxHeartbeats 4000000 in
theorem cm_141 {X : List (Nat × List Value)} {d : Nat} {h : pm_H} (hd : 8 ≤ d) (I : pw_I h) (hX : pw_Xk X) (hR : pw_Xr X) (l : Int) (hl1 : (-2147483648) ≤ l) (hl2 : l ≤ 2147483647) : pw X d h 141 0 [some (.ref 16), some (pw_i l)] [] (fun h' v => pw_I h' ∧ pw_G pw_WL h h' ∧ ∃ a : Int, v = .inl (some (pw_i a)) ∧ (-2147483648) ≤ a ∧ a ≤ 2147483647) := by
  have E : pm_ent 141 = some (2, 2, 11, 0, pmc_141) := rfl
  refine pw_ld E (pc' := 1) (st' := [pw_i l]) rfl (fun _ => rfl) ?_
  refine pw_call (m' := 142) (As := [pw_i l]) (rest := []) (ls'' := [some (pw_i l)]) (by omega) E rfl (fun _ => pw_iS rfl rfl rfl) (rfl : pm_ent 142 = some (1, 1, 11, 1, pmc_142)) rfl rfl (cm_142 (by omega) I (l) (by omega) (by omega)) ?_
  rintro u v ⟨rfl, x, rfl, hxa, hxb, hxr⟩
  refine ⟨_, rfl, ?_⟩
  show pw X d h 141 4 [some (.ref 16), some (pw_i l)] [pw_i x] _
  refine pw_if E (pc' := 16) rfl (by decide) (by omega) (by omega) ?_ ?_
  · intro hn
    have hn : x ≠ 0 := hn
    refine pw_ld E (pc' := 17) (st' := [.ref 16]) rfl (fun _ => rfl) ?_
    refine pw_ld E (pc' := 18) (st' := [.ref 16, .ref 16]) rfl (fun _ => rfl) ?_
    refine pw_getR (b := 42) I E (c := 0) (k := 11) (pc' := 21) rfl rfl rfl rfl rfl rfl rfl ?_
    refine pw_ld E (pc' := 22) (st' := [.ref 16, .ref 42, .ref 16]) rfl (fun _ => rfl) ?_
    refine pw_getR (b := 53) I E (c := 0) (k := 14) (pc' := 25) rfl rfl rfl rfl rfl rfl rfl ?_
    refine pw_ld E (pc' := 26) (st' := [pw_i l, .ref 53, .ref 42, .ref 16]) rfl (fun _ => rfl) ?_
    obtain ⟨c, hc, hcl⟩ : ∃ c : Nat, pw_Sc c ∧ (((55 : Int) + 14 * ((l.toNat : Nat) : Int)).toNat = 16 + c) := by
      rcases (by omega : l = 0 ∨ l = 1 ∨ l = 2 ∨ l = 3) with rfl | rfl | rfl | rfl
      · exact ⟨39, by unfold pw_Sc; omega, rfl⟩
      · exact ⟨53, by unfold pw_Sc; omega, rfl⟩
      · exact ⟨67, by unfold pw_Sc; omega, rfl⟩
      · exact ⟨81, by unfold pw_Sc; omega, rfl⟩
    refine pw_aald (b := 16 + c) I E (c := 37) (pc' := 27) rfl rfl (by decide) rfl (by decide) (by omega) (by omega) hcl rfl ?_
    obtain ⟨f1l, f1h, -⟩ := pw_obj (c := 0) I rfl
    refine pw_call (m' := 143) (As := [.ref 16, .ref 42, .ref (16 + c)]) (rest := []) (ls'' := [some (.ref 16), some (.ref 42), some (.ref (16 + c)), none]) (by omega) E rfl (fun _ => pw_iV rfl rfl rfl rfl (pw_cellI f1h rfl)) (rfl : pm_ent 143 = some (3, 4, 11, 0, pmc_143)) rfl rfl (cm_143_26 (by omega) I hX hR c hc) ?_
    rintro h1 v1 ⟨I1, G1, a, rfl, ha, hb⟩
    refine ⟨_, rfl, ?_⟩
    show pw X d h1 141 30 [some (.ref 16), some (pw_i l)] [pw_i a] _
    refine pw_iret E rfl ?_
    refine ⟨I1, G1.wk ?_, a, rfl, ha, hb⟩
    rcases hc with rfl | rfl | rfl | rfl | rfl | rfl | rfl | rfl <;> decide
  · intro hn
    refine pw_ld E (pc' := 8) (st' := [.ref 16]) rfl (fun _ => rfl) ?_
    refine pw_getR (b := 40) I E (c := 0) (k := 10) (pc' := 11) rfl rfl rfl rfl rfl rfl rfl ?_
    obtain ⟨f2l, f2h, -⟩ := pw_obj (c := 24) I rfl
    refine pw_call (m' := 99) (As := [.ref 40]) (rest := []) (ls'' := [some (.ref 40)]) (by omega) E rfl (fun _ => pw_iV rfl rfl rfl rfl (pw_cellI f2h rfl)) (rfl : pm_ent 99 = some (1, 1, 9, 4, pmc_99)) rfl rfl (cm_99 (by omega) I) ?_
    rintro h2 v2 ⟨I2, E2, rfl⟩
    refine ⟨_, rfl, ?_⟩
    show pw X d h2 141 14 [some (.ref 16), some (pw_i l)] [] _
    refine pw_ld E (pc' := 15) (st' := [pw_i (-1)]) rfl (fun _ => rfl) ?_
    refine pw_iret E rfl ?_
    exact ⟨I2, (E2.wk (W' := pw_WL) (by decide)).G, -1, rfl, by decide, by decide⟩
set_option maxHeartbeats 4000000 in
theorem cm_153 {X : List (Nat × List Value)} {d : Nat} {h : pm_H} (hd : 8 ≤ d) (I : pw_I h) (hX : pw_Xk X) (hR : pw_Xr X) (l : Int) (hl1 : (-2147483648) ≤ l) (hl2 : l ≤ 2147483647) : pw X d h 153 0 [some (.ref 16), some (pw_i l)] [] (fun h' v => pw_I h' ∧ pw_G pw_WL h h' ∧ ∃ a : Int, v = .inl (some (pw_i a)) ∧ (-2147483648) ≤ a ∧ a ≤ 2147483647) := by
  have E : pm_ent 153 = some (2, 2, 11, 0, pmc_153) := rfl
  refine pw_ld E (pc' := 1) (st' := [pw_i l]) rfl (fun _ => rfl) ?_
  refine pw_call (m' := 142) (As := [pw_i l]) (rest := []) (ls'' := [some (pw_i l)]) (by omega) E rfl (fun _ => pw_iS rfl rfl rfl) (rfl : pm_ent 142 = some (1, 1, 11, 1, pmc_142)) rfl rfl (cm_142 (by omega) I (l) (by omega) (by omega)) ?_
  rintro u v ⟨rfl, x, rfl, hxa, hxb, hxr⟩
  refine ⟨_, rfl, ?_⟩
  show pw X d h 153 4 [some (.ref 16), some (pw_i l)] [pw_i x] _
  refine pw_if E (pc' := 16) rfl (by decide) (by omega) (by omega) ?_ ?_
  · intro hn
    have hn : x ≠ 0 := hn
    refine pw_ld E (pc' := 17) (st' := [.ref 16]) rfl (fun _ => rfl) ?_
    refine pw_ld E (pc' := 18) (st' := [.ref 16, .ref 16]) rfl (fun _ => rfl) ?_
    refine pw_getR (b := 44) I E (c := 0) (k := 12) (pc' := 21) rfl rfl rfl rfl rfl rfl rfl ?_
    refine pw_ld E (pc' := 22) (st' := [.ref 16, .ref 44, .ref 16]) rfl (fun _ => rfl) ?_
    refine pw_getR (b := 54) I E (c := 0) (k := 15) (pc' := 25) rfl rfl rfl rfl rfl rfl rfl ?_
    refine pw_ld E (pc' := 26) (st' := [pw_i l, .ref 54, .ref 44, .ref 16]) rfl (fun _ => rfl) ?_
    obtain ⟨c, hc, hcl⟩ : ∃ c : Nat, pw_Sc c ∧ (((62 : Int) + 14 * ((l.toNat : Nat) : Int)).toNat = 16 + c) := by
      rcases (by omega : l = 0 ∨ l = 1 ∨ l = 2 ∨ l = 3) with rfl | rfl | rfl | rfl
      · exact ⟨46, by unfold pw_Sc; omega, rfl⟩
      · exact ⟨60, by unfold pw_Sc; omega, rfl⟩
      · exact ⟨74, by unfold pw_Sc; omega, rfl⟩
      · exact ⟨88, by unfold pw_Sc; omega, rfl⟩
    refine pw_aald (b := 16 + c) I E (c := 38) (pc' := 27) rfl rfl (by decide) rfl (by decide) (by omega) (by omega) hcl rfl ?_
    obtain ⟨f1l, f1h, -⟩ := pw_obj (c := 0) I rfl
    refine pw_call (m' := 143) (As := [.ref 16, .ref 44, .ref (16 + c)]) (rest := []) (ls'' := [some (.ref 16), some (.ref 44), some (.ref (16 + c)), none]) (by omega) E rfl (fun _ => pw_iV rfl rfl rfl rfl (pw_cellI f1h rfl)) (rfl : pm_ent 143 = some (3, 4, 11, 0, pmc_143)) rfl rfl (cm_143_28 (by omega) I hX hR c hc) ?_
    rintro h1 v1 ⟨I1, G1, a, rfl, ha, hb⟩
    refine ⟨_, rfl, ?_⟩
    show pw X d h1 153 30 [some (.ref 16), some (pw_i l)] [pw_i a] _
    refine pw_iret E rfl ?_
    refine ⟨I1, G1.wk ?_, a, rfl, ha, hb⟩
    rcases hc with rfl | rfl | rfl | rfl | rfl | rfl | rfl | rfl <;> decide
  · intro hn
    refine pw_ld E (pc' := 8) (st' := [.ref 16]) rfl (fun _ => rfl) ?_
    refine pw_getR (b := 40) I E (c := 0) (k := 10) (pc' := 11) rfl rfl rfl rfl rfl rfl rfl ?_
    obtain ⟨f2l, f2h, -⟩ := pw_obj (c := 24) I rfl
    refine pw_call (m' := 99) (As := [.ref 40]) (rest := []) (ls'' := [some (.ref 40)]) (by omega) E rfl (fun _ => pw_iV rfl rfl rfl rfl (pw_cellI f2h rfl)) (rfl : pm_ent 99 = some (1, 1, 9, 4, pmc_99)) rfl rfl (cm_99 (by omega) I) ?_
    rintro h2 v2 ⟨I2, E2, rfl⟩
    refine ⟨_, rfl, ?_⟩
    show pw X d h2 153 14 [some (.ref 16), some (pw_i l)] [] _
    refine pw_ld E (pc' := 15) (st' := [pw_i (-1)]) rfl (fun _ => rfl) ?_
    refine pw_iret E rfl ?_
    exact ⟨I2, (E2.wk (W' := pw_WL) (by decide)).G, -1, rfl, by decide, by decide⟩
end
section
/-! the law's own frame (printed by wip/tool/mlawrules.py) -/
def pwl (X : List (Nat × List Value)) (K : Nat) (h : pm_H) (pc : Nat) (ls : pm_L) (st : List Value) (Q : pm_H → (Option Value ⊕ Unit) → Prop) : Prop :=
  ∃ k N0 o, k ≤ K ∧ Q o.1 o.2 ∧ ∀ N, N0 ≤ N → pm_xk X N k 50 h 309 pc ls st = some o
theorem pwl_mono {X : List (Nat × List Value)} {K K' : Nat} {h : pm_H} {pc : Nat} {ls : pm_L} {st : List Value} {Q : pm_H → (Option Value ⊕ Unit) → Prop} (hk : K ≤ K') (H : pwl X K h pc ls st Q) : pwl X K' h pc ls st Q := by
  obtain ⟨k, N0, o, h1, h2, h3⟩ := H
  exact ⟨k, N0, o, Nat.le_trans h1 hk, h2, h3⟩
theorem pm_xk_at {X : List (Nat × List Value)} {N k d : Nat} {h : pm_H} {m pc len na nl own rt : Nat} {C : pm_T (Instr × Nat)} {ls : pm_L} {st : List Value} {i : Instr} (he : pm_ent m = some (na, nl, own, rt, C)) (hq : pm_get C pc = some (i, len)) : pm_xk X N (k + 1) d h m pc ls st = pm_dsp X i (pm_ik X N (pm_xk X N k)) d h m own pc len ls st := by
  show pm_F X (pm_ik X N (pm_xk X N k)) d h m pc ls st = _
  unfold pm_F
  rw [he]
  show (match pm_get C pc with
    | none => none
    | some q => pm_dsp X q.1 (pm_ik X N (pm_xk X N k)) d h m own pc q.2 ls st) = _
  rw [hq]
theorem pm_ik_309 {X : List (Nat × List Value)} {N : Nat} {K : pm_I} {d : Nat} {h : pm_H} {pc : Nat} {ls : pm_L} {st : List Value} : pm_ik X N K d h 309 pc ls st = K d h 309 pc ls st := by
  unfold pm_ik
  rw [Nat.beq_refl]
  rfl
/-- an int of the script -/
def pw_s (xs : List Int32) (j : Int) : Int := (xs.getD j.toNat 0).toInt
theorem pw_s_r (xs : List Int32) (j : Int) : -2147483648 ≤ pw_s xs j ∧ pw_s xs j ≤ 2147483647 := pw_i32r _
section Pl
variable {X : List (Nat × List Value)} {K : Nat} {h h' : pm_H} {pc pc' len na nl own rt : Nat} {C : pm_T (Instr × Nat)} {ls ls' : pm_L} {st st' r : List Value} {Q : pm_H → (Option Value ⊕ Unit) → Prop} {i : Instr}
theorem pwl_go (he : pm_ent 309 = some (na, nl, own, rt, C)) (hq : pm_get C pc = some (i, len)) (hs : ∀ ih : pm_I, pm_dsp X i ih 50 h 309 own pc len ls st = ih 50 h' 309 pc' ls' st') (H : pwl X K h' pc' ls' st' Q) : pwl X (K + 1) h pc ls st Q := by
  obtain ⟨k, N0, o, hk, hQ, hn⟩ := H
  refine ⟨k + 1, N0, o, by omega, hQ, fun n hn' => ?_⟩
  rw [pm_xk_at he hq]
  exact (hs _).trans (pm_ik_309.trans (hn n hn'))
theorem pwl_end {v : Option Value ⊕ Unit} (he : pm_ent 309 = some (na, nl, own, rt, C)) (hq : pm_get C pc = some (i, len)) (hs : ∀ ih : pm_I, pm_dsp X i ih 50 h 309 own pc len ls st = some (h, v)) (H : Q h v) : pwl X (K + 1) h pc ls st Q := by
  refine ⟨1, 0, (h, v), by omega, H, fun n hn' => ?_⟩
  rw [pm_xk_at he hq]
  exact hs _
theorem pwl_ld (he : pm_ent 309 = some (na, nl, own, rt, C)) (hq : pm_get C pc = some (i, len)) (hs : ∀ ih : pm_I, pm_dsp X i ih 50 h 309 own pc len ls st = ih 50 h 309 pc' ls st') (H : pwl X K h pc' ls st' Q) : pwl X (K + 1) h pc ls st Q := pwl_go he hq hs H
theorem pwl_nmx {x : Int32} (H : ∀ b : Int, -2147483648 ≤ b → b ≤ 2147483647 → pwl X K h pc ls (pw_i b :: r) Q) : pwl X K h pc ls (.int x :: r) Q := by
  obtain ⟨b, h1, h2, h3⟩ := pw_any x
  rw [h3]
  exact H b h1 h2
theorem pwl_bip {n : Int} (he : pm_ent 309 = some (na, nl, own, rt, C)) (hq : pm_get C pc = some (.bipush n, len)) (hc : pc + len = pc') (hv : (Int8.ofInt n).toInt32 = Int32.ofInt n) (H : pwl X K h pc' ls (pw_i n :: st) Q) : pwl X (K + 1) h pc ls st Q := by
  subst hc
  refine pwl_ld he hq (st' := .int (Int8.ofInt n).toInt32 :: st) (pc' := pc + len) (fun ih => ?_) (by rw [hv]; exact H)
  exact pm_fn_eq (pc + len) (fun q => ih 50 h 309 q ls (.int (Int8.ofInt n).toInt32 :: st))
theorem pwl_ist {k : Nat} {a : Int} (he : pm_ent 309 = some (na, nl, own, rt, C)) (hq : pm_get C pc = some (.istore k, len)) (hk : Nat.blt k (pm_len ls) = true) (hp : pm_put1 ls k (pw_i a) = ls') (hc : pc + len = pc') (H : pwl X K h pc' ls' r Q) : pwl X (K + 1) h pc ls (pw_i a :: r) Q := by
  subst hc; subst hp
  refine pwl_go he hq (fun ih => ?_) H
  show cond (Nat.blt k (pm_len ls)) (pm_fi (Int32.ofInt a) fun y => pm_fn (pc + len) fun q => ih 50 h 309 q (pm_put1 ls k (.int y)) r) none = _
  rw [hk, cond_true, pm_fi_eq, pm_fn_eq]
  rfl
theorem pwl_lst {k : Nat} {w : Int64} (he : pm_ent 309 = some (na, nl, own, rt, C)) (hq : pm_get C pc = some (.lstore k, len)) (hk : Nat.blt (k + 1) (pm_len ls) = true) (hp : pm_put2 ls k (.long w) = ls') (hc : pc + len = pc') (H : pwl X K h pc' ls' r Q) : pwl X (K + 1) h pc ls (.long w :: r) Q := by
  subst hc; subst hp
  refine pwl_go he hq (fun ih => ?_) H
  show cond (Nat.blt (k + 1) (pm_len ls)) (pm_fl w fun y => pm_fn (pc + len) fun q => ih 50 h 309 q (pm_put2 ls k (.long y)) r) none = _
  rw [hk, cond_true, pm_fl_eq, pm_fn_eq]
theorem pwl_astn {k : Fin 4} {a : Nat} (he : pm_ent 309 = some (na, nl, own, rt, C)) (hq : pm_get C pc = some (.astore_n k, len)) (hk : Nat.blt k.val (pm_len ls) = true) (hp : pm_put1 ls k.val (.ref a) = ls') (hc : pc + len = pc') (H : pwl X K h pc' ls' r Q) : pwl X (K + 1) h pc ls (.ref a :: r) Q := by
  subst hc; subst hp
  refine pwl_go he hq (fun ih => ?_) H
  show cond (Nat.blt k.val (pm_len ls)) (pm_fn (pc + len) fun q => ih 50 h 309 q (pm_put1 ls k.val (.ref a)) r) none = _
  rw [hk, cond_true, pm_fn_eq]
theorem pwl_inc {k : Nat} {n a : Int} (he : pm_ent 309 = some (na, nl, own, rt, C)) (hq : pm_get C pc = some (.iinc k n, 3)) (hl : pm_nth ls k = some (some (pw_i a))) (hp : pm_put1 ls k (pw_i (a + n)) = ls') (hc : pc + 3 = pc') (H : pwl X K h pc' ls' st Q) : pwl X (K + 1) h pc ls st Q := by
  subst hc; subst hp
  refine pwl_go he hq (fun ih => ?_) H
  show pm_lift (pm_sInc k n) ih 50 h 309 own pc 3 ls st = _
  unfold pm_lift pm_sInc
  rw [hl]
  show cond (Nat.beq 3 3) (pm_fi (Int32.ofInt a + Int32.ofInt n) fun y => pm_fn (pc + 3) fun q => ih 50 h 309 q (pm_put1 ls k (.int y)) st) none = _
  rw [Nat.beq_refl, cond_true, pm_fi_eq, pm_fn_eq, ← Int32.ofInt_add]
  rfl
theorem pwl_add {a b : Int} (he : pm_ent 309 = some (na, nl, own, rt, C)) (hq : pm_get C pc = some (.iadd, len)) (hc : pc + len = pc') (H : pwl X K h pc' ls (pw_i (a + b) :: r) Q) : pwl X (K + 1) h pc ls (pw_i b :: pw_i a :: r) Q := by
  subst hc
  refine pwl_ld he hq (st' := pw_i (a + b) :: r) (pc' := pc + len) (fun ih => ?_) H
  unfold pw_i
  rw [Int32.ofInt_add]
  exact pm_fn_eq (pc + len) (fun q => ih 50 h 309 q ls (.int (Int32.ofInt a + Int32.ofInt b) :: r))
theorem pwl_sub {a b : Int} (he : pm_ent 309 = some (na, nl, own, rt, C)) (hq : pm_get C pc = some (.isub, len)) (hc : pc + len = pc') (H : pwl X K h pc' ls (pw_i (a - b) :: r) Q) : pwl X (K + 1) h pc ls (pw_i b :: pw_i a :: r) Q := by
  subst hc
  refine pwl_ld he hq (st' := pw_i (a - b) :: r) (pc' := pc + len) (fun ih => ?_) H
  unfold pw_i
  rw [Int32.ofInt_sub]
  exact pm_fn_eq (pc + len) (fun q => ih 50 h 309 q ls (.int (Int32.ofInt a - Int32.ofInt b) :: r))
theorem pwl_ii {f : Int32 → Int32 → Int32} {a b : Int} (he : pm_ent 309 = some (na, nl, own, rt, C)) (hq : pm_get C pc = some (i, len)) (hs : ∀ ih : pm_I, pm_dsp X i ih 50 h 309 own pc len ls (pw_i b :: pw_i a :: r) = ih 50 h 309 pc' ls (.int (f (Int32.ofInt a) (Int32.ofInt b)) :: r)) (H : ∀ c : Int, -2147483648 ≤ c → c ≤ 2147483647 → pwl X K h pc' ls (pw_i c :: r) Q) : pwl X (K + 1) h pc ls (pw_i b :: pw_i a :: r) Q := pwl_ld he hq hs (pwl_nmx H)
theorem pwl_goto {off : Int} (he : pm_ent 309 = some (na, nl, own, rt, C)) (hq : pm_get C pc = some (.goto off, len)) (ht : (pc : Int) + off = (pc' : Int)) (H : pwl X K h pc' ls st Q) : pwl X (K + 1) h pc ls st Q := by
  refine pwl_ld he hq (pc' := pc') (st' := st) (fun ih => ?_) H
  show pm_to ((pc : Int) + off) (fun t => ih 50 h 309 t ls st) = _
  rw [ht]
  exact pm_fn_eq pc' (fun t => ih 50 h 309 t ls st)
theorem pwl_if {c : ClassFile.Cond} {off a : Int} (he : pm_ent 309 = some (na, nl, own, rt, C)) (hq : pm_get C pc = some (.ifCond c off, len)) (ht : (pc : Int) + off = (pc' : Int)) (h1 : -2147483648 ≤ a) (h2 : a ≤ 2147483647) (HT : pw_c c a 0 → pwl X K h pc' ls r Q) (HF : ¬ pw_c c a 0 → pwl X K h (pc + 3) ls r Q) : pwl X (K + 1) h pc ls (pw_i a :: r) Q := by
  have key : ∀ ih : pm_I, pm_dsp X (.ifCond c off) ih 50 h 309 own pc len ls (pw_i a :: r) = cond (pm_cnd c (Int32.ofInt a) (Int32.ofInt 0)) (ih 50 h 309 pc' ls r) (ih 50 h 309 (pc + 3) ls r) := by
    intro ih
    show pm_to ((pc : Int) + off) (fun t => cond (pm_cnd c (Int32.ofInt a) 0) (ih 50 h 309 t ls r) (pm_fn (pc + 3) fun q => ih 50 h 309 q ls r)) = _
    rw [ht]
    rw [pm_fn_eq (pc + 3)]
    exact pm_fn_eq pc' (fun t => cond (pm_cnd c (Int32.ofInt a) 0) (ih 50 h 309 t ls r) (ih 50 h 309 (pc + 3) ls r))
  by_cases hc : pm_cnd c (Int32.ofInt a) (Int32.ofInt 0) = true
  · refine pwl_ld he hq (fun ih => ?_) (HT ((pw_cnd h1 h2 (by omega) (by omega)).mp hc))
    rw [key, hc, cond_true]
  · refine pwl_ld he hq (fun ih => ?_) (HF (fun q => hc ((pw_cnd h1 h2 (by omega) (by omega)).mpr q)))
    rw [key, Bool.not_eq_true _ |>.mp hc, cond_false]
theorem pwl_if2 {c : ClassFile.Cond} {off a b : Int} (he : pm_ent 309 = some (na, nl, own, rt, C)) (hq : pm_get C pc = some (.if_icmp c off, len)) (ht : (pc : Int) + off = (pc' : Int)) (h1 : -2147483648 ≤ a) (h2 : a ≤ 2147483647) (h3 : -2147483648 ≤ b) (h4 : b ≤ 2147483647) (HT : pw_c c a b → pwl X K h pc' ls r Q) (HF : ¬ pw_c c a b → pwl X K h (pc + 3) ls r Q) : pwl X (K + 1) h pc ls (pw_i b :: pw_i a :: r) Q := by
  have key : ∀ ih : pm_I, pm_dsp X (.if_icmp c off) ih 50 h 309 own pc len ls (pw_i b :: pw_i a :: r) = cond (pm_cnd c (Int32.ofInt a) (Int32.ofInt b)) (ih 50 h 309 pc' ls r) (ih 50 h 309 (pc + 3) ls r) := by
    intro ih
    show pm_to ((pc : Int) + off) (fun t => cond (pm_cnd c (Int32.ofInt a) (Int32.ofInt b)) (ih 50 h 309 t ls r) (pm_fn (pc + 3) fun q => ih 50 h 309 q ls r)) = _
    rw [ht]
    rw [pm_fn_eq (pc + 3)]
    exact pm_fn_eq pc' (fun t => cond (pm_cnd c (Int32.ofInt a) (Int32.ofInt b)) (ih 50 h 309 t ls r) (ih 50 h 309 (pc + 3) ls r))
  by_cases hc : pm_cnd c (Int32.ofInt a) (Int32.ofInt b) = true
  · refine pwl_ld he hq (fun ih => ?_) (HT ((pw_cnd h1 h2 h3 h4).mp hc))
    rw [key, hc, cond_true]
  · refine pwl_ld he hq (fun ih => ?_) (HF (fun q => hc ((pw_cnd h1 h2 h3 h4).mpr q)))
    rw [key, Bool.not_eq_true _ |>.mp hc, cond_false]
theorem pwl_tswD {df lo hi a : Int} {offs : Array Int} (he : pm_ent 309 = some (na, nl, own, rt, C)) (hq : pm_get C pc = some (.tableswitch df lo hi offs, len)) (h1 : -2147483648 ≤ a) (h2 : a ≤ 2147483647) (ho : a < lo ∨ hi < a) (ht : (pc : Int) + df = (pc' : Int)) (H : pwl X K h pc' ls r Q) : pwl X (K + 1) h pc ls (pw_i a :: r) Q := by
  refine pwl_ld he hq (fun ih => ?_) H
  show pm_tsw (Int32.ofInt a).toInt lo hi df offs (fun o => pm_to ((pc : Int) + o) fun t => ih 50 h 309 t ls r) = _
  unfold pm_tsw
  rw [pw_toInt h1 h2, if_pos ho]
  show pm_to ((pc : Int) + df) (fun t => ih 50 h 309 t ls r) = _
  rw [ht]
  exact pm_fn_eq pc' (fun t => ih 50 h 309 t ls r)
theorem pwl_tswJ {df lo hi a o : Int} {offs : Array Int} (he : pm_ent 309 = some (na, nl, own, rt, C)) (hq : pm_get C pc = some (.tableswitch df lo hi offs, len)) (h1 : -2147483648 ≤ a) (h2 : a ≤ 2147483647) (ho : ¬ (a < lo ∨ hi < a)) (hj : pm_nth offs.toList (a - lo).toNat = some o) (ht : (pc : Int) + o = (pc' : Int)) (H : pwl X K h pc' ls r Q) : pwl X (K + 1) h pc ls (pw_i a :: r) Q := by
  refine pwl_ld he hq (fun ih => ?_) H
  show pm_tsw (Int32.ofInt a).toInt lo hi df offs (fun o => pm_to ((pc : Int) + o) fun t => ih 50 h 309 t ls r) = _
  unfold pm_tsw
  rw [pw_toInt h1 h2, if_neg ho, hj]
  show pm_to ((pc : Int) + o) (fun t => ih 50 h 309 t ls r) = _
  rw [ht]
  exact pm_fn_eq pc' (fun t => ih 50 h 309 t ls r)
theorem pwl_zret {a : Int} (he : pm_ent 309 = some (na, nl, own, 1, C)) (hq : pm_get C pc = some (.ireturn, len)) (ha : a = 0 ∨ a = 1) (H : Q h (.inl (some (pw_i a)))) : pwl X (K + 1) h pc ls [pw_i a] Q := by
  refine pwl_end he hq (fun ih => ?_) H
  show ((match pm_ent 309 with
    | some e => cond (Nat.ble 0 e.2.2.2.1) (cond (Nat.ble e.2.2.2.1 1) (cond (pm_fit e.2.2.2.1 (pw_i a)) (some (h, .inl (some (pw_i a)))) none) none) none
    | none => none) : pm_R) = _
  rw [he]
  rcases ha with rfl | rfl <;> rfl
theorem pwl_alen {t a : Nat} {l : List Value} (he : pm_ent 309 = some (na, nl, own, rt, C)) (hq : pm_get C pc = some (.arraylength, len)) (hr : pm_row X h a = some (t, l)) (ht : pm_okt t = true) (hc : pc + len = pc') (H : pwl X K h pc' ls (pw_i (l.length : Int) :: r) Q) : pwl X (K + 1) h pc ls (.ref a :: r) Q := by
  subst hc
  refine pwl_ld he hq (st' := pw_i (l.length : Int) :: r) (pc' := pc + len) (fun ih => ?_) H
  show pm_gLen X ih 50 h 309 own pc len ls (.ref a :: r) = _
  unfold pm_gLen
  dsimp only
  rw [hr]
  show cond (pm_okt t) (pm_fn (pm_len l) fun z => pm_fn (pc + len) fun q => ih 50 h 309 q ls (.int (Int32.ofNat z) :: r)) none = _
  rw [ht, cond_true, pm_fn_eq, pm_fn_eq, pm_len_eq]
  rfl
theorem pwl_xlen {a n : Nat} {l : List Value} (he : pm_ent 309 = some (na, nl, own, rt, C)) (hq : pm_get C pc = some (.arraylength, len)) (hX : X[a]? = some (0, l)) (ha : a < 16) (hn : l.length = n) (hc : pc + len = pc') (H : pwl X K h pc' ls (pw_i (n : Int) :: r) Q) : pwl X (K + 1) h pc ls (.ref a :: r) Q := by
  subst hn
  refine pwl_alen he hq (t := 0) (l := l) ?_ rfl hc H
  unfold pm_row
  rw [show Nat.blt a 16 = true from Nat.ble_eq_true_of_le ha, cond_true, pm_nth_eq, hX]
  rfl
theorem pwl_sald {xs : List Int32} {j : Int} (he : pm_ent 309 = some (na, nl, own, rt, C)) (hq : pm_get C pc = some (.iaload, len)) (hX : X[0]? = some (0, xs.map Value.int)) (hl : xs.length ≤ 3584) (h0 : 0 ≤ j) (h1 : j < xs.length) (hc : pc + len = pc') (H : pwl X K h pc' ls (pw_i (pw_s xs j) :: r) Q) : pwl X (K + 1) h pc ls (pw_i j :: .ref 0 :: r) Q := by
  subst hc
  refine pwl_ld he hq (st' := pw_i (pw_s xs j) :: r) (pc' := pc + len) (fun ih => ?_) H
  have er : pm_row X h 0 = some (0, xs.map Value.int) := by
    unfold pm_row
    rw [show Nat.blt 0 16 = true from rfl, cond_true, pm_nth_eq, hX]
    rfl
  have en : (xs.map Value.int)[j.toNat]? = some (pw_i (pw_s xs j)) := by
    rw [List.getElem?_map, List.getElem?_eq_getElem (by omega : j.toNat < xs.length)]
    unfold pw_i pw_s
    rw [Int32.ofInt_toInt, List.getD_eq_getElem?_getD, List.getElem?_eq_getElem (by omega : j.toNat < xs.length)]
    rfl
  show pm_gAld X 0 0 ih 50 h 309 own pc len ls (pw_i j :: .ref 0 :: r) = _
  unfold pm_gAld pw_i
  dsimp only
  rw [er]
  show cond (Nat.beq 0 0 || Nat.beq 0 0) (cond (decide (Int32.ofInt j < 0)) none (match pm_nth (xs.map Value.int) (Int32.ofInt j).toNatClampNeg with
        | some (.int x) => pm_fn (pc + len) fun q => ih 50 h 309 q ls (.int x :: r)
        | _ => none)) none = _
  rw [Nat.beq_refl, Bool.true_or, cond_true, decide_eq_false (pw_neg h0 (by omega)), cond_false, pw_clamp h0 (by omega), pm_nth_eq, en]
  show pm_fn (pc + len) _ = _
  rw [pm_fn_eq]
theorem pwl_call {m' : Nat} {e' : pm_M} {As rest : List Value} {ls'' : pm_L} {Qc : pm_H → (Option Value ⊕ Unit) → Prop} (he : pm_ent 309 = some (na, nl, own, rt, C)) (hq : pm_get C pc = some (i, len)) (hs : ∀ ih : pm_I, pm_dsp X i ih 50 h 309 own pc len ls st = pm_call ih 50 h 309 pc ls m' As rest false) (he' : pm_ent m' = some e') (hm : m' ≠ 309) (hlay : pm_lay As e'.2.1 = ls'') (hlen : pm_len ls'' = e'.2.1)
    (HC : pw X 49 h m' 0 ls'' [] Qc) (HK : ∀ h' v, Qc h' v → ∃ w, v = .inl w ∧ pwl X K h' (pc + 3) ls (w.toList ++ rest) Q) : pwl X (K + 1) h pc ls st Q := by
  obtain ⟨n1, o1, hQ1, hn1⟩ := HC
  obtain ⟨h1, v1⟩ := o1
  obtain ⟨w, hw, k, n2, o2, hk, hQ2, hn2⟩ := HK h1 v1 hQ1
  have hw : v1 = .inl w := hw
  subst hw
  refine ⟨k + 1, max n1 n2, o2, by omega, hQ2, fun n hn' => ?_⟩
  rw [pm_xk_at he hq]
  refine (hs _).trans ?_
  show (match pm_ent m' with
    | none => none
    | some e => cond (Nat.beq (pm_len (pm_lay As e.2.1)) e.2.1) (match pm_ik X n (pm_xk X n k) 49 h m' 0 (pm_lay As e.2.1) [] with
      | some (h', .inl v) => pm_fn (pc + 3) fun q => pm_ik X n (pm_xk X n k) 50 h' 309 q ls (v.toList ++ rest)
      | some (h', .inr _) => cond false (some (h', .inl (some (.int 1)))) none
      | none => none) none) = _
  rw [he']
  show cond (Nat.beq (pm_len (pm_lay As e'.2.1)) e'.2.1) (match pm_ik X n (pm_xk X n k) 49 h m' 0 (pm_lay As e'.2.1) [] with
      | some (h', .inl v) => pm_fn (pc + 3) fun q => pm_ik X n (pm_xk X n k) 50 h' 309 q ls (v.toList ++ rest)
      | some (h', .inr _) => cond false (some (h', .inl (some (.int 1)))) none
      | none => none) none = _
  have hn1 := hn1 n (by omega)
  rw [hlay, hlen, Nat.beq_refl, cond_true, pm_ik_ne hm, hn1]
  show (pm_fn (pc + 3) fun q => pm_ik X n (pm_xk X n k) 50 h1 309 q ls (w.toList ++ rest)) = _
  rw [pm_fn_eq, pm_ik_309]
  exact hn2 n (by omega)
theorem pwl_iV {ix m' nb ci a : Nat} {As rest fs : List Value} {ih : pm_I} (hl : pm_get (pm_lnk 13) ix = some (1, m', nb, ci)) (hp : pm_pop nb st [] = some (.ref a :: As, rest)) (h8 : pm_cat8 rest = true) (hc : pm_cell h a = some (.inr (ci, fs))) : pm_dsp X (.invokevirtual ix) ih 50 h 309 13 pc len ls st = pm_call ih 50 h 309 pc ls m' (.ref a :: As) rest false := by
  show pm_gInv X 1 ix ih 50 h 309 13 pc len ls st = _
  unfold pm_gInv
  rw [hl]
  show (match pm_pop nb st [] with
      | some (As, rest) => cond (pm_cat8 rest) (pm_gC 1 ih 50 h 309 13 pc ls m' ci As rest) none
      | none => none) = _
  rw [hp]
  show cond (pm_cat8 rest) (pm_gC 1 ih 50 h 309 13 pc ls m' ci (.ref a :: As) rest) none = _
  rw [h8, cond_true]
  show (match pm_cell h a with
      | some (.inr (cj, _)) => cond (Nat.beq cj ci) (pm_call ih 50 h 309 pc ls m' (.ref a :: As) rest (Nat.beq 13 13 && !Nat.beq 309 309)) none
      | _ => none) = _
  rw [hc]
  show cond (Nat.beq ci ci) _ none = _
  rw [Nat.beq_refl]
  rfl
theorem pwl_iS {ix m' nb ci : Nat} {As rest : List Value} {ih : pm_I} (hl : pm_get (pm_lnk 13) ix = some (14, m', nb, ci)) (hp : pm_pop nb st [] = some (As, rest)) (h8 : pm_cat8 rest = true) (hsc : pm_all (pm_scl (16 + pm_len h)) ls = true) (hsr : pm_all (pm_scv (16 + pm_len h)) rest = true) : pm_dsp X (.invokestatic ix) ih 50 h 309 13 pc len ls st = pm_call ih 50 h 309 pc ls m' As rest false := by
  show pm_gInv X 2 ix ih 50 h 309 13 pc len ls st = _
  unfold pm_gInv
  rw [hl]
  show (match pm_pop nb st [] with
      | some (As, rest) => cond (pm_cat8 rest) (cond (pm_all (pm_scl (16 + pm_len h)) ls && pm_all (pm_scv (16 + pm_len h)) rest) (pm_call ih 50 h 309 pc ls m' As rest false) none) none
      | none => none) = _
  rw [hp]
  show cond (pm_cat8 rest) (cond (pm_all (pm_scl (16 + pm_len h)) ls && pm_all (pm_scv (16 + pm_len h)) rest) (pm_call ih 50 h 309 pc ls m' As rest false) none) none = _
  rw [h8, cond_true, hsc, hsr]
  rfl
end Pl
section Ph
variable {X : List (Nat × List Value)} {d : Nat} {h : pm_H} {m pc len na nl own rt : Nat} {C : pm_T (Instr × Nat)} {ls : pm_L} {st : List Value} {Q : pm_H → (Option Value ⊕ Unit) → Prop} {i : Instr}
/-- a call in one of the law's helpers: what is thrown there is caught, and answers 1 -/
theorem pw_callH {m' : Nat} {e' : pm_M} {As rest : List Value} {ls'' : pm_L} (hd : 1 ≤ d) {Qc : pm_H → (Option Value ⊕ Unit) → Prop} (he : pm_ent m = some (na, nl, own, rt, C)) (hq : pm_get C pc = some (i, len)) (hs : ∀ ih : pm_I, pm_dsp X i ih d h m own pc len ls st = pm_call ih d h m pc ls m' As rest true) (he' : pm_ent m' = some e') (hlay : pm_lay As e'.2.1 = ls'') (hlen : pm_len ls'' = e'.2.1)
    (HC : pw X (d - 1) h m' 0 ls'' [] Qc) (HK : ∀ h' v, Qc h' v → (v = .inr () ∧ Q h' (.inl (some (.int 1)))) ∨ ∃ w, v = .inl w ∧ pw X d h' m (pc + 3) ls (w.toList ++ rest) Q) : pw X d h m pc ls st Q := by
  obtain ⟨n1, o1, hQ1, hn1⟩ := HC
  obtain ⟨h1, v1⟩ := o1
  obtain ⟨d', rfl⟩ : ∃ d', d = d' + 1 := ⟨d - 1, by omega⟩
  have key : ∀ k, n1 ≤ k → pm_x X (k + 1) (d' + 1) h m pc ls st = (match v1 with
      | .inl v => pm_x X k (d' + 1) h1 m (pc + 3) ls (v.toList ++ rest)
      | .inr _ => some (h1, .inl (some (.int 1)))) := by
    intro k hk
    rw [pm_x_at he hq]
    refine (hs _).trans ?_
    show (match pm_ent m' with
      | none => none
      | some e => cond (Nat.beq (pm_len (pm_lay As e.2.1)) e.2.1) (match pm_x X k d' h m' 0 (pm_lay As e.2.1) [] with
        | some (h', .inl v) => pm_fn (pc + 3) fun q => pm_x X k (d' + 1) h' m q ls (v.toList ++ rest)
        | some (h', .inr _) => cond true (some (h', .inl (some (.int 1)))) none
        | none => none) none) = _
    rw [he']
    show cond (Nat.beq (pm_len (pm_lay As e'.2.1)) e'.2.1) (match pm_x X k d' h m' 0 (pm_lay As e'.2.1) [] with
        | some (h', .inl v) => pm_fn (pc + 3) fun q => pm_x X k (d' + 1) h' m q ls (v.toList ++ rest)
        | some (h', .inr _) => cond true (some (h', .inl (some (.int 1)))) none
        | none => none) none = _
    have hn1 := hn1 k hk
    rw [Nat.add_sub_cancel] at hn1
    rw [hlay, hlen, Nat.beq_refl, cond_true, hn1]
    cases v1 with
    | inl v =>
      show (pm_fn (pc + 3) fun q => pm_x X k (d' + 1) h1 m q ls (v.toList ++ rest)) = _
      rw [pm_fn_eq]
    | inr u => rfl
  rcases HK h1 v1 hQ1 with ⟨hv, hQ⟩ | ⟨w, hw, n2, o2, hQ2, hn2⟩
  · have hv : v1 = .inr () := hv
    subst hv
    refine ⟨n1 + 1, (h1, .inl (some (.int 1))), hQ, fun n hn' => ?_⟩
    obtain ⟨k, rfl⟩ : ∃ k, n = k + 1 := ⟨n - 1, by omega⟩
    exact key k (by omega)
  · have hw : v1 = .inl w := hw
    subst hw
    refine ⟨max n1 n2 + 1, o2, hQ2, fun n hn' => ?_⟩
    obtain ⟨k, rfl⟩ : ∃ k, n = k + 1 := ⟨n - 1, by omega⟩
    exact (key k (by omega)).trans (hn2 k (by omega))
theorem pw_iVh {ix m' nb ci a : Nat} {As rest fs : List Value} {ih : pm_I} (hm : Nat.beq m 309 = false) (hl : pm_get (pm_lnk 13) ix = some (1, m', nb, ci)) (hp : pm_pop nb st [] = some (.ref a :: As, rest)) (h8 : pm_cat8 rest = true) (hc : pm_cell h a = some (.inr (ci, fs))) : pm_dsp X (.invokevirtual ix) ih d h m 13 pc len ls st = pm_call ih d h m pc ls m' (.ref a :: As) rest true := by
  show pm_gInv X 1 ix ih d h m 13 pc len ls st = _
  unfold pm_gInv
  rw [hl]
  show (match pm_pop nb st [] with
      | some (As, rest) => cond (pm_cat8 rest) (pm_gC 1 ih d h m 13 pc ls m' ci As rest) none
      | none => none) = _
  rw [hp]
  show cond (pm_cat8 rest) (pm_gC 1 ih d h m 13 pc ls m' ci (.ref a :: As) rest) none = _
  rw [h8, cond_true]
  show (match pm_cell h a with
      | some (.inr (cj, _)) => cond (Nat.beq cj ci) (pm_call ih d h m pc ls m' (.ref a :: As) rest (Nat.beq 13 13 && !Nat.beq m 309)) none
      | _ => none) = _
  rw [hc, hm]
  show cond (Nat.beq ci ci) _ none = _
  rw [Nat.beq_refl]
  rfl
end Ph
end
section
/-! the law's helpers (printed by wip/tool/mhelp.py) -/
set_option maxHeartbeats 1000000 in
theorem cm_310 {X : List (Nat × List Value)} {d : Nat} {h : pm_H} (hd : 6 ≤ d) (I : pw_I h) (bk : Int) (hbk1 : (-2147483648) ≤ bk) (hbk2 : bk ≤ 2147483647) (b : Int) (hb1 : (-2147483648) ≤ b) (hb2 : b ≤ 2147483647) (e : Int) (he1 : (-2147483648) ≤ e) (he2 : e ≤ 2147483647) (wt : Int) (hwt1 : (-2147483648) ≤ wt) (hwt2 : wt ≤ 2147483647) : pw X d h 310 0 [some (.ref 16), some (pw_i bk), some (pw_i b), some (pw_i e), some (pw_i wt), some (.ref 185), none] [] (fun h' v => pw_I h' ∧ pw_E [169] h h' ∧ ∃ a : Int, v = .inl (some (pw_i a)) ∧ 0 ≤ a ∧ a ≤ 1) := by
  have E : pm_ent 310 = some (6, 7, 13, 0, pmc_310) := rfl
  refine pw_ld E (pc' := 2) (st' := [.ref 185]) rfl (fun _ => rfl) ?_
  refine pw_ld E (pc' := 3) (st' := [pw_i 0, .ref 185]) rfl (fun _ => rfl) ?_
  refine pw_ld E (pc' := 4) (st' := [.ref 16, pw_i 0, .ref 185]) rfl (fun _ => rfl) ?_
  refine pw_ld E (pc' := 5) (st' := [pw_i bk, .ref 16, pw_i 0, .ref 185]) rfl (fun _ => rfl) ?_
  refine pw_ld E (pc' := 6) (st' := [pw_i b, pw_i bk, .ref 16, pw_i 0, .ref 185]) rfl (fun _ => rfl) ?_
  refine pw_ld E (pc' := 7) (st' := [pw_i e, pw_i b, pw_i bk, .ref 16, pw_i 0, .ref 185]) rfl (fun _ => rfl) ?_
  refine pw_ld E (pc' := 9) (st' := [pw_i wt, pw_i e, pw_i b, pw_i bk, .ref 16, pw_i 0, .ref 185]) rfl (fun _ => rfl) ?_
  obtain ⟨fl, fh, -⟩ := pw_obj (c := 0) I rfl
  refine pw_callH (m' := 169) (As := [.ref 16, pw_i bk, pw_i b, pw_i e, pw_i wt]) (rest := [pw_i 0, .ref 185]) (ls'' := [some (.ref 16), some (pw_i bk), some (pw_i b), some (pw_i e), some (pw_i wt), none, none]) (by omega) E rfl (fun _ => pw_iVh rfl rfl rfl rfl (pw_cellI fh rfl)) (rfl : pm_ent 169 = some (5, 7, 11, 0, pmc_169)) rfl rfl (cm_169 (by omega) I bk (by omega) (by omega) b (by omega) (by omega) e (by omega) (by omega) wt (by omega) (by omega)) ?_
  rintro h1 v1 ⟨rfl, rfl | ⟨a, rfl, ha, hb⟩⟩
  · exact Or.inl ⟨rfl, I, pw_E.rf _ _, 1, rfl, by decide, by decide⟩
  · refine Or.inr ⟨_, rfl, ?_⟩
    show pw X d h 310 12 [some (.ref 16), some (pw_i bk), some (pw_i b), some (pw_i e), some (pw_i wt), some (.ref 185), none] [pw_i a, pw_i 0, .ref 185] _
    refine pw_ld E (pc' := 13) (st' := [.long ((Int32.ofInt a).toInt64), pw_i 0, .ref 185]) rfl (fun _ => rfl) ?_
    refine pw_last I E (c := 169) (pc' := 14) rfl rfl rfl (by decide) (by decide) (by decide) rfl ?_
    intro I2 E2
    have E3 := (pw_E.rf _ _ : pw_E [169] h h).tr (E2.wk (W' := [169]) (by first | rfl | decide))
    refine pw_goto E (pc' := 21) rfl (by decide) ?_
    refine pw_ld E (pc' := 22) (st' := [pw_i 0]) rfl (fun _ => rfl) ?_
    refine pw_iret E rfl ?_
    exact ⟨I2, E3, 0, rfl, by decide, by decide⟩
set_option maxHeartbeats 1000000 in
theorem cm_311 {X : List (Nat × List Value)} {d : Nat} {h : pm_H} (hd : 6 ≤ d) (I : pw_I h) (a0 : Int) (ha01 : (-2147483648) ≤ a0) (ha02 : a0 ≤ 2147483647) (a1 : Int) (ha11 : (-2147483648) ≤ a1) (ha12 : a1 ≤ 2147483647) (a2 : Int) (ha21 : (-2147483648) ≤ a2) (ha22 : a2 ≤ 2147483647) (a3 : Int) (ha31 : (-2147483648) ≤ a3) (ha32 : a3 ≤ 2147483647) : pw X d h 311 0 [some (.ref 16), some (pw_i a0), some (pw_i a1), some (pw_i a2), some (pw_i a3), some (.ref 185), none] [] (fun h' v => pw_I h' ∧ pw_E [17, 18, 22, 169] h h' ∧ ∃ a : Int, v = .inl (some (pw_i a)) ∧ 0 ≤ a ∧ a ≤ 1) := by
  have E : pm_ent 311 = some (6, 7, 13, 0, pmc_311) := rfl
  refine pw_ld E (pc' := 2) (st' := [.ref 185]) rfl (fun _ => rfl) ?_
  refine pw_ld E (pc' := 3) (st' := [pw_i 0, .ref 185]) rfl (fun _ => rfl) ?_
  refine pw_ld E (pc' := 4) (st' := [.ref 16, pw_i 0, .ref 185]) rfl (fun _ => rfl) ?_
  refine pw_ld E (pc' := 5) (st' := [pw_i a0, .ref 16, pw_i 0, .ref 185]) rfl (fun _ => rfl) ?_
  refine pw_ld E (pc' := 6) (st' := [pw_i a1, pw_i a0, .ref 16, pw_i 0, .ref 185]) rfl (fun _ => rfl) ?_
  refine pw_ld E (pc' := 7) (st' := [pw_i a2, pw_i a1, pw_i a0, .ref 16, pw_i 0, .ref 185]) rfl (fun _ => rfl) ?_
  refine pw_ld E (pc' := 9) (st' := [pw_i a3, pw_i a2, pw_i a1, pw_i a0, .ref 16, pw_i 0, .ref 185]) rfl (fun _ => rfl) ?_
  obtain ⟨fl, fh, -⟩ := pw_obj (c := 0) I rfl
  refine pw_callH (m' := 171) (As := [.ref 16, pw_i a0, pw_i a1, pw_i a2, pw_i a3]) (rest := [pw_i 0, .ref 185]) (ls'' := [some (.ref 16), some (pw_i a0), some (pw_i a1), some (pw_i a2), some (pw_i a3), none]) (by omega) E rfl (fun _ => pw_iVh rfl rfl rfl rfl (pw_cellI fh rfl)) (rfl : pm_ent 171 = some (5, 6, 11, 2, pmc_171)) rfl rfl (cm_171 (by omega) I a0 (by omega) (by omega) a1 (by omega) (by omega) a2 (by omega) (by omega) a3 (by omega) (by omega)) ?_
  rintro h1 v1 ⟨I1, E1, rfl | ⟨w, rfl⟩⟩
  · exact Or.inl ⟨rfl, I1, (E1.wk (W' := [17, 18, 22, 169]) (by first | rfl | decide)), 1, rfl, by decide, by decide⟩
  · refine Or.inr ⟨_, rfl, ?_⟩
    show pw X d h1 311 12 [some (.ref 16), some (pw_i a0), some (pw_i a1), some (pw_i a2), some (pw_i a3), some (.ref 185), none] [.long w, pw_i 0, .ref 185] _
    refine pw_last I1 E (c := 169) (pc' := 13) rfl rfl rfl (by decide) (by decide) (by decide) rfl ?_
    intro I2 E2
    have E3 := ((E1.wk (W' := [17, 18, 22, 169]) (by first | rfl | decide)) : pw_E [17, 18, 22, 169] h h1).tr (E2.wk (W' := [17, 18, 22, 169]) (by first | rfl | decide))
    refine pw_goto E (pc' := 20) rfl (by decide) ?_
    refine pw_ld E (pc' := 21) (st' := [pw_i 0]) rfl (fun _ => rfl) ?_
    refine pw_iret E rfl ?_
    exact ⟨I2, E3, 0, rfl, by decide, by decide⟩
set_option maxHeartbeats 1000000 in
theorem cm_312 {X : List (Nat × List Value)} {d : Nat} {h : pm_H} (hd : 6 ≤ d) (I : pw_I h) (a0 : Int) (ha01 : (-2147483648) ≤ a0) (ha02 : a0 ≤ 2147483647) (a1 : Int) (ha11 : (-2147483648) ≤ a1) (ha12 : a1 ≤ 2147483647) (a2 : Int) (ha21 : (-2147483648) ≤ a2) (ha22 : a2 ≤ 2147483647) (a3 : Int) (ha31 : (-2147483648) ≤ a3) (ha32 : a3 ≤ 2147483647) : pw X d h 312 0 [some (.ref 16), some (pw_i a0), some (pw_i a1), some (pw_i a2), some (pw_i a3), some (.ref 185), none] [] (fun h' v => pw_I h' ∧ pw_E [17, 18, 22, 23, 169] h h' ∧ ∃ a : Int, v = .inl (some (pw_i a)) ∧ 0 ≤ a ∧ a ≤ 1) := by
  have E : pm_ent 312 = some (6, 7, 13, 0, pmc_312) := rfl
  refine pw_ld E (pc' := 2) (st' := [.ref 185]) rfl (fun _ => rfl) ?_
  refine pw_ld E (pc' := 3) (st' := [pw_i 0, .ref 185]) rfl (fun _ => rfl) ?_
  refine pw_ld E (pc' := 4) (st' := [.ref 16, pw_i 0, .ref 185]) rfl (fun _ => rfl) ?_
  refine pw_ld E (pc' := 5) (st' := [pw_i a0, .ref 16, pw_i 0, .ref 185]) rfl (fun _ => rfl) ?_
  refine pw_ld E (pc' := 6) (st' := [pw_i a1, pw_i a0, .ref 16, pw_i 0, .ref 185]) rfl (fun _ => rfl) ?_
  refine pw_ld E (pc' := 7) (st' := [pw_i a2, pw_i a1, pw_i a0, .ref 16, pw_i 0, .ref 185]) rfl (fun _ => rfl) ?_
  refine pw_ld E (pc' := 9) (st' := [pw_i a3, pw_i a2, pw_i a1, pw_i a0, .ref 16, pw_i 0, .ref 185]) rfl (fun _ => rfl) ?_
  obtain ⟨fl, fh, -⟩ := pw_obj (c := 0) I rfl
  refine pw_callH (m' := 172) (As := [.ref 16, pw_i a0, pw_i a1, pw_i a2, pw_i a3]) (rest := [pw_i 0, .ref 185]) (ls'' := [some (.ref 16), some (pw_i a0), some (pw_i a1), some (pw_i a2), some (pw_i a3), none]) (by omega) E rfl (fun _ => pw_iVh rfl rfl rfl rfl (pw_cellI fh rfl)) (rfl : pm_ent 172 = some (5, 6, 11, 2, pmc_172)) rfl rfl (cm_172 (by omega) I a0 (by omega) (by omega) a1 (by omega) (by omega) a2 (by omega) (by omega) a3 (by omega) (by omega)) ?_
  rintro h1 v1 ⟨I1, E1, rfl | ⟨w, rfl⟩⟩
  · exact Or.inl ⟨rfl, I1, (E1.wk (W' := [17, 18, 22, 23, 169]) (by first | rfl | decide)), 1, rfl, by decide, by decide⟩
  · refine Or.inr ⟨_, rfl, ?_⟩
    show pw X d h1 312 12 [some (.ref 16), some (pw_i a0), some (pw_i a1), some (pw_i a2), some (pw_i a3), some (.ref 185), none] [.long w, pw_i 0, .ref 185] _
    refine pw_last I1 E (c := 169) (pc' := 13) rfl rfl rfl (by decide) (by decide) (by decide) rfl ?_
    intro I2 E2
    have E3 := ((E1.wk (W' := [17, 18, 22, 23, 169]) (by first | rfl | decide)) : pw_E [17, 18, 22, 23, 169] h h1).tr (E2.wk (W' := [17, 18, 22, 23, 169]) (by first | rfl | decide))
    refine pw_goto E (pc' := 20) rfl (by decide) ?_
    refine pw_ld E (pc' := 21) (st' := [pw_i 0]) rfl (fun _ => rfl) ?_
    refine pw_iret E rfl ?_
    exact ⟨I2, E3, 0, rfl, by decide, by decide⟩
set_option maxHeartbeats 1000000 in
theorem cm_313 {X : List (Nat × List Value)} {d : Nat} {h : pm_H} (hd : 6 ≤ d) (I : pw_I h) (a0 : Int) (ha01 : (-2147483648) ≤ a0) (ha02 : a0 ≤ 2147483647) (a1 : Int) (ha11 : (-2147483648) ≤ a1) (ha12 : a1 ≤ 2147483647) (a2 : Int) (ha21 : (-2147483648) ≤ a2) (ha22 : a2 ≤ 2147483647) : pw X d h 313 0 [some (.ref 16), some (pw_i a0), some (pw_i a1), some (pw_i a2), some (.ref 185), none] [] (fun h' v => pw_I h' ∧ pw_E [17, 18, 22, 169] h h' ∧ ∃ a : Int, v = .inl (some (pw_i a)) ∧ 0 ≤ a ∧ a ≤ 1) := by
  have E : pm_ent 313 = some (5, 6, 13, 0, pmc_313) := rfl
  refine pw_ld E (pc' := 2) (st' := [.ref 185]) rfl (fun _ => rfl) ?_
  refine pw_ld E (pc' := 3) (st' := [pw_i 0, .ref 185]) rfl (fun _ => rfl) ?_
  refine pw_ld E (pc' := 4) (st' := [.ref 16, pw_i 0, .ref 185]) rfl (fun _ => rfl) ?_
  refine pw_ld E (pc' := 5) (st' := [pw_i a0, .ref 16, pw_i 0, .ref 185]) rfl (fun _ => rfl) ?_
  refine pw_ld E (pc' := 6) (st' := [pw_i a1, pw_i a0, .ref 16, pw_i 0, .ref 185]) rfl (fun _ => rfl) ?_
  refine pw_ld E (pc' := 7) (st' := [pw_i a2, pw_i a1, pw_i a0, .ref 16, pw_i 0, .ref 185]) rfl (fun _ => rfl) ?_
  obtain ⟨fl, fh, -⟩ := pw_obj (c := 0) I rfl
  refine pw_callH (m' := 173) (As := [.ref 16, pw_i a0, pw_i a1, pw_i a2]) (rest := [pw_i 0, .ref 185]) (ls'' := [some (.ref 16), some (pw_i a0), some (pw_i a1), some (pw_i a2)]) (by omega) E rfl (fun _ => pw_iVh rfl rfl rfl rfl (pw_cellI fh rfl)) (rfl : pm_ent 173 = some (4, 4, 11, 2, pmc_173)) rfl rfl (cm_173 (by omega) I a0 (by omega) (by omega) a1 (by omega) (by omega) a2 (by omega) (by omega)) ?_
  rintro h1 v1 ⟨I1, E1, rfl | ⟨w, rfl⟩⟩
  · exact Or.inl ⟨rfl, I1, (E1.wk (W' := [17, 18, 22, 169]) (by first | rfl | decide)), 1, rfl, by decide, by decide⟩
  · refine Or.inr ⟨_, rfl, ?_⟩
    show pw X d h1 313 10 [some (.ref 16), some (pw_i a0), some (pw_i a1), some (pw_i a2), some (.ref 185), none] [.long w, pw_i 0, .ref 185] _
    refine pw_last I1 E (c := 169) (pc' := 11) rfl rfl rfl (by decide) (by decide) (by decide) rfl ?_
    intro I2 E2
    have E3 := ((E1.wk (W' := [17, 18, 22, 169]) (by first | rfl | decide)) : pw_E [17, 18, 22, 169] h h1).tr (E2.wk (W' := [17, 18, 22, 169]) (by first | rfl | decide))
    refine pw_goto E (pc' := 18) rfl (by decide) ?_
    refine pw_ld E (pc' := 19) (st' := [pw_i 0]) rfl (fun _ => rfl) ?_
    refine pw_iret E rfl ?_
    exact ⟨I2, E3, 0, rfl, by decide, by decide⟩
set_option maxHeartbeats 1000000 in
theorem cm_314 {X : List (Nat × List Value)} {d : Nat} {h : pm_H} (hd : 5 ≤ d) (I : pw_I h) (b : Int) (hb1 : (-2147483648) ≤ b) (hb2 : b ≤ 2147483647) (e : Int) (he1 : (-2147483648) ≤ e) (he2 : e ≤ 2147483647) (z : Int) (hz1 : 0 ≤ z) (hz2 : z ≤ 1) (wt : Int) (hwt1 : (-2147483648) ≤ wt) (hwt2 : wt ≤ 2147483647) : pw X d h 314 0 [some (.ref 16), some (pw_i b), some (pw_i e), some (pw_i z), some (pw_i wt), some (.ref 185), none] [] (fun h' v => pw_I h' ∧ pw_E [17, 18, 22, 169] h h' ∧ ∃ a : Int, v = .inl (some (pw_i a)) ∧ 0 ≤ a ∧ a ≤ 1) := by
  have E : pm_ent 314 = some (6, 7, 13, 0, pmc_314) := rfl
  refine pw_ld E (pc' := 2) (st' := [.ref 185]) rfl (fun _ => rfl) ?_
  refine pw_ld E (pc' := 3) (st' := [pw_i 0, .ref 185]) rfl (fun _ => rfl) ?_
  refine pw_ld E (pc' := 4) (st' := [.ref 16, pw_i 0, .ref 185]) rfl (fun _ => rfl) ?_
  refine pw_ld E (pc' := 5) (st' := [pw_i b, .ref 16, pw_i 0, .ref 185]) rfl (fun _ => rfl) ?_
  refine pw_ld E (pc' := 6) (st' := [pw_i e, pw_i b, .ref 16, pw_i 0, .ref 185]) rfl (fun _ => rfl) ?_
  refine pw_ld E (pc' := 7) (st' := [pw_i z, pw_i e, pw_i b, .ref 16, pw_i 0, .ref 185]) rfl (fun _ => rfl) ?_
  refine pw_ld E (pc' := 9) (st' := [pw_i wt, pw_i z, pw_i e, pw_i b, .ref 16, pw_i 0, .ref 185]) rfl (fun _ => rfl) ?_
  obtain ⟨fl, fh, -⟩ := pw_obj (c := 0) I rfl
  refine pw_callH (m' := 177) (As := [.ref 16, pw_i b, pw_i e, pw_i z, pw_i wt]) (rest := [pw_i 0, .ref 185]) (ls'' := [some (.ref 16), some (pw_i b), some (pw_i e), some (pw_i z), some (pw_i wt), none, none]) (by omega) E rfl (fun _ => pw_iVh rfl rfl rfl rfl (pw_cellI fh rfl)) (rfl : pm_ent 177 = some (5, 7, 11, 2, pmc_177)) rfl rfl (cm_177 (by omega) I b (by omega) (by omega) e (by omega) (by omega) z (by omega) (by omega) wt (by omega) (by omega)) ?_
  rintro h1 v1 ⟨I1, E1, rfl | ⟨w, rfl⟩⟩
  · exact Or.inl ⟨rfl, I1, (E1.wk (W' := [17, 18, 22, 169]) (by first | rfl | decide)), 1, rfl, by decide, by decide⟩
  · refine Or.inr ⟨_, rfl, ?_⟩
    show pw X d h1 314 12 [some (.ref 16), some (pw_i b), some (pw_i e), some (pw_i z), some (pw_i wt), some (.ref 185), none] [.long w, pw_i 0, .ref 185] _
    refine pw_last I1 E (c := 169) (pc' := 13) rfl rfl rfl (by decide) (by decide) (by decide) rfl ?_
    intro I2 E2
    have E3 := ((E1.wk (W' := [17, 18, 22, 169]) (by first | rfl | decide)) : pw_E [17, 18, 22, 169] h h1).tr (E2.wk (W' := [17, 18, 22, 169]) (by first | rfl | decide))
    refine pw_goto E (pc' := 20) rfl (by decide) ?_
    refine pw_ld E (pc' := 21) (st' := [pw_i 0]) rfl (fun _ => rfl) ?_
    refine pw_iret E rfl ?_
    exact ⟨I2, E3, 0, rfl, by decide, by decide⟩
set_option maxHeartbeats 1000000 in
theorem cm_315 {X : List (Nat × List Value)} {d : Nat} {h : pm_H} (hd : 6 ≤ d) (I : pw_I h) (a0 : Int) (ha01 : (-2147483648) ≤ a0) (ha02 : a0 ≤ 2147483647) (a1 : Int) (ha11 : (-2147483648) ≤ a1) (ha12 : a1 ≤ 2147483647) (a2 : Int) (ha21 : (-2147483648) ≤ a2) (ha22 : a2 ≤ 2147483647) (a3 : Int) (ha31 : (-2147483648) ≤ a3) (ha32 : a3 ≤ 2147483647) : pw X d h 315 0 [some (.ref 16), some (pw_i a0), some (pw_i a1), some (pw_i a2), some (pw_i a3), some (.ref 185), none] [] (fun h' v => pw_I h' ∧ pw_E [17, 18, 22, 19, 169] h h' ∧ ∃ a : Int, v = .inl (some (pw_i a)) ∧ 0 ≤ a ∧ a ≤ 1) := by
  have E : pm_ent 315 = some (6, 7, 13, 0, pmc_315) := rfl
  refine pw_ld E (pc' := 2) (st' := [.ref 185]) rfl (fun _ => rfl) ?_
  refine pw_ld E (pc' := 3) (st' := [pw_i 0, .ref 185]) rfl (fun _ => rfl) ?_
  refine pw_ld E (pc' := 4) (st' := [.ref 16, pw_i 0, .ref 185]) rfl (fun _ => rfl) ?_
  refine pw_ld E (pc' := 5) (st' := [pw_i a0, .ref 16, pw_i 0, .ref 185]) rfl (fun _ => rfl) ?_
  refine pw_ld E (pc' := 6) (st' := [pw_i a1, pw_i a0, .ref 16, pw_i 0, .ref 185]) rfl (fun _ => rfl) ?_
  refine pw_ld E (pc' := 7) (st' := [pw_i a2, pw_i a1, pw_i a0, .ref 16, pw_i 0, .ref 185]) rfl (fun _ => rfl) ?_
  refine pw_ld E (pc' := 9) (st' := [pw_i a3, pw_i a2, pw_i a1, pw_i a0, .ref 16, pw_i 0, .ref 185]) rfl (fun _ => rfl) ?_
  obtain ⟨fl, fh, -⟩ := pw_obj (c := 0) I rfl
  refine pw_callH (m' := 178) (As := [.ref 16, pw_i a0, pw_i a1, pw_i a2, pw_i a3]) (rest := [pw_i 0, .ref 185]) (ls'' := [some (.ref 16), some (pw_i a0), some (pw_i a1), some (pw_i a2), some (pw_i a3), none]) (by omega) E rfl (fun _ => pw_iVh rfl rfl rfl rfl (pw_cellI fh rfl)) (rfl : pm_ent 178 = some (5, 6, 11, 2, pmc_178)) rfl rfl (cm_178 (by omega) I a0 (by omega) (by omega) a1 (by omega) (by omega) a2 (by omega) (by omega) a3 (by omega) (by omega)) ?_
  rintro h1 v1 ⟨I1, E1, rfl | ⟨w, rfl⟩⟩
  · exact Or.inl ⟨rfl, I1, (E1.wk (W' := [17, 18, 22, 19, 169]) (by first | rfl | decide)), 1, rfl, by decide, by decide⟩
  · refine Or.inr ⟨_, rfl, ?_⟩
    show pw X d h1 315 12 [some (.ref 16), some (pw_i a0), some (pw_i a1), some (pw_i a2), some (pw_i a3), some (.ref 185), none] [.long w, pw_i 0, .ref 185] _
    refine pw_last I1 E (c := 169) (pc' := 13) rfl rfl rfl (by decide) (by decide) (by decide) rfl ?_
    intro I2 E2
    have E3 := ((E1.wk (W' := [17, 18, 22, 19, 169]) (by first | rfl | decide)) : pw_E [17, 18, 22, 19, 169] h h1).tr (E2.wk (W' := [17, 18, 22, 19, 169]) (by first | rfl | decide))
    refine pw_goto E (pc' := 20) rfl (by decide) ?_
    refine pw_ld E (pc' := 21) (st' := [pw_i 0]) rfl (fun _ => rfl) ?_
    refine pw_iret E rfl ?_
    exact ⟨I2, E3, 0, rfl, by decide, by decide⟩
set_option maxHeartbeats 1000000 in
theorem cm_316 {X : List (Nat × List Value)} {d : Nat} {h : pm_H} (hd : 5 ≤ d) (I : pw_I h) (a0 : Int) (ha01 : (-2147483648) ≤ a0) (ha02 : a0 ≤ 2147483647) (a1 : Int) (ha11 : (-2147483648) ≤ a1) (ha12 : a1 ≤ 2147483647) (a2 : Int) (ha21 : (-2147483648) ≤ a2) (ha22 : a2 ≤ 2147483647) : pw X d h 316 0 [some (.ref 16), some (pw_i a0), some (pw_i a1), some (pw_i a2), some (.ref 185), none] [] (fun h' v => pw_I h' ∧ pw_E [17, 18, 22, 169] h h' ∧ ∃ a : Int, v = .inl (some (pw_i a)) ∧ 0 ≤ a ∧ a ≤ 1) := by
  have E : pm_ent 316 = some (5, 6, 13, 0, pmc_316) := rfl
  refine pw_ld E (pc' := 2) (st' := [.ref 185]) rfl (fun _ => rfl) ?_
  refine pw_ld E (pc' := 3) (st' := [pw_i 0, .ref 185]) rfl (fun _ => rfl) ?_
  refine pw_ld E (pc' := 4) (st' := [.ref 16, pw_i 0, .ref 185]) rfl (fun _ => rfl) ?_
  refine pw_ld E (pc' := 5) (st' := [pw_i a0, .ref 16, pw_i 0, .ref 185]) rfl (fun _ => rfl) ?_
  refine pw_ld E (pc' := 6) (st' := [pw_i a1, pw_i a0, .ref 16, pw_i 0, .ref 185]) rfl (fun _ => rfl) ?_
  refine pw_ld E (pc' := 7) (st' := [pw_i a2, pw_i a1, pw_i a0, .ref 16, pw_i 0, .ref 185]) rfl (fun _ => rfl) ?_
  obtain ⟨fl, fh, -⟩ := pw_obj (c := 0) I rfl
  refine pw_callH (m' := 179) (As := [.ref 16, pw_i a0, pw_i a1, pw_i a2]) (rest := [pw_i 0, .ref 185]) (ls'' := [some (.ref 16), some (pw_i a0), some (pw_i a1), some (pw_i a2), none]) (by omega) E rfl (fun _ => pw_iVh rfl rfl rfl rfl (pw_cellI fh rfl)) (rfl : pm_ent 179 = some (4, 5, 11, 2, pmc_179)) rfl rfl (cm_179 (by omega) I a0 (by omega) (by omega) a1 (by omega) (by omega) a2 (by omega) (by omega)) ?_
  rintro h1 v1 ⟨I1, E1, rfl | ⟨w, rfl⟩⟩
  · exact Or.inl ⟨rfl, I1, (E1.wk (W' := [17, 18, 22, 169]) (by first | rfl | decide)), 1, rfl, by decide, by decide⟩
  · refine Or.inr ⟨_, rfl, ?_⟩
    show pw X d h1 316 10 [some (.ref 16), some (pw_i a0), some (pw_i a1), some (pw_i a2), some (.ref 185), none] [.long w, pw_i 0, .ref 185] _
    refine pw_last I1 E (c := 169) (pc' := 11) rfl rfl rfl (by decide) (by decide) (by decide) rfl ?_
    intro I2 E2
    have E3 := ((E1.wk (W' := [17, 18, 22, 169]) (by first | rfl | decide)) : pw_E [17, 18, 22, 169] h h1).tr (E2.wk (W' := [17, 18, 22, 169]) (by first | rfl | decide))
    refine pw_goto E (pc' := 18) rfl (by decide) ?_
    refine pw_ld E (pc' := 19) (st' := [pw_i 0]) rfl (fun _ => rfl) ?_
    refine pw_iret E rfl ?_
    exact ⟨I2, E3, 0, rfl, by decide, by decide⟩
set_option maxHeartbeats 1000000 in
theorem cm_317 {X : List (Nat × List Value)} {d : Nat} {h : pm_H} (hd : 6 ≤ d) (I : pw_I h) (a0 : Int) (ha01 : (-2147483648) ≤ a0) (ha02 : a0 ≤ 2147483647) (a1 : Int) (ha11 : (-2147483648) ≤ a1) (ha12 : a1 ≤ 2147483647) (a2 : Int) (ha21 : (-2147483648) ≤ a2) (ha22 : a2 ≤ 2147483647) (a3 : Int) (ha31 : (-2147483648) ≤ a3) (ha32 : a3 ≤ 2147483647) : pw X d h 317 0 [some (.ref 16), some (pw_i a0), some (pw_i a1), some (pw_i a2), some (pw_i a3), some (.ref 185), none] [] (fun h' v => pw_I h' ∧ pw_E [17, 18, 22, 23, 169] h h' ∧ ∃ a : Int, v = .inl (some (pw_i a)) ∧ 0 ≤ a ∧ a ≤ 1) := by
  have E : pm_ent 317 = some (6, 7, 13, 0, pmc_317) := rfl
  refine pw_ld E (pc' := 2) (st' := [.ref 185]) rfl (fun _ => rfl) ?_
  refine pw_ld E (pc' := 3) (st' := [pw_i 0, .ref 185]) rfl (fun _ => rfl) ?_
  refine pw_ld E (pc' := 4) (st' := [.ref 16, pw_i 0, .ref 185]) rfl (fun _ => rfl) ?_
  refine pw_ld E (pc' := 5) (st' := [pw_i a0, .ref 16, pw_i 0, .ref 185]) rfl (fun _ => rfl) ?_
  refine pw_ld E (pc' := 6) (st' := [pw_i a1, pw_i a0, .ref 16, pw_i 0, .ref 185]) rfl (fun _ => rfl) ?_
  refine pw_ld E (pc' := 7) (st' := [pw_i a2, pw_i a1, pw_i a0, .ref 16, pw_i 0, .ref 185]) rfl (fun _ => rfl) ?_
  refine pw_ld E (pc' := 9) (st' := [pw_i a3, pw_i a2, pw_i a1, pw_i a0, .ref 16, pw_i 0, .ref 185]) rfl (fun _ => rfl) ?_
  obtain ⟨fl, fh, -⟩ := pw_obj (c := 0) I rfl
  refine pw_callH (m' := 180) (As := [.ref 16, pw_i a0, pw_i a1, pw_i a2, pw_i a3]) (rest := [pw_i 0, .ref 185]) (ls'' := [some (.ref 16), some (pw_i a0), some (pw_i a1), some (pw_i a2), some (pw_i a3)]) (by omega) E rfl (fun _ => pw_iVh rfl rfl rfl rfl (pw_cellI fh rfl)) (rfl : pm_ent 180 = some (5, 5, 11, 2, pmc_180)) rfl rfl (cm_180 (by omega) I a0 (by omega) (by omega) a1 (by omega) (by omega) a2 (by omega) (by omega) a3 (by omega) (by omega)) ?_
  rintro h1 v1 ⟨I1, E1, rfl | ⟨w, rfl⟩⟩
  · exact Or.inl ⟨rfl, I1, (E1.wk (W' := [17, 18, 22, 23, 169]) (by first | rfl | decide)), 1, rfl, by decide, by decide⟩
  · refine Or.inr ⟨_, rfl, ?_⟩
    show pw X d h1 317 12 [some (.ref 16), some (pw_i a0), some (pw_i a1), some (pw_i a2), some (pw_i a3), some (.ref 185), none] [.long w, pw_i 0, .ref 185] _
    refine pw_last I1 E (c := 169) (pc' := 13) rfl rfl rfl (by decide) (by decide) (by decide) rfl ?_
    intro I2 E2
    have E3 := ((E1.wk (W' := [17, 18, 22, 23, 169]) (by first | rfl | decide)) : pw_E [17, 18, 22, 23, 169] h h1).tr (E2.wk (W' := [17, 18, 22, 23, 169]) (by first | rfl | decide))
    refine pw_goto E (pc' := 20) rfl (by decide) ?_
    refine pw_ld E (pc' := 21) (st' := [pw_i 0]) rfl (fun _ => rfl) ?_
    refine pw_iret E rfl ?_
    exact ⟨I2, E3, 0, rfl, by decide, by decide⟩
set_option maxHeartbeats 1000000 in
theorem cm_318 {X : List (Nat × List Value)} {d : Nat} {h : pm_H} (hd : 4 ≤ d) (I : pw_I h) (z : Int) (hz1 : 0 ≤ z) (hz2 : z ≤ 1) (wt : Int) (hwt1 : (-2147483648) ≤ wt) (hwt2 : wt ≤ 2147483647) : pw X d h 318 0 [some (.ref 16), some (pw_i z), some (pw_i wt), some (.ref 185), none] [] (fun h' v => pw_I h' ∧ pw_E [22, 169] h h' ∧ ∃ a : Int, v = .inl (some (pw_i a)) ∧ 0 ≤ a ∧ a ≤ 1) := by
  have E : pm_ent 318 = some (4, 5, 13, 0, pmc_318) := rfl
  refine pw_ld E (pc' := 1) (st' := [.ref 185]) rfl (fun _ => rfl) ?_
  refine pw_ld E (pc' := 2) (st' := [pw_i 0, .ref 185]) rfl (fun _ => rfl) ?_
  refine pw_ld E (pc' := 3) (st' := [.ref 16, pw_i 0, .ref 185]) rfl (fun _ => rfl) ?_
  refine pw_ld E (pc' := 4) (st' := [pw_i z, .ref 16, pw_i 0, .ref 185]) rfl (fun _ => rfl) ?_
  refine pw_ld E (pc' := 5) (st' := [pw_i wt, pw_i z, .ref 16, pw_i 0, .ref 185]) rfl (fun _ => rfl) ?_
  obtain ⟨fl, fh, -⟩ := pw_obj (c := 0) I rfl
  refine pw_callH (m' := 181) (As := [.ref 16, pw_i z, pw_i wt]) (rest := [pw_i 0, .ref 185]) (ls'' := [some (.ref 16), some (pw_i z), some (pw_i wt)]) (by omega) E rfl (fun _ => pw_iVh rfl rfl rfl rfl (pw_cellI fh rfl)) (rfl : pm_ent 181 = some (3, 3, 11, 2, pmc_181)) rfl rfl (cm_181 (by omega) I z (by omega) (by omega) wt (by omega) (by omega)) ?_
  rintro h1 v1 ⟨I1, E1, rfl | ⟨w, rfl⟩⟩
  · exact Or.inl ⟨rfl, I1, (E1.wk (W' := [22, 169]) (by first | rfl | decide)), 1, rfl, by decide, by decide⟩
  · refine Or.inr ⟨_, rfl, ?_⟩
    show pw X d h1 318 8 [some (.ref 16), some (pw_i z), some (pw_i wt), some (.ref 185), none] [.long w, pw_i 0, .ref 185] _
    refine pw_last I1 E (c := 169) (pc' := 9) rfl rfl rfl (by decide) (by decide) (by decide) rfl ?_
    intro I2 E2
    have E3 := ((E1.wk (W' := [22, 169]) (by first | rfl | decide)) : pw_E [22, 169] h h1).tr (E2.wk (W' := [22, 169]) (by first | rfl | decide))
    refine pw_goto E (pc' := 16) rfl (by decide) ?_
    refine pw_ld E (pc' := 17) (st' := [pw_i 0]) rfl (fun _ => rfl) ?_
    refine pw_iret E rfl ?_
    exact ⟨I2, E3, 0, rfl, by decide, by decide⟩
set_option maxHeartbeats 1000000 in
theorem cm_319 {X : List (Nat × List Value)} {d : Nat} {h : pm_H} (hd : 7 ≤ d) (I : pw_I h) (wr : Int) (hwr1 : (-2147483648) ≤ wr) (hwr2 : wr ≤ 2147483647) (wt : Int) (hwt1 : (-2147483648) ≤ wt) (hwt2 : wt ≤ 2147483647) : pw X d h 319 0 [some (.ref 16), some (pw_i wr), some (pw_i wt), some (.ref 185), none] [] (fun h' v => pw_I h' ∧ pw_E [17, 18, 22, 95, 51, 65, 79, 93, 169] h h' ∧ ∃ a : Int, v = .inl (some (pw_i a)) ∧ 0 ≤ a ∧ a ≤ 1) := by
  have E : pm_ent 319 = some (4, 5, 13, 0, pmc_319) := rfl
  refine pw_ld E (pc' := 1) (st' := [.ref 185]) rfl (fun _ => rfl) ?_
  refine pw_ld E (pc' := 2) (st' := [pw_i 0, .ref 185]) rfl (fun _ => rfl) ?_
  refine pw_ld E (pc' := 3) (st' := [.ref 16, pw_i 0, .ref 185]) rfl (fun _ => rfl) ?_
  refine pw_ld E (pc' := 4) (st' := [pw_i wr, .ref 16, pw_i 0, .ref 185]) rfl (fun _ => rfl) ?_
  refine pw_ld E (pc' := 5) (st' := [pw_i wt, pw_i wr, .ref 16, pw_i 0, .ref 185]) rfl (fun _ => rfl) ?_
  obtain ⟨fl, fh, -⟩ := pw_obj (c := 0) I rfl
  refine pw_callH (m' := 182) (As := [.ref 16, pw_i wr, pw_i wt]) (rest := [pw_i 0, .ref 185]) (ls'' := [some (.ref 16), some (pw_i wr), some (pw_i wt), none]) (by omega) E rfl (fun _ => pw_iVh rfl rfl rfl rfl (pw_cellI fh rfl)) (rfl : pm_ent 182 = some (3, 4, 11, 2, pmc_182)) rfl rfl (cm_182 (by omega) I wr (by omega) (by omega) wt (by omega) (by omega)) ?_
  rintro h1 v1 ⟨I1, E1, rfl | ⟨w, rfl⟩⟩
  · exact Or.inl ⟨rfl, I1, (E1.wk (W' := [17, 18, 22, 95, 51, 65, 79, 93, 169]) (by first | rfl | decide)), 1, rfl, by decide, by decide⟩
  · refine Or.inr ⟨_, rfl, ?_⟩
    show pw X d h1 319 8 [some (.ref 16), some (pw_i wr), some (pw_i wt), some (.ref 185), none] [.long w, pw_i 0, .ref 185] _
    refine pw_last I1 E (c := 169) (pc' := 9) rfl rfl rfl (by decide) (by decide) (by decide) rfl ?_
    intro I2 E2
    have E3 := ((E1.wk (W' := [17, 18, 22, 95, 51, 65, 79, 93, 169]) (by first | rfl | decide)) : pw_E [17, 18, 22, 95, 51, 65, 79, 93, 169] h h1).tr (E2.wk (W' := [17, 18, 22, 95, 51, 65, 79, 93, 169]) (by first | rfl | decide))
    refine pw_goto E (pc' := 16) rfl (by decide) ?_
    refine pw_ld E (pc' := 17) (st' := [pw_i 0]) rfl (fun _ => rfl) ?_
    refine pw_iret E rfl ?_
    exact ⟨I2, E3, 0, rfl, by decide, by decide⟩
set_option maxHeartbeats 1000000 in
theorem cm_320 {X : List (Nat × List Value)} {d : Nat} {h : pm_H} (hd : 7 ≤ d) (I : pw_I h) (wt : Int) (hwt1 : (-2147483648) ≤ wt) (hwt2 : wt ≤ 2147483647) : pw X d h 320 0 [some (.ref 16), some (pw_i wt), some (.ref 185), none] [] (fun h' v => pw_I h' ∧ pw_E [17, 18, 22, 23, 95, 51, 65, 79, 93, 169] h h' ∧ ∃ a : Int, v = .inl (some (pw_i a)) ∧ 0 ≤ a ∧ a ≤ 1) := by
  have E : pm_ent 320 = some (3, 4, 13, 0, pmc_320) := rfl
  refine pw_ld E (pc' := 1) (st' := [.ref 185]) rfl (fun _ => rfl) ?_
  refine pw_ld E (pc' := 2) (st' := [pw_i 0, .ref 185]) rfl (fun _ => rfl) ?_
  refine pw_ld E (pc' := 3) (st' := [.ref 16, pw_i 0, .ref 185]) rfl (fun _ => rfl) ?_
  refine pw_ld E (pc' := 4) (st' := [pw_i wt, .ref 16, pw_i 0, .ref 185]) rfl (fun _ => rfl) ?_
  obtain ⟨fl, fh, -⟩ := pw_obj (c := 0) I rfl
  refine pw_callH (m' := 184) (As := [.ref 16, pw_i wt]) (rest := [pw_i 0, .ref 185]) (ls'' := [some (.ref 16), some (pw_i wt), none, none, none, none]) (by omega) E rfl (fun _ => pw_iVh rfl rfl rfl rfl (pw_cellI fh rfl)) (rfl : pm_ent 184 = some (2, 6, 11, 2, pmc_184)) rfl rfl (cm_184 (by omega) I wt (by omega) (by omega)) ?_
  rintro h1 v1 ⟨I1, E1, rfl | ⟨w, rfl⟩⟩
  · exact Or.inl ⟨rfl, I1, (E1.wk (W' := [17, 18, 22, 23, 95, 51, 65, 79, 93, 169]) (by first | rfl | decide)), 1, rfl, by decide, by decide⟩
  · refine Or.inr ⟨_, rfl, ?_⟩
    show pw X d h1 320 7 [some (.ref 16), some (pw_i wt), some (.ref 185), none] [.long w, pw_i 0, .ref 185] _
    refine pw_last I1 E (c := 169) (pc' := 8) rfl rfl rfl (by decide) (by decide) (by decide) rfl ?_
    intro I2 E2
    have E3 := ((E1.wk (W' := [17, 18, 22, 23, 95, 51, 65, 79, 93, 169]) (by first | rfl | decide)) : pw_E [17, 18, 22, 23, 95, 51, 65, 79, 93, 169] h h1).tr (E2.wk (W' := [17, 18, 22, 23, 95, 51, 65, 79, 93, 169]) (by first | rfl | decide))
    refine pw_goto E (pc' := 14) rfl (by decide) ?_
    refine pw_ld E (pc' := 15) (st' := [pw_i 0]) rfl (fun _ => rfl) ?_
    refine pw_iret E rfl ?_
    exact ⟨I2, E3, 0, rfl, by decide, by decide⟩
set_option maxHeartbeats 1000000 in
theorem cm_321 {X : List (Nat × List Value)} {d : Nat} {h : pm_H} (hd : 6 ≤ d) (I : pw_I h) (k : Int) (hk1 : (-2147483648) ≤ k) (hk2 : k ≤ 2147483647) (mo : Int) (hmo1 : (-2147483648) ≤ mo) (hmo2 : mo ≤ 2147483647) (wt : Int) (hwt1 : (-2147483648) ≤ wt) (hwt2 : wt ≤ 2147483647) : pw X d h 321 0 [some (.ref 16), some (pw_i k), some (pw_i mo), some (pw_i wt), some (.ref 185), none] [] (fun h' v => pw_I h' ∧ pw_E [169] h h' ∧ ∃ a : Int, v = .inl (some (pw_i a)) ∧ 0 ≤ a ∧ a ≤ 1) := by
  have E : pm_ent 321 = some (5, 6, 13, 0, pmc_321) := rfl
  refine pw_ld E (pc' := 2) (st' := [.ref 185]) rfl (fun _ => rfl) ?_
  refine pw_ld E (pc' := 3) (st' := [pw_i 0, .ref 185]) rfl (fun _ => rfl) ?_
  refine pw_ld E (pc' := 4) (st' := [.ref 16, pw_i 0, .ref 185]) rfl (fun _ => rfl) ?_
  refine pw_ld E (pc' := 5) (st' := [pw_i k, .ref 16, pw_i 0, .ref 185]) rfl (fun _ => rfl) ?_
  refine pw_ld E (pc' := 6) (st' := [pw_i mo, pw_i k, .ref 16, pw_i 0, .ref 185]) rfl (fun _ => rfl) ?_
  refine pw_ld E (pc' := 7) (st' := [pw_i wt, pw_i mo, pw_i k, .ref 16, pw_i 0, .ref 185]) rfl (fun _ => rfl) ?_
  obtain ⟨fl, fh, -⟩ := pw_obj (c := 0) I rfl
  refine pw_callH (m' := 187) (As := [.ref 16, pw_i k, pw_i mo, pw_i wt]) (rest := [pw_i 0, .ref 185]) (ls'' := [some (.ref 16), some (pw_i k), some (pw_i mo), some (pw_i wt)]) (by omega) E rfl (fun _ => pw_iVh rfl rfl rfl rfl (pw_cellI fh rfl)) (rfl : pm_ent 187 = some (4, 4, 11, 2, pmc_187)) rfl rfl (cm_187 (by omega) I k (by omega) (by omega) mo (by omega) (by omega) wt (by omega) (by omega)) ?_
  rintro h1 v1 ⟨rfl, rfl | ⟨w, rfl⟩⟩
  · exact Or.inl ⟨rfl, I, pw_E.rf _ _, 1, rfl, by decide, by decide⟩
  · refine Or.inr ⟨_, rfl, ?_⟩
    show pw X d h 321 10 [some (.ref 16), some (pw_i k), some (pw_i mo), some (pw_i wt), some (.ref 185), none] [.long w, pw_i 0, .ref 185] _
    refine pw_last I E (c := 169) (pc' := 11) rfl rfl rfl (by decide) (by decide) (by decide) rfl ?_
    intro I2 E2
    have E3 := (pw_E.rf _ _ : pw_E [169] h h).tr (E2.wk (W' := [169]) (by first | rfl | decide))
    refine pw_goto E (pc' := 18) rfl (by decide) ?_
    refine pw_ld E (pc' := 19) (st' := [pw_i 0]) rfl (fun _ => rfl) ?_
    refine pw_iret E rfl ?_
    exact ⟨I2, E3, 0, rfl, by decide, by decide⟩
set_option maxHeartbeats 1000000 in
theorem cm_322 {X : List (Nat × List Value)} {d : Nat} {h : pm_H} (hd : 7 ≤ d) (I : pw_I h) (bk : Int) (hbk1 : (-2147483648) ≤ bk) (hbk2 : bk ≤ 2147483647) (b : Int) (hb1 : (-2147483648) ≤ b) (hb2 : b ≤ 2147483647) (e : Int) (he1 : (-2147483648) ≤ e) (he2 : e ≤ 2147483647) (wt : Int) (hwt1 : (-2147483648) ≤ wt) (hwt2 : wt ≤ 2147483647) : pw X d h 322 0 [some (.ref 16), some (pw_i bk), some (pw_i b), some (pw_i e), some (pw_i wt), some (.ref 185), none] [] (fun h' v => pw_I h' ∧ pw_E [169] h h' ∧ ∃ a : Int, v = .inl (some (pw_i a)) ∧ 0 ≤ a ∧ a ≤ 1) := by
  have E : pm_ent 322 = some (6, 7, 13, 0, pmc_322) := rfl
  refine pw_ld E (pc' := 2) (st' := [.ref 185]) rfl (fun _ => rfl) ?_
  refine pw_ld E (pc' := 3) (st' := [pw_i 0, .ref 185]) rfl (fun _ => rfl) ?_
  refine pw_ld E (pc' := 4) (st' := [.ref 16, pw_i 0, .ref 185]) rfl (fun _ => rfl) ?_
  refine pw_ld E (pc' := 5) (st' := [pw_i bk, .ref 16, pw_i 0, .ref 185]) rfl (fun _ => rfl) ?_
  refine pw_ld E (pc' := 6) (st' := [pw_i b, pw_i bk, .ref 16, pw_i 0, .ref 185]) rfl (fun _ => rfl) ?_
  refine pw_ld E (pc' := 7) (st' := [pw_i e, pw_i b, pw_i bk, .ref 16, pw_i 0, .ref 185]) rfl (fun _ => rfl) ?_
  refine pw_ld E (pc' := 9) (st' := [pw_i wt, pw_i e, pw_i b, pw_i bk, .ref 16, pw_i 0, .ref 185]) rfl (fun _ => rfl) ?_
  obtain ⟨fl, fh, -⟩ := pw_obj (c := 0) I rfl
  refine pw_callH (m' := 193) (As := [.ref 16, pw_i bk, pw_i b, pw_i e, pw_i wt]) (rest := [pw_i 0, .ref 185]) (ls'' := [some (.ref 16), some (pw_i bk), some (pw_i b), some (pw_i e), some (pw_i wt), none, none, none]) (by omega) E rfl (fun _ => pw_iVh rfl rfl rfl rfl (pw_cellI fh rfl)) (rfl : pm_ent 193 = some (5, 8, 11, 2, pmc_193)) rfl rfl (cm_193 (by omega) I bk (by omega) (by omega) b (by omega) (by omega) e (by omega) (by omega) wt (by omega) (by omega)) ?_
  rintro h1 v1 ⟨rfl, rfl | ⟨w, rfl⟩⟩
  · exact Or.inl ⟨rfl, I, pw_E.rf _ _, 1, rfl, by decide, by decide⟩
  · refine Or.inr ⟨_, rfl, ?_⟩
    show pw X d h 322 12 [some (.ref 16), some (pw_i bk), some (pw_i b), some (pw_i e), some (pw_i wt), some (.ref 185), none] [.long w, pw_i 0, .ref 185] _
    refine pw_last I E (c := 169) (pc' := 13) rfl rfl rfl (by decide) (by decide) (by decide) rfl ?_
    intro I2 E2
    have E3 := (pw_E.rf _ _ : pw_E [169] h h).tr (E2.wk (W' := [169]) (by first | rfl | decide))
    refine pw_goto E (pc' := 20) rfl (by decide) ?_
    refine pw_ld E (pc' := 21) (st' := [pw_i 0]) rfl (fun _ => rfl) ?_
    refine pw_iret E rfl ?_
    exact ⟨I2, E3, 0, rfl, by decide, by decide⟩
set_option maxHeartbeats 1000000 in
theorem cm_323 {X : List (Nat × List Value)} {d : Nat} {h : pm_H} (hd : 6 ≤ d) (I : pw_I h) (a0 : Int) (ha01 : (-2147483648) ≤ a0) (ha02 : a0 ≤ 2147483647) (a1 : Int) (ha11 : (-2147483648) ≤ a1) (ha12 : a1 ≤ 2147483647) (a2 : Int) (ha21 : (-2147483648) ≤ a2) (ha22 : a2 ≤ 2147483647) : pw X d h 323 0 [some (.ref 16), some (pw_i a0), some (pw_i a1), some (pw_i a2), some (.ref 185), none] [] (fun h' v => pw_I h' ∧ pw_E [17, 18, 22, 169] h h' ∧ ∃ a : Int, v = .inl (some (pw_i a)) ∧ 0 ≤ a ∧ a ≤ 1) := by
  have E : pm_ent 323 = some (5, 6, 13, 0, pmc_323) := rfl
  refine pw_ld E (pc' := 2) (st' := [.ref 185]) rfl (fun _ => rfl) ?_
  refine pw_ld E (pc' := 3) (st' := [pw_i 0, .ref 185]) rfl (fun _ => rfl) ?_
  refine pw_ld E (pc' := 4) (st' := [.ref 16, pw_i 0, .ref 185]) rfl (fun _ => rfl) ?_
  refine pw_ld E (pc' := 5) (st' := [pw_i a0, .ref 16, pw_i 0, .ref 185]) rfl (fun _ => rfl) ?_
  refine pw_ld E (pc' := 6) (st' := [pw_i a1, pw_i a0, .ref 16, pw_i 0, .ref 185]) rfl (fun _ => rfl) ?_
  refine pw_ld E (pc' := 7) (st' := [pw_i a2, pw_i a1, pw_i a0, .ref 16, pw_i 0, .ref 185]) rfl (fun _ => rfl) ?_
  obtain ⟨fl, fh, -⟩ := pw_obj (c := 0) I rfl
  refine pw_callH (m' := 195) (As := [.ref 16, pw_i a0, pw_i a1, pw_i a2]) (rest := [pw_i 0, .ref 185]) (ls'' := [some (.ref 16), some (pw_i a0), some (pw_i a1), some (pw_i a2), none, none, none]) (by omega) E rfl (fun _ => pw_iVh rfl rfl rfl rfl (pw_cellI fh rfl)) (rfl : pm_ent 195 = some (4, 7, 11, 2, pmc_195)) rfl rfl (cm_195 (by omega) I a0 (by omega) (by omega) a1 (by omega) (by omega) a2 (by omega) (by omega)) ?_
  rintro h1 v1 ⟨I1, E1, rfl | ⟨w, rfl⟩⟩
  · exact Or.inl ⟨rfl, I1, (E1.wk (W' := [17, 18, 22, 169]) (by first | rfl | decide)), 1, rfl, by decide, by decide⟩
  · refine Or.inr ⟨_, rfl, ?_⟩
    show pw X d h1 323 10 [some (.ref 16), some (pw_i a0), some (pw_i a1), some (pw_i a2), some (.ref 185), none] [.long w, pw_i 0, .ref 185] _
    refine pw_last I1 E (c := 169) (pc' := 11) rfl rfl rfl (by decide) (by decide) (by decide) rfl ?_
    intro I2 E2
    have E3 := ((E1.wk (W' := [17, 18, 22, 169]) (by first | rfl | decide)) : pw_E [17, 18, 22, 169] h h1).tr (E2.wk (W' := [17, 18, 22, 169]) (by first | rfl | decide))
    refine pw_goto E (pc' := 18) rfl (by decide) ?_
    refine pw_ld E (pc' := 19) (st' := [pw_i 0]) rfl (fun _ => rfl) ?_
    refine pw_iret E rfl ?_
    exact ⟨I2, E3, 0, rfl, by decide, by decide⟩
end
