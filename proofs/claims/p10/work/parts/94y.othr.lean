/-! other rivers exactly (printed by wip/tool/mothr.py) -/
theorem pw_divB {a b : Int} (h1 : 0 ≤ a) (h2 : 0 < b) : 0 ≤ a / b ∧ a / b ≤ a := ⟨Int.ediv_nonneg h1 (by omega), Int.ediv_le_self _ h1⟩
/-- a sum over the other rivers, printed ones alone where z is 1 -/
def pw_os (f p : Nat → Int) (z : Int) : Nat → Int
  | 0 => 0
  | k + 1 => pw_os f p z k + (if p k ≠ 0 ∨ z = 0 then f k else 0)
theorem pw_osS {f p : Nat → Int} {z k : Int} (hk : 0 ≤ k) : ((p k.toNat ≠ 0 ∨ z = 0) → pw_os f p z (k + 1).toNat = pw_os f p z k.toNat + f k.toNat) ∧ (¬ (p k.toNat ≠ 0 ∨ z = 0) → pw_os f p z (k + 1).toNat = pw_os f p z k.toNat) := by
  rw [show (k + 1).toNat = k.toNat + 1 by omega]
  have e : pw_os f p z (k.toNat + 1) = pw_os f p z k.toNat + (if p k.toNat ≠ 0 ∨ z = 0 then f k.toNat else 0) := rfl
  rw [e]
  refine ⟨fun q => by rw [if_pos q], fun q => by rw [if_neg q]; omega⟩
theorem pw_os_cg {f p f' p' : Nat → Int} {z : Int} : ∀ n : Nat, (∀ k : Nat, k < n → f k = f' k ∧ p k = p' k) → pw_os f p z n = pw_os f' p' z n := by
  intro n
  induction n with
  | zero => intro _; rfl
  | succ n ih =>
    intro H
    obtain ⟨h1, h2⟩ := H n (Nat.lt_succ_self n)
    show pw_os f p z n + (if p n ≠ 0 ∨ z = 0 then f n else 0) = pw_os f' p' z n + (if p' n ≠ 0 ∨ z = 0 then f' n else 0)
    rw [ih (fun k hk => H k (Nat.lt_succ_of_lt hk)), h1, h2]
section Py
variable {X : List (Nat × List Value)} {d : Nat} {h : pm_H} {m pc pc' len na nl own rt : Nat} {C : pm_T (Instr × Nat)} {ls : pm_L} {r : List Value} {Q : pm_H → (Option Value ⊕ Unit) → Prop}
theorem pw_getLM {ix c ci k t a : Nat} {sps : List pw_F} {lo hi : Int} (I : pw_I h) (he : pm_ent m = some (na, nl, own, rt, C)) (hq : pm_get C pc = some (.getfield ix, len)) (hl : pm_get (pm_lnk own) ix = some (0, ci, k, t)) (hs : pw_T[c]? = some (.inr (ci, sps))) (hk : sps[k]? = some (1, lo, hi)) (ha : 16 + c = a) (hc : pc + len = pc') (H : pw X d h m pc' ls (.long (Int64.ofInt (pw_gm h c k)) :: r) Q) : pw X d h m pc ls (.ref a :: r) Q := by
  refine pw_getL I he hq hl hs hk ha hc ?_
  unfold pw_gm at H
  rw [Int64.ofInt_toInt] at H
  exact H
theorem pw_lnegC {a : Int} (he : pm_ent m = some (na, nl, own, rt, C)) (hq : pm_get C pc = some (.lneg, len)) (hc : pc + len = pc') (H : pw X d h m pc' ls (.long (Int64.ofInt (-a)) :: r) Q) : pw X d h m pc ls (.long (Int64.ofInt a) :: r) Q := by
  subst hc
  rw [Int64.ofInt_neg] at H
  refine pw_ld he hq (st' := .long (-Int64.ofInt a) :: r) (pc' := pc + len) (fun ih => ?_) H
  show pm_fn (pc + len) (fun q => ih d h m q ls (.long (-Int64.ofInt a) :: r)) = _
  rw [pm_fn_eq]
theorem pw_ldivE {a b : Int} (h1 : 0 ≤ a) (h2 : a ≤ 4611686018427387904) (h3 : 0 < b) (h4 : b ≤ 4611686018427387904) : Int64.ofInt a / Int64.ofInt b = Int64.ofInt (a / b) := by
  apply Int64.toInt_inj.mp
  rw [Int64.toInt_div_of_ne_left _ _ (fun e => by
    have := congrArg Int64.toInt e
    rw [pw_lToInt (by omega) (by omega)] at this
    have m : Int64.minValue.toInt = -9223372036854775808 := by decide
    omega), pw_lToInt (by omega) (by omega), pw_lToInt (by omega) (by omega)]
  have hb := pw_divB h1 h3
  rw [pw_lToInt (by omega) (by omega), Int.tdiv_eq_ediv_of_nonneg h1]
theorem pw_ldivC {a b : Int} (he : pm_ent m = some (na, nl, own, rt, C)) (hq : pm_get C pc = some (.ldiv, len)) (hc : pc + len = pc') (h1 : 0 ≤ a) (h2 : a ≤ 4611686018427387904) (h3 : 0 < b) (h4 : b ≤ 4611686018427387904) (H : pw X d h m pc' ls (.long (Int64.ofInt (a / b)) :: r) Q) : pw X d h m pc ls (.long (Int64.ofInt b) :: .long (Int64.ofInt a) :: r) Q := by
  rw [← pw_ldivE h1 h2 h3 h4] at H
  exact pw_ldivA he hq rfl hc (pw_l0 (by omega) (by omega) (by omega)) H
end Py

set_option maxHeartbeats 4000000 in
theorem cm_37_o {X : List (Nat × List Value)} {d : Nat} {h : pm_H} (hd : 2 ≤ d) (I : pw_I h) (su : Int) (hsu1 : (-9999) ≤ su) (hsu2 : su ≤ 9999) (n : Int) (hn1 : 1 ≤ n) (hn2 : n ≤ 999) (z : Int) (hz1 : 0 ≤ z) (hz2 : z ≤ 1) : pw X d h 37 0 [some (.ref 116), some (pw_i su), some (pw_i n), some (pw_i z)] [] (fun h' v => pw_I h' ∧ pw_E [100, 101, 102, 103] h h' ∧ ∃ a : Int, v = .inl (some (pw_i a)) ∧ (-1) ≤ a ∧ a ≤ 19 ∧ ((pw_g h 100 3 < 20 ∧ a = pw_g h 100 3 ∧ pw_g h' 100 3 = pw_g h 100 3 + 1 ∧ pw_up h h' 101 (pw_g h 100 3) (su) ∧ pw_up h h' 102 (pw_g h 100 3) (n) ∧ pw_up h h' 103 (pw_g h 100 3) (z)) ∨ (20 ≤ pw_g h 100 3 ∧ a = -1 ∧ pw_g h' 100 3 = pw_g h 100 3 ∧ pw_sm h h' 101 ∧ pw_sm h h' 102 ∧ pw_sm h h' 103))) := by
  have E : pm_ent 37 = some (4, 4, 4, 0, pmc_37) := rfl
  have E0 : pw_E [100, 101, 102, 103] h h := pw_E.rf _ _
  refine pw_ld E (pc' := 1) (st' := [.ref 116]) rfl (fun _ => rfl) ?_
  obtain ⟨f1l, f1h, -⟩ := pw_obj (c := 100) I rfl
  refine pw_call (m' := 36) (As := [.ref 116]) (rest := []) (ls'' := [some (.ref 116)]) (by omega) E rfl (fun _ => pw_iV rfl rfl rfl rfl (pw_cellI f1h rfl)) (rfl : pm_ent 36 = some (1, 1, 4, 1, pmc_36)) rfl rfl (cm_36 (by omega) I ) ?_
  rintro u3 v2 ⟨rfl, x4, rfl, hx4a, hx4b, hx4r⟩
  refine ⟨_, rfl, ?_⟩
  show pw X d h 37 4 [some (.ref 116), some (pw_i su), some (pw_i n), some (pw_i z)] [pw_i x4] _
  have hx4r : (x4 = 1 ∧ 20 ≤ pw_g h 100 3) ∨ (x4 = 0 ∧ pw_g h 100 3 < 20) := hx4r
  rcases (by omega : x4 = 1 ∨ x4 = 0) with hb5 | hb5
  · have hb5 : x4 = 1 := by omega
    refine pw_if E (pc' := 9) rfl (by decide) (by omega) (by omega) ?_ ?_
    · intro hc6
      have hc6 : x4 = (0 : Int) := hc6
      exfalso; omega
    · intro hc7
      have hc7 : ¬ (x4 = (0 : Int)) := hc7
      refine pw_ld E (pc' := 8) (st' := [pw_i ((-1))]) rfl (fun _ => rfl) ?_
      refine pw_iret E rfl ?_
      exact ⟨I, E0, ⟨_, rfl, by omega, by omega, Or.inr ⟨by omega, rfl, rfl, fun _ => rfl, fun _ => rfl, fun _ => rfl⟩⟩⟩
  · have hb8 : x4 = 0 := by omega
    refine pw_if E (pc' := 9) rfl (by decide) (by omega) (by omega) ?_ ?_
    · intro hc9
      have hc9 : x4 = (0 : Int) := hc9
      refine pw_ld E (pc' := 10) (st' := [.ref 116]) rfl (fun _ => rfl) ?_
      refine pw_getR (b := 117) I E (c := 100) (k := 0) (pc' := 13) rfl rfl rfl rfl rfl rfl rfl ?_
      refine pw_ld E (pc' := 14) (st' := [.ref 116, .ref 117]) rfl (fun _ => rfl) ?_
      refine pw_getI I E (c := 100) (k := 3) (pc' := 17) rfl rfl rfl rfl rfl rfl (fun hf10a hf10b hf10c hf10d => ?_)
      refine pw_ld E (pc' := 18) (st' := [pw_i su, pw_i (pw_g h 100 3), .ref 117]) rfl (fun _ => rfl) ?_
      refine pw_ast0 I E (c := 101) (pc' := 19) rfl rfl rfl (by decide) rfl (by decide) (by omega) (by omega) rfl (by omega) (by omega) (by omega) (by omega) rfl ?_
      intro h11I h11E
      generalize h11w : pw_w h 101 ((pw_g h 100 3).toNat) (pw_i su) = h11 at h11I h11E ⊢
      have h11F := E0.tr (h11E.wk (W' := [100, 101, 102, 103]) (by first | rfl | simp))
      refine pw_ld E (pc' := 20) (st' := [.ref 116]) rfl (fun _ => rfl) ?_
      refine pw_getR (b := 118) h11I E (c := 100) (k := 1) (pc' := 23) rfl rfl rfl rfl rfl rfl rfl ?_
      refine pw_ld E (pc' := 24) (st' := [.ref 116, .ref 118]) rfl (fun _ => rfl) ?_
      have he13 : pw_g h11 100 3 = pw_g h 100 3 := by rw [← h11w]; exact pw_g_ne (by omega)
      refine pw_getI h11I E (c := 100) (k := 3) (pc' := 27) rfl rfl rfl rfl rfl rfl (fun hf12a hf12b hf12c hf12d => ?_)
      refine pw_ld E (pc' := 28) (st' := [pw_i n, pw_i (pw_g h11 100 3), .ref 118]) rfl (fun _ => rfl) ?_
      refine pw_ast0 h11I E (c := 102) (pc' := 29) rfl rfl rfl (by decide) rfl (by decide) (by omega) (by omega) rfl (by omega) (by omega) (by omega) (by omega) rfl ?_
      intro h14I h14E
      generalize h14w : pw_w h11 102 ((pw_g h11 100 3).toNat) (pw_i n) = h14 at h14I h14E ⊢
      have h14F := h11F.tr (h14E.wk (W' := [100, 101, 102, 103]) (by first | rfl | simp))
      refine pw_ld E (pc' := 30) (st' := [.ref 116]) rfl (fun _ => rfl) ?_
      refine pw_getR (b := 119) h14I E (c := 100) (k := 2) (pc' := 33) rfl rfl rfl rfl rfl rfl rfl ?_
      refine pw_ld E (pc' := 34) (st' := [.ref 116, .ref 119]) rfl (fun _ => rfl) ?_
      have he16 : pw_g h14 100 3 = pw_g h11 100 3 := by rw [← h14w]; exact pw_g_ne (by omega)
      refine pw_getI h14I E (c := 100) (k := 3) (pc' := 37) rfl rfl rfl rfl rfl rfl (fun hf15a hf15b hf15c hf15d => ?_)
      refine pw_ld E (pc' := 38) (st' := [pw_i z, pw_i (pw_g h14 100 3), .ref 119]) rfl (fun _ => rfl) ?_
      refine pw_ast0 h14I E (c := 103) (pc' := 39) rfl rfl rfl (by decide) rfl (by decide) (by omega) (by omega) (pw_b1 (by omega) (by omega)) (by omega) (by omega) (by omega) (by omega) rfl ?_
      intro h17I h17E
      generalize h17w : pw_w h14 103 ((pw_g h14 100 3).toNat) (pw_i z) = h17 at h17I h17E ⊢
      have h17F := h14F.tr (h17E.wk (W' := [100, 101, 102, 103]) (by first | rfl | simp))
      refine pw_ld E (pc' := 40) (st' := [.ref 116]) rfl (fun _ => rfl) ?_
      refine pw_ld E (pc' := 41) (st' := [.ref 116, .ref 116]) rfl (fun _ => rfl) ?_
      have he19 : pw_g h17 100 3 = pw_g h14 100 3 := by rw [← h17w]; exact pw_g_ne (by omega)
      refine pw_getI h17I E (c := 100) (k := 3) (pc' := 44) rfl rfl rfl rfl rfl rfl (fun hf18a hf18b hf18c hf18d => ?_)
      refine pw_ld E (pc' := 45) (st' := [pw_i 1, pw_i (pw_g h17 100 3), .ref 116]) rfl (fun _ => rfl) ?_
      refine pw_add E (pc' := 46) rfl rfl ?_
      refine pw_putI h17I E (c := 100) (k := 3) (pc' := 49) rfl rfl rfl rfl (by omega) (by omega) (by omega) (by omega) rfl rfl ?_
      intro h20I h20E
      generalize h20w : pw_w h17 100 3 (pw_i ((pw_g h17 100 3) + 1)) = h20 at h20I h20E ⊢
      have h20F := h17F.tr (h20E.wk (W' := [100, 101, 102, 103]) (by first | rfl | simp))
      refine pw_ld E (pc' := 50) (st' := [.ref 116]) rfl (fun _ => rfl) ?_
      have he22 : pw_g h20 100 3 = (pw_g h17 100 3) + 1 := by rw [← h20w]; exact pw_g_eq (c := 100) (k := 3) h17I rfl rfl (by omega) (by omega)
      refine pw_getI h20I E (c := 100) (k := 3) (pc' := 53) rfl rfl rfl rfl rfl rfl (fun hf21a hf21b hf21c hf21d => ?_)
      refine pw_ld E (pc' := 54) (st' := [pw_i 1, pw_i (pw_g h20 100 3)]) rfl (fun _ => rfl) ?_
      refine pw_sub E (pc' := 55) rfl rfl ?_
      refine pw_iret E rfl ?_
      have hl24 : ∀ j : Nat, pw_g h20 101 j = pw_g h11 101 j := fun j => (((by rw [← h20w]; exact pw_g_ne (by omega) : pw_g h20 101 j = pw_g h17 101 j)).trans (by rw [← h17w]; exact pw_g_ne (by omega) : pw_g h17 101 j = pw_g h14 101 j)).trans (by rw [← h14w]; exact pw_g_ne (by omega) : pw_g h14 101 j = pw_g h11 101 j)
      have hl25 : ∀ j : Nat, pw_g h 101 j = pw_g h 101 j := fun j => rfl
      have hu23i : (pw_g h 100 3).toNat = (pw_g h 100 3).toNat := by omega
      have hu23a : pw_g h11 101 ((pw_g h 100 3).toNat) = su := by rw [← h11w]; exact pw_g_eqA I rfl (by omega) (by omega) (by omega)
      have hu23b : ∀ j : Nat, j ≠ (pw_g h 100 3).toNat → pw_g h11 101 j = pw_g h 101 j := fun j hj => by rw [← h11w]; exact pw_g_ne (fun q => hj q.2.symm)
      rw [hu23i] at hu23a hu23b
      have hl27 : ∀ j : Nat, pw_g h20 102 j = pw_g h14 102 j := fun j => ((by rw [← h20w]; exact pw_g_ne (by omega) : pw_g h20 102 j = pw_g h17 102 j)).trans (by rw [← h17w]; exact pw_g_ne (by omega) : pw_g h17 102 j = pw_g h14 102 j)
      have hl28 : ∀ j : Nat, pw_g h11 102 j = pw_g h 102 j := fun j => (by rw [← h11w]; exact pw_g_ne (by omega) : pw_g h11 102 j = pw_g h 102 j)
      have hu26i : (pw_g h11 100 3).toNat = (pw_g h 100 3).toNat := by omega
      have hu26a : pw_g h14 102 ((pw_g h11 100 3).toNat) = n := by rw [← h14w]; exact pw_g_eqA h11I rfl (by omega) (by omega) (by omega)
      have hu26b : ∀ j : Nat, j ≠ (pw_g h11 100 3).toNat → pw_g h14 102 j = pw_g h11 102 j := fun j hj => by rw [← h14w]; exact pw_g_ne (fun q => hj q.2.symm)
      rw [hu26i] at hu26a hu26b
      have hl30 : ∀ j : Nat, pw_g h20 103 j = pw_g h17 103 j := fun j => (by rw [← h20w]; exact pw_g_ne (by omega) : pw_g h20 103 j = pw_g h17 103 j)
      have hl31 : ∀ j : Nat, pw_g h14 103 j = pw_g h 103 j := fun j => ((by rw [← h14w]; exact pw_g_ne (by omega) : pw_g h14 103 j = pw_g h11 103 j)).trans (by rw [← h11w]; exact pw_g_ne (by omega) : pw_g h11 103 j = pw_g h 103 j)
      have hu29i : (pw_g h14 100 3).toNat = (pw_g h 100 3).toNat := by omega
      have hu29a : pw_g h17 103 ((pw_g h14 100 3).toNat) = z := by rw [← h17w]; exact pw_g_eqA h14I rfl (by omega) (by omega) (by omega)
      have hu29b : ∀ j : Nat, j ≠ (pw_g h14 100 3).toNat → pw_g h17 103 j = pw_g h14 103 j := fun j hj => by rw [← h17w]; exact pw_g_ne (fun q => hj q.2.symm)
      rw [hu29i] at hu29a hu29b
      exact ⟨h20I, h20F, ⟨_, rfl, by omega, by omega, Or.inl ⟨by omega, by omega, by omega, ⟨(hl24 _).trans hu23a, fun j hj => (hl24 j).trans ((hu23b j hj).trans (hl25 j))⟩, ⟨(hl27 _).trans hu26a, fun j hj => (hl27 j).trans ((hu26b j hj).trans (hl28 j))⟩, ⟨(hl30 _).trans hu29a, fun j hj => (hl30 j).trans ((hu29b j hj).trans (hl31 j))⟩⟩⟩⟩
    · intro hc32
      have hc32 : ¬ (x4 = (0 : Int)) := hc32
      exfalso; omega
set_option maxHeartbeats 4000000 in
theorem cm_151_o {X : List (Nat × List Value)} {d : Nat} {h : pm_H} (hd : 3 ≤ d) (I : pw_I h) (su : Int) (hsu1 : (-2147483648) ≤ su) (hsu2 : su ≤ 2147483647) (n : Int) (hn1 : (-2147483648) ≤ n) (hn2 : n ≤ 2147483647) (z : Int) (hz1 : 0 ≤ z) (hz2 : z ≤ 1) : pw X d h 151 0 [some (.ref 16), some (pw_i su), some (pw_i n), some (pw_i z)] [] (fun h' v => pw_I h' ∧ pw_E [100, 101, 102, 103] h h' ∧ ∃ a : Int, v = .inl (some (pw_i a)) ∧ (-2147483648) ≤ a ∧ a ≤ 2147483647 ∧ ((((-9999) ≤ su ∧ su ≤ 9999 ∧ 1 ≤ n ∧ n ≤ 999 ∧ pw_g h 100 3 < 20) ∧ a = pw_g h 100 3 ∧ pw_g h' 100 3 = pw_g h 100 3 + 1 ∧ pw_up h h' 101 (pw_g h 100 3) (su) ∧ pw_up h h' 102 (pw_g h 100 3) (n) ∧ pw_up h h' 103 (pw_g h 100 3) (z)) ∨ (¬ ((-9999) ≤ su ∧ su ≤ 9999 ∧ 1 ≤ n ∧ n ≤ 999 ∧ pw_g h 100 3 < 20) ∧ a = -1 ∧ pw_g h' 100 3 = pw_g h 100 3 ∧ pw_sm h h' 101 ∧ pw_sm h h' 102 ∧ pw_sm h h' 103))) := by
  have E : pm_ent 151 = some (4, 4, 11, 0, pmc_151) := rfl
  have E0 : pw_E [100, 101, 102, 103] h h := pw_E.rf _ _
  refine pw_ld E (pc' := 1) (st' := [pw_i su]) rfl (fun _ => rfl) ?_
  refine pw_sip E (pc' := 4) rfl rfl (by decide) ?_
  refine pw_sip E (pc' := 7) rfl rfl (by decide) ?_
  refine pw_call (m' := 121) (As := [pw_i su, pw_i ((-9999)), pw_i 9999]) (rest := []) (ls'' := [some (pw_i su), some (pw_i ((-9999))), some (pw_i 9999)]) (by omega) E rfl (fun _ => pw_iS rfl rfl rfl) (rfl : pm_ent 121 = some (3, 3, 11, 1, pmc_121)) rfl rfl (cm_121 (by omega) I (su) (by omega) (by omega) ((-9999)) (by omega) (by omega) (9999) (by omega) (by omega)) ?_
  rintro u2 v1 ⟨rfl, x3, rfl, hx3a, hx3b, hx3r⟩
  refine ⟨_, rfl, ?_⟩
  show pw X d h 151 10 [some (.ref 16), some (pw_i su), some (pw_i n), some (pw_i z)] [pw_i x3] _
  have hx3r : (x3 = 1 ∧ (-9999) ≤ su ∧ su ≤ 9999) ∨ (x3 = 0 ∧ ¬ ((-9999) ≤ su ∧ su ≤ 9999)) := hx3r
  rcases (by omega : x3 = 1 ∨ x3 = 0) with hb4 | hb4
  · have hb4 : x3 = 1 := by omega
    refine pw_if E (pc' := 34) rfl (by decide) (by omega) (by omega) ?_ ?_
    · intro hc5
      have hc5 : x3 = (0 : Int) := hc5
      exfalso; omega
    · intro hc6
      have hc6 : ¬ (x3 = (0 : Int)) := hc6
      refine pw_ld E (pc' := 14) (st' := [pw_i n]) rfl (fun _ => rfl) ?_
      refine pw_ld E (pc' := 15) (st' := [pw_i 1, pw_i n]) rfl (fun _ => rfl) ?_
      refine pw_sip E (pc' := 18) rfl rfl (by decide) ?_
      refine pw_call (m' := 121) (As := [pw_i n, pw_i 1, pw_i 999]) (rest := []) (ls'' := [some (pw_i n), some (pw_i 1), some (pw_i 999)]) (by omega) E rfl (fun _ => pw_iS rfl rfl rfl) (rfl : pm_ent 121 = some (3, 3, 11, 1, pmc_121)) rfl rfl (cm_121 (by omega) I (n) (by omega) (by omega) (1) (by omega) (by omega) (999) (by omega) (by omega)) ?_
      rintro u8 v7 ⟨rfl, x9, rfl, hx9a, hx9b, hx9r⟩
      refine ⟨_, rfl, ?_⟩
      show pw X d h 151 21 [some (.ref 16), some (pw_i su), some (pw_i n), some (pw_i z)] [pw_i x9] _
      have hx9r : (x9 = 1 ∧ 1 ≤ n ∧ n ≤ 999) ∨ (x9 = 0 ∧ ¬ (1 ≤ n ∧ n ≤ 999)) := hx9r
      rcases (by omega : x9 = 1 ∨ x9 = 0) with hb10 | hb10
      · have hb10 : x9 = 1 := by omega
        refine pw_if E (pc' := 34) rfl (by decide) (by omega) (by omega) ?_ ?_
        · intro hc11
          have hc11 : x9 = (0 : Int) := hc11
          exfalso; omega
        · intro hc12
          have hc12 : ¬ (x9 = (0 : Int)) := hc12
          refine pw_ld E (pc' := 25) (st' := [.ref 16]) rfl (fun _ => rfl) ?_
          refine pw_getR (b := 116) I E (c := 0) (k := 18) (pc' := 28) rfl rfl rfl rfl rfl rfl rfl ?_
          obtain ⟨f13l, f13h, -⟩ := pw_obj (c := 100) I rfl
          refine pw_call (m' := 36) (As := [.ref 116]) (rest := []) (ls'' := [some (.ref 116)]) (by omega) E rfl (fun _ => pw_iV rfl rfl rfl rfl (pw_cellI f13h rfl)) (rfl : pm_ent 36 = some (1, 1, 4, 1, pmc_36)) rfl rfl (cm_36 (by omega) I ) ?_
          rintro u15 v14 ⟨rfl, x16, rfl, hx16a, hx16b, hx16r⟩
          refine ⟨_, rfl, ?_⟩
          show pw X d h 151 31 [some (.ref 16), some (pw_i su), some (pw_i n), some (pw_i z)] [pw_i x16] _
          have hx16r : (x16 = 1 ∧ 20 ≤ pw_g h 100 3) ∨ (x16 = 0 ∧ pw_g h 100 3 < 20) := hx16r
          rcases (by omega : x16 = 1 ∨ x16 = 0) with hb17 | hb17
          · have hb17 : x16 = 1 := by omega
            refine pw_if E (pc' := 36) rfl (by decide) (by omega) (by omega) ?_ ?_
            · intro hc18
              have hc18 : x16 = (0 : Int) := hc18
              exfalso; omega
            · intro hc19
              have hc19 : ¬ (x16 = (0 : Int)) := hc19
              refine pw_ld E (pc' := 35) (st' := [pw_i ((-1))]) rfl (fun _ => rfl) ?_
              refine pw_iret E rfl ?_
              exact ⟨I, E0, ⟨_, rfl, by omega, by omega, Or.inr ⟨by omega, rfl, rfl, fun _ => rfl, fun _ => rfl, fun _ => rfl⟩⟩⟩
          · have hb20 : x16 = 0 := by omega
            refine pw_if E (pc' := 36) rfl (by decide) (by omega) (by omega) ?_ ?_
            · intro hc21
              have hc21 : x16 = (0 : Int) := hc21
              refine pw_ld E (pc' := 37) (st' := [.ref 16]) rfl (fun _ => rfl) ?_
              refine pw_getR (b := 116) I E (c := 0) (k := 18) (pc' := 40) rfl rfl rfl rfl rfl rfl rfl ?_
              refine pw_ld E (pc' := 41) (st' := [pw_i su, .ref 116]) rfl (fun _ => rfl) ?_
              refine pw_ld E (pc' := 42) (st' := [pw_i n, pw_i su, .ref 116]) rfl (fun _ => rfl) ?_
              refine pw_ld E (pc' := 43) (st' := [pw_i z, pw_i n, pw_i su, .ref 116]) rfl (fun _ => rfl) ?_
              obtain ⟨f22l, f22h, -⟩ := pw_obj (c := 100) I rfl
              refine pw_call (m' := 37) (As := [.ref 116, pw_i su, pw_i n, pw_i z]) (rest := []) (ls'' := [some (.ref 116), some (pw_i su), some (pw_i n), some (pw_i z)]) (by omega) E rfl (fun _ => pw_iV rfl rfl rfl rfl (pw_cellI f22h rfl)) (rfl : pm_ent 37 = some (4, 4, 4, 0, pmc_37)) rfl rfl (cm_37_o (by omega) I (su) (by omega) (by omega) (n) (by omega) (by omega) (z) (by omega) (by omega)) ?_
              rintro h23 v24 ⟨h23I, h23E, x25, rfl, hx25a, hx25b, hx25r⟩
              refine ⟨_, rfl, ?_⟩
              have h23F := E0.tr (h23E.wk (W' := [100, 101, 102, 103]) (by first | rfl | simp))
              show pw X d h23 151 46 [some (.ref 16), some (pw_i su), some (pw_i n), some (pw_i z)] [pw_i x25] _
              have hx25r : (pw_g h 100 3 < 20 ∧ x25 = pw_g h 100 3 ∧ pw_g h23 100 3 = pw_g h 100 3 + 1 ∧ pw_up h h23 101 (pw_g h 100 3) (su) ∧ pw_up h h23 102 (pw_g h 100 3) (n) ∧ pw_up h h23 103 (pw_g h 100 3) (z)) ∨ (20 ≤ pw_g h 100 3 ∧ x25 = -1 ∧ pw_g h23 100 3 = pw_g h 100 3 ∧ pw_sm h h23 101 ∧ pw_sm h h23 102 ∧ pw_sm h h23 103) := hx25r
              refine pw_iret E rfl ?_
              exact ⟨h23I, h23F, ⟨_, rfl, by omega, by omega, Or.inl ⟨by omega, (hx25r.resolve_right (fun e => by omega)).2⟩⟩⟩
            · intro hc26
              have hc26 : ¬ (x16 = (0 : Int)) := hc26
              exfalso; omega
      · have hb27 : x9 = 0 := by omega
        refine pw_if E (pc' := 34) rfl (by decide) (by omega) (by omega) ?_ ?_
        · intro hc28
          have hc28 : x9 = (0 : Int) := hc28
          refine pw_ld E (pc' := 35) (st' := [pw_i ((-1))]) rfl (fun _ => rfl) ?_
          refine pw_iret E rfl ?_
          exact ⟨I, E0, ⟨_, rfl, by omega, by omega, Or.inr ⟨by omega, rfl, rfl, fun _ => rfl, fun _ => rfl, fun _ => rfl⟩⟩⟩
        · intro hc29
          have hc29 : ¬ (x9 = (0 : Int)) := hc29
          exfalso; omega
  · have hb30 : x3 = 0 := by omega
    refine pw_if E (pc' := 34) rfl (by decide) (by omega) (by omega) ?_ ?_
    · intro hc31
      have hc31 : x3 = (0 : Int) := hc31
      refine pw_ld E (pc' := 35) (st' := [pw_i ((-1))]) rfl (fun _ => rfl) ?_
      refine pw_iret E rfl ?_
      exact ⟨I, E0, ⟨_, rfl, by omega, by omega, Or.inr ⟨by omega, rfl, rfl, fun _ => rfl, fun _ => rfl, fun _ => rfl⟩⟩⟩
    · intro hc32
      have hc32 : ¬ (x3 = (0 : Int)) := hc32
      exfalso; omega
set_option maxHeartbeats 4000000 in
theorem cm_273_o {X : List (Nat × List Value)} {d : Nat} {h : pm_H} (hd : 2 ≤ d) (I : pw_I h) (su : Int) (hsu1 : (-2147483648) ≤ su) (hsu2 : su ≤ 2147483647) (n : Int) (hn1 : (-2147483648) ≤ n) (hn2 : n ≤ 2147483647) (z : Int) (hz1 : 0 ≤ z) (hz2 : z ≤ 1) : pw X d h 273 0 [some (.ref 141), some (pw_i su), some (pw_i n), some (pw_i z)] [] (fun h' v => pw_I h' ∧ pw_E [125, 154, 155, 156, 1041] h h' ∧ ∃ a : Int, v = .inl (some (pw_i a)) ∧ (-2147483648) ≤ a ∧ a ≤ 2147483647 ∧ ((((-9999) ≤ su ∧ su ≤ 9999 ∧ 1 ≤ n ∧ n ≤ 999 ∧ pw_g h 125 41 < 20) ∧ a = pw_g h 125 41 ∧ pw_g h' 125 41 = pw_g h 125 41 + 1 ∧ pw_up h h' 154 (pw_g h 125 41) (su) ∧ pw_up h h' 155 (pw_g h 125 41) (n) ∧ pw_up h h' 156 (pw_g h 125 41) (z)) ∨ (¬ ((-9999) ≤ su ∧ su ≤ 9999 ∧ 1 ≤ n ∧ n ≤ 999 ∧ pw_g h 125 41 < 20) ∧ a = -1 ∧ pw_g h' 125 41 = pw_g h 125 41 ∧ pw_sm h h' 154 ∧ pw_sm h h' 155 ∧ pw_sm h h' 156))) := by
  have E : pm_ent 273 = some (4, 4, 12, 0, pmc_273) := rfl
  have E0 : pw_E [125, 154, 155, 156, 1041] h h := pw_E.rf _ _
  refine pw_ld E (pc' := 1) (st' := [.ref 141]) rfl (fun _ => rfl) ?_
  refine pw_ld E (pc' := 2) (st' := [pw_i 0, .ref 141]) rfl (fun _ => rfl) ?_
  refine pw_putI I E (c := 125) (k := 0) (pc' := 5) rfl rfl rfl rfl (by omega) (by omega) (by omega) (by omega) rfl rfl ?_
  intro h1I h1E
  generalize h1w : pw_w h 125 0 (pw_i 0) = h1 at h1I h1E ⊢
  have h1F := E0.tr (h1E.wk (W' := [125, 154, 155, 156, 1041]) (by first | rfl | simp))
  refine pw_ld E (pc' := 6) (st' := [pw_i su]) rfl (fun _ => rfl) ?_
  refine pw_sip E (pc' := 9) rfl rfl (by decide) ?_
  refine pw_sip E (pc' := 12) rfl rfl (by decide) ?_
  refine pw_call (m' := 202) (As := [pw_i su, pw_i ((-9999)), pw_i 9999]) (rest := []) (ls'' := [some (pw_i su), some (pw_i ((-9999))), some (pw_i 9999)]) (by omega) E rfl (fun _ => pw_iS rfl rfl rfl) (rfl : pm_ent 202 = some (3, 3, 12, 1, pmc_202)) rfl rfl (cm_202 (by omega) h1I (su) (by omega) (by omega) ((-9999)) (by omega) (by omega) (9999) (by omega) (by omega)) ?_
  rintro u3 v2 ⟨rfl, x4, rfl, hx4a, hx4b, hx4r⟩
  refine ⟨_, rfl, ?_⟩
  show pw X d h1 273 15 [some (.ref 141), some (pw_i su), some (pw_i n), some (pw_i z)] [pw_i x4] _
  have hx4r : (x4 = 1 ∧ (-9999) ≤ su ∧ su ≤ 9999) ∨ (x4 = 0 ∧ ¬ ((-9999) ≤ su ∧ su ≤ 9999)) := hx4r
  rcases (by omega : x4 = 1 ∨ x4 = 0) with hb5 | hb5
  · have hb5 : x4 = 1 := by omega
    refine pw_if E (pc' := 38) rfl (by decide) (by omega) (by omega) ?_ ?_
    · intro hc6
      have hc6 : x4 = (0 : Int) := hc6
      exfalso; omega
    · intro hc7
      have hc7 : ¬ (x4 = (0 : Int)) := hc7
      refine pw_ld E (pc' := 19) (st' := [pw_i n]) rfl (fun _ => rfl) ?_
      refine pw_ld E (pc' := 20) (st' := [pw_i 1, pw_i n]) rfl (fun _ => rfl) ?_
      refine pw_sip E (pc' := 23) rfl rfl (by decide) ?_
      refine pw_call (m' := 202) (As := [pw_i n, pw_i 1, pw_i 999]) (rest := []) (ls'' := [some (pw_i n), some (pw_i 1), some (pw_i 999)]) (by omega) E rfl (fun _ => pw_iS rfl rfl rfl) (rfl : pm_ent 202 = some (3, 3, 12, 1, pmc_202)) rfl rfl (cm_202 (by omega) h1I (n) (by omega) (by omega) (1) (by omega) (by omega) (999) (by omega) (by omega)) ?_
      rintro u9 v8 ⟨rfl, x10, rfl, hx10a, hx10b, hx10r⟩
      refine ⟨_, rfl, ?_⟩
      show pw X d h1 273 26 [some (.ref 141), some (pw_i su), some (pw_i n), some (pw_i z)] [pw_i x10] _
      have hx10r : (x10 = 1 ∧ 1 ≤ n ∧ n ≤ 999) ∨ (x10 = 0 ∧ ¬ (1 ≤ n ∧ n ≤ 999)) := hx10r
      rcases (by omega : x10 = 1 ∨ x10 = 0) with hb11 | hb11
      · have hb11 : x10 = 1 := by omega
        refine pw_if E (pc' := 38) rfl (by decide) (by omega) (by omega) ?_ ?_
        · intro hc12
          have hc12 : x10 = (0 : Int) := hc12
          exfalso; omega
        · intro hc13
          have hc13 : ¬ (x10 = (0 : Int)) := hc13
          refine pw_ld E (pc' := 30) (st' := [.ref 141]) rfl (fun _ => rfl) ?_
          have he15 : pw_g h1 125 41 = pw_g h 125 41 := by rw [← h1w]; exact pw_g_ne (by omega)
          refine pw_getI h1I E (c := 125) (k := 41) (pc' := 33) rfl rfl rfl rfl rfl rfl (fun hf14a hf14b hf14c hf14d => ?_)
          refine pw_bip E (pc' := 35) rfl rfl (by decide) ?_
          refine pw_if2 E (pc' := 40) rfl (by decide) (by omega) (by omega) (by decide) (by decide) ?_ ?_
          · intro hc16
            have hc16 : pw_g h1 125 41 ≠ (20 : Int) := hc16
            refine pw_ld E (pc' := 41) (st' := [.ref 141]) rfl (fun _ => rfl) ?_
            refine pw_getR (b := 170) h1I E (c := 125) (k := 42) (pc' := 44) rfl rfl rfl rfl rfl rfl rfl ?_
            refine pw_ld E (pc' := 45) (st' := [.ref 141, .ref 170]) rfl (fun _ => rfl) ?_
            refine pw_getI h1I E (c := 125) (k := 41) (pc' := 48) rfl rfl rfl rfl rfl rfl (fun hf17a hf17b hf17c hf17d => ?_)
            refine pw_ld E (pc' := 49) (st' := [pw_i su, pw_i (pw_g h1 125 41), .ref 170]) rfl (fun _ => rfl) ?_
            refine pw_ast0 h1I E (c := 154) (pc' := 50) rfl rfl rfl (by decide) rfl (by decide) (by omega) (by omega) rfl (by omega) (by omega) (by omega) (by omega) rfl ?_
            intro h18I h18E
            generalize h18w : pw_w h1 154 ((pw_g h1 125 41).toNat) (pw_i su) = h18 at h18I h18E ⊢
            have h18F := h1F.tr (h18E.wk (W' := [125, 154, 155, 156, 1041]) (by first | rfl | simp))
            refine pw_ld E (pc' := 51) (st' := [.ref 141]) rfl (fun _ => rfl) ?_
            refine pw_getR (b := 171) h18I E (c := 125) (k := 43) (pc' := 54) rfl rfl rfl rfl rfl rfl rfl ?_
            refine pw_ld E (pc' := 55) (st' := [.ref 141, .ref 171]) rfl (fun _ => rfl) ?_
            have he20 : pw_g h18 125 41 = pw_g h1 125 41 := by rw [← h18w]; exact pw_g_ne (by omega)
            refine pw_getI h18I E (c := 125) (k := 41) (pc' := 58) rfl rfl rfl rfl rfl rfl (fun hf19a hf19b hf19c hf19d => ?_)
            refine pw_ld E (pc' := 59) (st' := [pw_i n, pw_i (pw_g h18 125 41), .ref 171]) rfl (fun _ => rfl) ?_
            refine pw_ast0 h18I E (c := 155) (pc' := 60) rfl rfl rfl (by decide) rfl (by decide) (by omega) (by omega) rfl (by omega) (by omega) (by omega) (by omega) rfl ?_
            intro h21I h21E
            generalize h21w : pw_w h18 155 ((pw_g h18 125 41).toNat) (pw_i n) = h21 at h21I h21E ⊢
            have h21F := h18F.tr (h21E.wk (W' := [125, 154, 155, 156, 1041]) (by first | rfl | simp))
            refine pw_ld E (pc' := 61) (st' := [.ref 141]) rfl (fun _ => rfl) ?_
            refine pw_getR (b := 172) h21I E (c := 125) (k := 44) (pc' := 64) rfl rfl rfl rfl rfl rfl rfl ?_
            refine pw_ld E (pc' := 65) (st' := [.ref 141, .ref 172]) rfl (fun _ => rfl) ?_
            have he23 : pw_g h21 125 41 = pw_g h18 125 41 := by rw [← h21w]; exact pw_g_ne (by omega)
            refine pw_getI h21I E (c := 125) (k := 41) (pc' := 68) rfl rfl rfl rfl rfl rfl (fun hf22a hf22b hf22c hf22d => ?_)
            refine pw_ld E (pc' := 69) (st' := [pw_i z, pw_i (pw_g h21 125 41), .ref 172]) rfl (fun _ => rfl) ?_
            refine pw_ast0 h21I E (c := 156) (pc' := 70) rfl rfl rfl (by decide) rfl (by decide) (by omega) (by omega) (pw_b1 (by omega) (by omega)) (by omega) (by omega) (by omega) (by omega) rfl ?_
            intro h24I h24E
            generalize h24w : pw_w h21 156 ((pw_g h21 125 41).toNat) (pw_i z) = h24 at h24I h24E ⊢
            have h24F := h21F.tr (h24E.wk (W' := [125, 154, 155, 156, 1041]) (by first | rfl | simp))
            refine pw_ld E (pc' := 71) (st' := [.ref 141]) rfl (fun _ => rfl) ?_
            refine pw_ld E (pc' := 72) (st' := [.ref 141, .ref 141]) rfl (fun _ => rfl) ?_
            have he26 : pw_g h24 125 41 = pw_g h21 125 41 := by rw [← h24w]; exact pw_g_ne (by omega)
            refine pw_getI h24I E (c := 125) (k := 41) (pc' := 75) rfl rfl rfl rfl rfl rfl (fun hf25a hf25b hf25c hf25d => ?_)
            refine pw_ld E (pc' := 76) (st' := [pw_i 1, pw_i (pw_g h24 125 41), .ref 141]) rfl (fun _ => rfl) ?_
            refine pw_add E (pc' := 77) rfl rfl ?_
            refine pw_putP h24I E (k := 41) (pc' := 80) rfl rfl rfl rfl (by omega) (by omega) (by omega) (by omega) rfl rfl ?_
            intro h27I h27E
            generalize h27w : pw_w h24 125 41 (pw_i ((pw_g h24 125 41) + 1)) = h27 at h27I h27E ⊢
            have h27F := h24F.tr (h27E.wk (W' := [125, 154, 155, 156, 1041]) (by first | rfl | simp))
            refine pw_ld E (pc' := 81) (st' := [.ref 141]) rfl (fun _ => rfl) ?_
            have he29 : pw_g h27 125 41 = (pw_g h24 125 41) + 1 := by rw [← h27w]; exact pw_g_eq (c := 125) (k := 41) h24I rfl rfl (by omega) (by omega)
            refine pw_getI h27I E (c := 125) (k := 41) (pc' := 84) rfl rfl rfl rfl rfl rfl (fun hf28a hf28b hf28c hf28d => ?_)
            refine pw_ld E (pc' := 85) (st' := [pw_i 1, pw_i (pw_g h27 125 41)]) rfl (fun _ => rfl) ?_
            refine pw_sub E (pc' := 86) rfl rfl ?_
            refine pw_iret E rfl ?_
            have hl31 : ∀ j : Nat, pw_g h27 154 j = pw_g h18 154 j := fun j => (((by rw [← h27w]; exact pw_g_ne (by omega) : pw_g h27 154 j = pw_g h24 154 j)).trans (by rw [← h24w]; exact pw_g_ne (by omega) : pw_g h24 154 j = pw_g h21 154 j)).trans (by rw [← h21w]; exact pw_g_ne (by omega) : pw_g h21 154 j = pw_g h18 154 j)
            have hl32 : ∀ j : Nat, pw_g h1 154 j = pw_g h 154 j := fun j => (by rw [← h1w]; exact pw_g_ne (by omega) : pw_g h1 154 j = pw_g h 154 j)
            have hu30i : (pw_g h1 125 41).toNat = (pw_g h 125 41).toNat := by omega
            have hu30a : pw_g h18 154 ((pw_g h1 125 41).toNat) = su := by rw [← h18w]; exact pw_g_eqA h1I rfl (by omega) (by omega) (by omega)
            have hu30b : ∀ j : Nat, j ≠ (pw_g h1 125 41).toNat → pw_g h18 154 j = pw_g h1 154 j := fun j hj => by rw [← h18w]; exact pw_g_ne (fun q => hj q.2.symm)
            rw [hu30i] at hu30a hu30b
            have hl34 : ∀ j : Nat, pw_g h27 155 j = pw_g h21 155 j := fun j => ((by rw [← h27w]; exact pw_g_ne (by omega) : pw_g h27 155 j = pw_g h24 155 j)).trans (by rw [← h24w]; exact pw_g_ne (by omega) : pw_g h24 155 j = pw_g h21 155 j)
            have hl35 : ∀ j : Nat, pw_g h18 155 j = pw_g h 155 j := fun j => ((by rw [← h18w]; exact pw_g_ne (by omega) : pw_g h18 155 j = pw_g h1 155 j)).trans (by rw [← h1w]; exact pw_g_ne (by omega) : pw_g h1 155 j = pw_g h 155 j)
            have hu33i : (pw_g h18 125 41).toNat = (pw_g h 125 41).toNat := by omega
            have hu33a : pw_g h21 155 ((pw_g h18 125 41).toNat) = n := by rw [← h21w]; exact pw_g_eqA h18I rfl (by omega) (by omega) (by omega)
            have hu33b : ∀ j : Nat, j ≠ (pw_g h18 125 41).toNat → pw_g h21 155 j = pw_g h18 155 j := fun j hj => by rw [← h21w]; exact pw_g_ne (fun q => hj q.2.symm)
            rw [hu33i] at hu33a hu33b
            have hl37 : ∀ j : Nat, pw_g h27 156 j = pw_g h24 156 j := fun j => (by rw [← h27w]; exact pw_g_ne (by omega) : pw_g h27 156 j = pw_g h24 156 j)
            have hl38 : ∀ j : Nat, pw_g h21 156 j = pw_g h 156 j := fun j => (((by rw [← h21w]; exact pw_g_ne (by omega) : pw_g h21 156 j = pw_g h18 156 j)).trans (by rw [← h18w]; exact pw_g_ne (by omega) : pw_g h18 156 j = pw_g h1 156 j)).trans (by rw [← h1w]; exact pw_g_ne (by omega) : pw_g h1 156 j = pw_g h 156 j)
            have hu36i : (pw_g h21 125 41).toNat = (pw_g h 125 41).toNat := by omega
            have hu36a : pw_g h24 156 ((pw_g h21 125 41).toNat) = z := by rw [← h24w]; exact pw_g_eqA h21I rfl (by omega) (by omega) (by omega)
            have hu36b : ∀ j : Nat, j ≠ (pw_g h21 125 41).toNat → pw_g h24 156 j = pw_g h21 156 j := fun j hj => by rw [← h24w]; exact pw_g_ne (fun q => hj q.2.symm)
            rw [hu36i] at hu36a hu36b
            exact ⟨h27I, h27F, ⟨_, rfl, by omega, by omega, Or.inl ⟨by omega, by omega, by omega, ⟨(hl31 _).trans hu30a, fun j hj => (hl31 j).trans ((hu30b j hj).trans (hl32 j))⟩, ⟨(hl34 _).trans hu33a, fun j hj => (hl34 j).trans ((hu33b j hj).trans (hl35 j))⟩, ⟨(hl37 _).trans hu36a, fun j hj => (hl37 j).trans ((hu36b j hj).trans (hl38 j))⟩⟩⟩⟩
          · intro hc39
            have hc39 : ¬ (pw_g h1 125 41 ≠ (20 : Int)) := hc39
            refine pw_ld E (pc' := 39) (st' := [pw_i ((-1))]) rfl (fun _ => rfl) ?_
            refine pw_iret E rfl ?_
            have hl40 : ∀ j : Nat, pw_g h1 154 j = pw_g h 154 j := fun j => (by rw [← h1w]; exact pw_g_ne (by omega) : pw_g h1 154 j = pw_g h 154 j)
            have hl41 : ∀ j : Nat, pw_g h1 155 j = pw_g h 155 j := fun j => (by rw [← h1w]; exact pw_g_ne (by omega) : pw_g h1 155 j = pw_g h 155 j)
            have hl42 : ∀ j : Nat, pw_g h1 156 j = pw_g h 156 j := fun j => (by rw [← h1w]; exact pw_g_ne (by omega) : pw_g h1 156 j = pw_g h 156 j)
            exact ⟨h1I, h1F, ⟨_, rfl, by omega, by omega, Or.inr ⟨by omega, rfl, by omega, hl40, hl41, hl42⟩⟩⟩
      · have hb43 : x10 = 0 := by omega
        refine pw_if E (pc' := 38) rfl (by decide) (by omega) (by omega) ?_ ?_
        · intro hc44
          have hc44 : x10 = (0 : Int) := hc44
          refine pw_ld E (pc' := 39) (st' := [pw_i ((-1))]) rfl (fun _ => rfl) ?_
          refine pw_iret E rfl ?_
          have he45 : pw_g h1 125 41 = pw_g h 125 41 := by rw [← h1w]; exact pw_g_ne (by omega)
          have hl46 : ∀ j : Nat, pw_g h1 154 j = pw_g h 154 j := fun j => (by rw [← h1w]; exact pw_g_ne (by omega) : pw_g h1 154 j = pw_g h 154 j)
          have hl47 : ∀ j : Nat, pw_g h1 155 j = pw_g h 155 j := fun j => (by rw [← h1w]; exact pw_g_ne (by omega) : pw_g h1 155 j = pw_g h 155 j)
          have hl48 : ∀ j : Nat, pw_g h1 156 j = pw_g h 156 j := fun j => (by rw [← h1w]; exact pw_g_ne (by omega) : pw_g h1 156 j = pw_g h 156 j)
          exact ⟨h1I, h1F, ⟨_, rfl, by omega, by omega, Or.inr ⟨by omega, rfl, by omega, hl46, hl47, hl48⟩⟩⟩
        · intro hc49
          have hc49 : ¬ (x10 = (0 : Int)) := hc49
          exfalso; omega
  · have hb50 : x4 = 0 := by omega
    refine pw_if E (pc' := 38) rfl (by decide) (by omega) (by omega) ?_ ?_
    · intro hc51
      have hc51 : x4 = (0 : Int) := hc51
      refine pw_ld E (pc' := 39) (st' := [pw_i ((-1))]) rfl (fun _ => rfl) ?_
      refine pw_iret E rfl ?_
      have he52 : pw_g h1 125 41 = pw_g h 125 41 := by rw [← h1w]; exact pw_g_ne (by omega)
      have hl53 : ∀ j : Nat, pw_g h1 154 j = pw_g h 154 j := fun j => (by rw [← h1w]; exact pw_g_ne (by omega) : pw_g h1 154 j = pw_g h 154 j)
      have hl54 : ∀ j : Nat, pw_g h1 155 j = pw_g h 155 j := fun j => (by rw [← h1w]; exact pw_g_ne (by omega) : pw_g h1 155 j = pw_g h 155 j)
      have hl55 : ∀ j : Nat, pw_g h1 156 j = pw_g h 156 j := fun j => (by rw [← h1w]; exact pw_g_ne (by omega) : pw_g h1 156 j = pw_g h 156 j)
      exact ⟨h1I, h1F, ⟨_, rfl, by omega, by omega, Or.inr ⟨by omega, rfl, by omega, hl53, hl54, hl55⟩⟩⟩
    · intro hc56
      have hc56 : ¬ (x4 = (0 : Int)) := hc56
      exfalso; omega
set_option maxHeartbeats 4000000 in
theorem cm_38_o {X : List (Nat × List Value)} {d : Nat} {h : pm_H} (hd : 1 ≤ d) (I : pw_I h) (z : Int) (hz1 : 0 ≤ z) (hz2 : z ≤ 1) : pw X d h 38 0 [some (.ref 116), some (pw_i z), none, none] [] (fun h' v => h = h' ∧ ∃ a : Int, v = .inl (some (pw_i a)) ∧ 0 ≤ a ∧ a ≤ 19980 ∧ (a = pw_os (pw_g h 102) (pw_g h 103) z (pw_g h 100 3).toNat)) := by
  have E : pm_ent 38 = some (2, 4, 4, 0, pmc_38) := rfl
  have hcn0 := pw_gI (c := 100) (k := 3) I rfl rfl
  refine pw_ld E (pc' := 1) (st' := [pw_i 0]) rfl (fun _ => rfl) ?_
  refine pw_istn E (pc' := 2) (ls' := [some (.ref 116), some (pw_i z), some (pw_i 0), none]) rfl rfl rfl rfl ?_
  refine pw_ld E (pc' := 3) (st' := [pw_i 0]) rfl (fun _ => rfl) ?_
  refine pw_istn E (pc' := 4) (ls' := [some (.ref 116), some (pw_i z), some (pw_i 0), some (pw_i 0)]) rfl rfl rfl rfl ?_
  have L4 : ∀ (n4 : Nat) (k4_2 : Int) (k4_3 : Int), 0 ≤ k4_2 → k4_2 ≤ 19980 → 0 ≤ k4_3 → k4_3 ≤ 20 → k4_2 = pw_os (pw_g h 102) (pw_g h 103) z (k4_3).toNat → 0 * k4_3 ≤ k4_2 → k4_2 ≤ 999 * k4_3 → k4_3 ≤ pw_g h 100 3 → (20 - k4_3).toNat = n4 → pw X d h 38 4 [some (.ref 116), some (pw_i z), some (pw_i k4_2), some (pw_i k4_3)] [] (fun h' v => h = h' ∧ ∃ a : Int, v = .inl (some (pw_i a)) ∧ 0 ≤ a ∧ a ≤ 19980 ∧ (a = pw_os (pw_g h 102) (pw_g h 103) z (pw_g h 100 3).toNat)) := by
    intro n4
    induction n4 using Nat.strongRecOn with
    | ind n4 ih4 =>
      intro k4_2 k4_3 k4_2a k4_2b k4_3a k4_3b hx4_0 hx4_1 hx4_2 hx4_3 hm4
      refine pw_ld E (pc' := 5) (st' := [pw_i k4_3]) rfl (fun _ => rfl) ?_
      refine pw_ld E (pc' := 6) (st' := [.ref 116, pw_i k4_3]) rfl (fun _ => rfl) ?_
      refine pw_getI I E (c := 100) (k := 3) (pc' := 9) rfl rfl rfl rfl rfl rfl (fun hf1a hf1b hf1c hf1d => ?_)
      refine pw_if2 E (pc' := 44) rfl (by decide) (by omega) (by omega) (by omega) (by omega) ?_ ?_
      · intro hc2
        have hc2 : pw_g h 100 3 ≤ k4_3 := hc2
        refine pw_ld E (pc' := 45) (st' := [pw_i k4_2]) rfl (fun _ => rfl) ?_
        refine pw_iret E rfl ?_
        exact ⟨rfl, ⟨_, rfl, by omega, by omega, (by rw [show (pw_g h 100 3).toNat = (k4_3).toNat by omega]; exact hx4_0)⟩⟩
      · intro hc3
        have hc3 : ¬ (pw_g h 100 3 ≤ k4_3) := hc3
        have hos := pw_osS (f := pw_g h 102) (p := pw_g h 103) (z := z) (k := k4_3) (by omega)
        refine pw_ld E (pc' := 13) (st' := [pw_i k4_2]) rfl (fun _ => rfl) ?_
        refine pw_ld E (pc' := 14) (st' := [.ref 116, pw_i k4_2]) rfl (fun _ => rfl) ?_
        refine pw_getR (b := 119) I E (c := 100) (k := 2) (pc' := 17) rfl rfl rfl rfl rfl rfl rfl ?_
        refine pw_ld E (pc' := 18) (st' := [pw_i k4_3, .ref 119, pw_i k4_2]) rfl (fun _ => rfl) ?_
        refine pw_ald I E (c := 103) (pc' := 19) rfl rfl rfl (by decide) rfl (by decide) (by omega) (by omega) rfl (fun hf4a hf4b hf4c hf4d => ?_)
        refine pw_if E (pc' := 26) rfl (by decide) (by omega) (by omega) ?_ ?_
        · intro hc5
          have hc5 : pw_g h 103 (k4_3.toNat) ≠ (0 : Int) := hc5
          refine pw_ld E (pc' := 27) (st' := [.ref 116, pw_i k4_2]) rfl (fun _ => rfl) ?_
          refine pw_getR (b := 118) I E (c := 100) (k := 1) (pc' := 30) rfl rfl rfl rfl rfl rfl rfl ?_
          refine pw_ld E (pc' := 31) (st' := [pw_i k4_3, .ref 118, pw_i k4_2]) rfl (fun _ => rfl) ?_
          refine pw_ald I E (c := 102) (pc' := 32) rfl rfl rfl (by decide) rfl (by decide) (by omega) (by omega) rfl (fun hf6a hf6b hf6c hf6d => ?_)
          refine pw_goto E (pc' := 36) rfl (by decide) ?_
          refine pw_add E (pc' := 37) rfl rfl ?_
          refine pw_istn E (pc' := 38) (ls' := [some (.ref 116), some (pw_i z), some (pw_i (k4_2 + (pw_g h 102 (k4_3.toNat)))), some (pw_i k4_3)]) rfl rfl rfl rfl ?_
          refine pw_inc E (pc' := 41) (ls' := [some (.ref 116), some (pw_i z), some (pw_i (k4_2 + (pw_g h 102 (k4_3.toNat)))), some (pw_i (k4_3 + 1))]) rfl rfl rfl rfl ?_
          refine pw_goto E (pc' := 4) rfl (by decide) ?_
          exact ih4 _ (by omega) (k4_2 + (pw_g h 102 (k4_3.toNat))) (k4_3 + 1)  (by omega) (by omega) (by omega) (by omega) (by omega) (by omega) (by omega) (by omega) rfl
        · intro hc7
          have hc7 : ¬ (pw_g h 103 (k4_3.toNat) ≠ (0 : Int)) := hc7
          refine pw_ld E (pc' := 23) (st' := [pw_i z, pw_i k4_2]) rfl (fun _ => rfl) ?_
          refine pw_if E (pc' := 35) rfl (by decide) (by omega) (by omega) ?_ ?_
          · intro hc8
            have hc8 : z ≠ (0 : Int) := hc8
            refine pw_ld E (pc' := 36) (st' := [pw_i 0, pw_i k4_2]) rfl (fun _ => rfl) ?_
            refine pw_add E (pc' := 37) rfl rfl ?_
            refine pw_istn E (pc' := 38) (ls' := [some (.ref 116), some (pw_i z), some (pw_i (k4_2 + 0)), some (pw_i k4_3)]) rfl rfl rfl rfl ?_
            refine pw_inc E (pc' := 41) (ls' := [some (.ref 116), some (pw_i z), some (pw_i (k4_2 + 0)), some (pw_i (k4_3 + 1))]) rfl rfl rfl rfl ?_
            refine pw_goto E (pc' := 4) rfl (by decide) ?_
            exact ih4 _ (by omega) (k4_2 + 0) (k4_3 + 1)  (by omega) (by omega) (by omega) (by omega) (by omega) (by omega) (by omega) (by omega) rfl
          · intro hc9
            have hc9 : ¬ (z ≠ (0 : Int)) := hc9
            refine pw_ld E (pc' := 27) (st' := [.ref 116, pw_i k4_2]) rfl (fun _ => rfl) ?_
            refine pw_getR (b := 118) I E (c := 100) (k := 1) (pc' := 30) rfl rfl rfl rfl rfl rfl rfl ?_
            refine pw_ld E (pc' := 31) (st' := [pw_i k4_3, .ref 118, pw_i k4_2]) rfl (fun _ => rfl) ?_
            refine pw_ald I E (c := 102) (pc' := 32) rfl rfl rfl (by decide) rfl (by decide) (by omega) (by omega) rfl (fun hf10a hf10b hf10c hf10d => ?_)
            refine pw_goto E (pc' := 36) rfl (by decide) ?_
            refine pw_add E (pc' := 37) rfl rfl ?_
            refine pw_istn E (pc' := 38) (ls' := [some (.ref 116), some (pw_i z), some (pw_i (k4_2 + (pw_g h 102 (k4_3.toNat)))), some (pw_i k4_3)]) rfl rfl rfl rfl ?_
            refine pw_inc E (pc' := 41) (ls' := [some (.ref 116), some (pw_i z), some (pw_i (k4_2 + (pw_g h 102 (k4_3.toNat)))), some (pw_i (k4_3 + 1))]) rfl rfl rfl rfl ?_
            refine pw_goto E (pc' := 4) rfl (by decide) ?_
            exact ih4 _ (by omega) (k4_2 + (pw_g h 102 (k4_3.toNat))) (k4_3 + 1)  (by omega) (by omega) (by omega) (by omega) (by omega) (by omega) (by omega) (by omega) rfl
  exact L4 _ (0) (0)  (by omega) (by omega) (by omega) (by omega) rfl (by omega) (by omega) (by omega) rfl
set_option maxHeartbeats 4000000 in
theorem cm_39_o {X : List (Nat × List Value)} {d : Nat} {h : pm_H} (hd : 1 ≤ d) (I : pw_I h) (z : Int) (hz1 : 0 ≤ z) (hz2 : z ≤ 1) : pw X d h 39 0 [some (.ref 116), some (pw_i z), none, none] [] (fun h' v => h = h' ∧ ∃ a : Int, v = .inl (some (pw_i a)) ∧ (-199980) ≤ a ∧ a ≤ 199980 ∧ (a = pw_os (pw_g h 101) (pw_g h 103) z (pw_g h 100 3).toNat)) := by
  have E : pm_ent 39 = some (2, 4, 4, 0, pmc_39) := rfl
  have hcn0 := pw_gI (c := 100) (k := 3) I rfl rfl
  refine pw_ld E (pc' := 1) (st' := [pw_i 0]) rfl (fun _ => rfl) ?_
  refine pw_istn E (pc' := 2) (ls' := [some (.ref 116), some (pw_i z), some (pw_i 0), none]) rfl rfl rfl rfl ?_
  refine pw_ld E (pc' := 3) (st' := [pw_i 0]) rfl (fun _ => rfl) ?_
  refine pw_istn E (pc' := 4) (ls' := [some (.ref 116), some (pw_i z), some (pw_i 0), some (pw_i 0)]) rfl rfl rfl rfl ?_
  have L4 : ∀ (n4 : Nat) (k4_2 : Int) (k4_3 : Int), (-199980) ≤ k4_2 → k4_2 ≤ 199980 → 0 ≤ k4_3 → k4_3 ≤ 20 → k4_2 = pw_os (pw_g h 101) (pw_g h 103) z (k4_3).toNat → (-9999) * k4_3 ≤ k4_2 → k4_2 ≤ 9999 * k4_3 → k4_3 ≤ pw_g h 100 3 → (20 - k4_3).toNat = n4 → pw X d h 39 4 [some (.ref 116), some (pw_i z), some (pw_i k4_2), some (pw_i k4_3)] [] (fun h' v => h = h' ∧ ∃ a : Int, v = .inl (some (pw_i a)) ∧ (-199980) ≤ a ∧ a ≤ 199980 ∧ (a = pw_os (pw_g h 101) (pw_g h 103) z (pw_g h 100 3).toNat)) := by
    intro n4
    induction n4 using Nat.strongRecOn with
    | ind n4 ih4 =>
      intro k4_2 k4_3 k4_2a k4_2b k4_3a k4_3b hx4_0 hx4_1 hx4_2 hx4_3 hm4
      refine pw_ld E (pc' := 5) (st' := [pw_i k4_3]) rfl (fun _ => rfl) ?_
      refine pw_ld E (pc' := 6) (st' := [.ref 116, pw_i k4_3]) rfl (fun _ => rfl) ?_
      refine pw_getI I E (c := 100) (k := 3) (pc' := 9) rfl rfl rfl rfl rfl rfl (fun hf1a hf1b hf1c hf1d => ?_)
      refine pw_if2 E (pc' := 44) rfl (by decide) (by omega) (by omega) (by omega) (by omega) ?_ ?_
      · intro hc2
        have hc2 : pw_g h 100 3 ≤ k4_3 := hc2
        refine pw_ld E (pc' := 45) (st' := [pw_i k4_2]) rfl (fun _ => rfl) ?_
        refine pw_iret E rfl ?_
        exact ⟨rfl, ⟨_, rfl, by omega, by omega, (by rw [show (pw_g h 100 3).toNat = (k4_3).toNat by omega]; exact hx4_0)⟩⟩
      · intro hc3
        have hc3 : ¬ (pw_g h 100 3 ≤ k4_3) := hc3
        have hos := pw_osS (f := pw_g h 101) (p := pw_g h 103) (z := z) (k := k4_3) (by omega)
        refine pw_ld E (pc' := 13) (st' := [pw_i k4_2]) rfl (fun _ => rfl) ?_
        refine pw_ld E (pc' := 14) (st' := [.ref 116, pw_i k4_2]) rfl (fun _ => rfl) ?_
        refine pw_getR (b := 119) I E (c := 100) (k := 2) (pc' := 17) rfl rfl rfl rfl rfl rfl rfl ?_
        refine pw_ld E (pc' := 18) (st' := [pw_i k4_3, .ref 119, pw_i k4_2]) rfl (fun _ => rfl) ?_
        refine pw_ald I E (c := 103) (pc' := 19) rfl rfl rfl (by decide) rfl (by decide) (by omega) (by omega) rfl (fun hf4a hf4b hf4c hf4d => ?_)
        refine pw_if E (pc' := 26) rfl (by decide) (by omega) (by omega) ?_ ?_
        · intro hc5
          have hc5 : pw_g h 103 (k4_3.toNat) ≠ (0 : Int) := hc5
          refine pw_ld E (pc' := 27) (st' := [.ref 116, pw_i k4_2]) rfl (fun _ => rfl) ?_
          refine pw_getR (b := 117) I E (c := 100) (k := 0) (pc' := 30) rfl rfl rfl rfl rfl rfl rfl ?_
          refine pw_ld E (pc' := 31) (st' := [pw_i k4_3, .ref 117, pw_i k4_2]) rfl (fun _ => rfl) ?_
          refine pw_ald I E (c := 101) (pc' := 32) rfl rfl rfl (by decide) rfl (by decide) (by omega) (by omega) rfl (fun hf6a hf6b hf6c hf6d => ?_)
          refine pw_goto E (pc' := 36) rfl (by decide) ?_
          refine pw_add E (pc' := 37) rfl rfl ?_
          refine pw_istn E (pc' := 38) (ls' := [some (.ref 116), some (pw_i z), some (pw_i (k4_2 + (pw_g h 101 (k4_3.toNat)))), some (pw_i k4_3)]) rfl rfl rfl rfl ?_
          refine pw_inc E (pc' := 41) (ls' := [some (.ref 116), some (pw_i z), some (pw_i (k4_2 + (pw_g h 101 (k4_3.toNat)))), some (pw_i (k4_3 + 1))]) rfl rfl rfl rfl ?_
          refine pw_goto E (pc' := 4) rfl (by decide) ?_
          exact ih4 _ (by omega) (k4_2 + (pw_g h 101 (k4_3.toNat))) (k4_3 + 1)  (by omega) (by omega) (by omega) (by omega) (by omega) (by omega) (by omega) (by omega) rfl
        · intro hc7
          have hc7 : ¬ (pw_g h 103 (k4_3.toNat) ≠ (0 : Int)) := hc7
          refine pw_ld E (pc' := 23) (st' := [pw_i z, pw_i k4_2]) rfl (fun _ => rfl) ?_
          refine pw_if E (pc' := 35) rfl (by decide) (by omega) (by omega) ?_ ?_
          · intro hc8
            have hc8 : z ≠ (0 : Int) := hc8
            refine pw_ld E (pc' := 36) (st' := [pw_i 0, pw_i k4_2]) rfl (fun _ => rfl) ?_
            refine pw_add E (pc' := 37) rfl rfl ?_
            refine pw_istn E (pc' := 38) (ls' := [some (.ref 116), some (pw_i z), some (pw_i (k4_2 + 0)), some (pw_i k4_3)]) rfl rfl rfl rfl ?_
            refine pw_inc E (pc' := 41) (ls' := [some (.ref 116), some (pw_i z), some (pw_i (k4_2 + 0)), some (pw_i (k4_3 + 1))]) rfl rfl rfl rfl ?_
            refine pw_goto E (pc' := 4) rfl (by decide) ?_
            exact ih4 _ (by omega) (k4_2 + 0) (k4_3 + 1)  (by omega) (by omega) (by omega) (by omega) (by omega) (by omega) (by omega) (by omega) rfl
          · intro hc9
            have hc9 : ¬ (z ≠ (0 : Int)) := hc9
            refine pw_ld E (pc' := 27) (st' := [.ref 116, pw_i k4_2]) rfl (fun _ => rfl) ?_
            refine pw_getR (b := 117) I E (c := 100) (k := 0) (pc' := 30) rfl rfl rfl rfl rfl rfl rfl ?_
            refine pw_ld E (pc' := 31) (st' := [pw_i k4_3, .ref 117, pw_i k4_2]) rfl (fun _ => rfl) ?_
            refine pw_ald I E (c := 101) (pc' := 32) rfl rfl rfl (by decide) rfl (by decide) (by omega) (by omega) rfl (fun hf10a hf10b hf10c hf10d => ?_)
            refine pw_goto E (pc' := 36) rfl (by decide) ?_
            refine pw_add E (pc' := 37) rfl rfl ?_
            refine pw_istn E (pc' := 38) (ls' := [some (.ref 116), some (pw_i z), some (pw_i (k4_2 + (pw_g h 101 (k4_3.toNat)))), some (pw_i k4_3)]) rfl rfl rfl rfl ?_
            refine pw_inc E (pc' := 41) (ls' := [some (.ref 116), some (pw_i z), some (pw_i (k4_2 + (pw_g h 101 (k4_3.toNat)))), some (pw_i (k4_3 + 1))]) rfl rfl rfl rfl ?_
            refine pw_goto E (pc' := 4) rfl (by decide) ?_
            exact ih4 _ (by omega) (k4_2 + (pw_g h 101 (k4_3.toNat))) (k4_3 + 1)  (by omega) (by omega) (by omega) (by omega) (by omega) (by omega) (by omega) (by omega) rfl
  exact L4 _ (0) (0)  (by omega) (by omega) (by omega) (by omega) rfl (by omega) (by omega) (by omega) rfl
set_option maxHeartbeats 4000000 in
theorem cm_152_o {X : List (Nat × List Value)} {d : Nat} {h : pm_H} (hd : 2 ≤ d) (I : pw_I h) (n : Int) (hn1 : (-2147483648) ≤ n) (hn2 : n ≤ 2147483647) : pw X d h 152 0 [some (.ref 16), some (pw_i n), none] [] (fun h' v => h = h' ∧ ∃ a : Int, v = .inl (some (pw_i a)) ∧ (-2147483648) ≤ a ∧ a ≤ 2147483647 ∧ (((1 ≤ n ∧ n ≤ 999 ∧ pw_os (pw_g h 102) (pw_g h 103) 1 (pw_g h 100 3).toNat ≠ 0) ∧ a = (pw_ab (pw_os (pw_g h 101) (pw_g h 103) 1 (pw_g h 100 3).toNat) + n - 1) / n) ∨ (¬ (1 ≤ n ∧ n ≤ 999 ∧ pw_os (pw_g h 102) (pw_g h 103) 1 (pw_g h 100 3).toNat ≠ 0) ∧ a = -1))) := by
  have E : pm_ent 152 = some (2, 3, 11, 0, pmc_152) := rfl
  refine pw_ld E (pc' := 1) (st' := [pw_i n]) rfl (fun _ => rfl) ?_
  refine pw_ld E (pc' := 2) (st' := [pw_i 1, pw_i n]) rfl (fun _ => rfl) ?_
  refine pw_sip E (pc' := 5) rfl rfl (by decide) ?_
  refine pw_call (m' := 121) (As := [pw_i n, pw_i 1, pw_i 999]) (rest := []) (ls'' := [some (pw_i n), some (pw_i 1), some (pw_i 999)]) (by omega) E rfl (fun _ => pw_iS rfl rfl rfl) (rfl : pm_ent 121 = some (3, 3, 11, 1, pmc_121)) rfl rfl (cm_121 (by omega) I (n) (by omega) (by omega) (1) (by omega) (by omega) (999) (by omega) (by omega)) ?_
  rintro u2 v1 ⟨rfl, x3, rfl, hx3a, hx3b, hx3r⟩
  refine ⟨_, rfl, ?_⟩
  show pw X d h 152 8 [some (.ref 16), some (pw_i n), none] [pw_i x3] _
  have hx3r : (x3 = 1 ∧ 1 ≤ n ∧ n ≤ 999) ∨ (x3 = 0 ∧ ¬ (1 ≤ n ∧ n ≤ 999)) := hx3r
  rcases (by omega : x3 = 1 ∨ x3 = 0) with hb4 | hb4
  · have hb4 : x3 = 1 := by omega
    refine pw_if E (pc' := 22) rfl (by decide) (by omega) (by omega) ?_ ?_
    · intro hc5
      have hc5 : x3 = (0 : Int) := hc5
      exfalso; omega
    · intro hc6
      have hc6 : ¬ (x3 = (0 : Int)) := hc6
      refine pw_ld E (pc' := 12) (st' := [.ref 16]) rfl (fun _ => rfl) ?_
      refine pw_getR (b := 116) I E (c := 0) (k := 18) (pc' := 15) rfl rfl rfl rfl rfl rfl rfl ?_
      refine pw_ld E (pc' := 16) (st' := [pw_i 1, .ref 116]) rfl (fun _ => rfl) ?_
      obtain ⟨f7l, f7h, -⟩ := pw_obj (c := 100) I rfl
      refine pw_call (m' := 38) (As := [.ref 116, pw_i 1]) (rest := []) (ls'' := [some (.ref 116), some (pw_i 1), none, none]) (by omega) E rfl (fun _ => pw_iV rfl rfl rfl rfl (pw_cellI f7h rfl)) (rfl : pm_ent 38 = some (2, 4, 4, 0, pmc_38)) rfl rfl (cm_38_o (by omega) I (1) (by omega) (by omega)) ?_
      rintro u9 v8 ⟨rfl, x10, rfl, hx10a, hx10b, hx10r⟩
      refine ⟨_, rfl, ?_⟩
      show pw X d h 152 19 [some (.ref 16), some (pw_i n), none] [pw_i x10] _
      have hx10r : x10 = pw_os (pw_g h 102) (pw_g h 103) 1 (pw_g h 100 3).toNat := hx10r
      refine pw_if E (pc' := 24) rfl (by decide) (by omega) (by omega) ?_ ?_
      · intro hc11
        have hc11 : x10 ≠ (0 : Int) := hc11
        refine pw_ld E (pc' := 25) (st' := [.ref 16]) rfl (fun _ => rfl) ?_
        refine pw_getR (b := 116) I E (c := 0) (k := 18) (pc' := 28) rfl rfl rfl rfl rfl rfl rfl ?_
        refine pw_ld E (pc' := 29) (st' := [pw_i 1, .ref 116]) rfl (fun _ => rfl) ?_
        obtain ⟨f12l, f12h, -⟩ := pw_obj (c := 100) I rfl
        refine pw_call (m' := 39) (As := [.ref 116, pw_i 1]) (rest := []) (ls'' := [some (.ref 116), some (pw_i 1), none, none]) (by omega) E rfl (fun _ => pw_iV rfl rfl rfl rfl (pw_cellI f12h rfl)) (rfl : pm_ent 39 = some (2, 4, 4, 0, pmc_39)) rfl rfl (cm_39_o (by omega) I (1) (by omega) (by omega)) ?_
        rintro u14 v13 ⟨rfl, x15, rfl, hx15a, hx15b, hx15r⟩
        refine ⟨_, rfl, ?_⟩
        show pw X d h 152 32 [some (.ref 16), some (pw_i n), none] [pw_i x15] _
        have hx15r : x15 = pw_os (pw_g h 101) (pw_g h 103) 1 (pw_g h 100 3).toNat := hx15r
        refine pw_abs E rfl rfl rfl (fun x16 hx16a hx16b hx16c hx16d => ?_)
        refine pw_istn E (pc' := 36) (ls' := [some (.ref 16), some (pw_i n), some (pw_i x16)]) rfl rfl rfl rfl ?_
        have hfr : 0 ≤ x16 ∧ x16 ≤ 199980 := by omega
        refine pw_ld E (pc' := 37) (st' := [pw_i x16]) rfl (fun _ => rfl) ?_
        refine pw_ld E (pc' := 38) (st' := [pw_i n, pw_i x16]) rfl (fun _ => rfl) ?_
        refine pw_add E (pc' := 39) rfl rfl ?_
        refine pw_ld E (pc' := 40) (st' := [pw_i 1, pw_i (x16 + n)]) rfl (fun _ => rfl) ?_
        refine pw_sub E (pc' := 41) rfl rfl ?_
        refine pw_ld E (pc' := 42) (st' := [pw_i n, pw_i ((x16 + n) - 1)]) rfl (fun _ => rfl) ?_
        refine pw_div E (pc' := 43) rfl rfl (by omega) (by omega) (by omega) (by omega) ?_
        have hd17 := pw_divB (a := (x16 + n) - 1) (b := n) (by omega) (by omega)
        refine pw_iret E rfl ?_
        have hfa : x16 = pw_ab (pw_os (pw_g h 101) (pw_g h 103) 1 (pw_g h 100 3).toNat) := by unfold pw_ab; omega
        exact ⟨rfl, ⟨_, rfl, by omega, by omega, Or.inl ⟨by omega, by rw [← hfa]⟩⟩⟩
      · intro hc18
        have hc18 : ¬ (x10 ≠ (0 : Int)) := hc18
        refine pw_ld E (pc' := 23) (st' := [pw_i ((-1))]) rfl (fun _ => rfl) ?_
        refine pw_iret E rfl ?_
        exact ⟨rfl, ⟨_, rfl, by omega, by omega, Or.inr ⟨by omega, rfl⟩⟩⟩
  · have hb19 : x3 = 0 := by omega
    refine pw_if E (pc' := 22) rfl (by decide) (by omega) (by omega) ?_ ?_
    · intro hc20
      have hc20 : x3 = (0 : Int) := hc20
      refine pw_ld E (pc' := 23) (st' := [pw_i ((-1))]) rfl (fun _ => rfl) ?_
      refine pw_iret E rfl ?_
      exact ⟨rfl, ⟨_, rfl, by omega, by omega, Or.inr ⟨by omega, rfl⟩⟩⟩
    · intro hc21
      have hc21 : ¬ (x3 = (0 : Int)) := hc21
      exfalso; omega
set_option maxHeartbeats 4000000 in
theorem cm_275_o {X : List (Nat × List Value)} {d : Nat} {h : pm_H} (hd : 1 ≤ d) (I : pw_I h) (z : Int) (hz1 : 0 ≤ z) (hz2 : z ≤ 1) : pw X d h 275 0 [some (.ref 141), some (pw_i z), none] [] (fun h' v => pw_I h' ∧ pw_E [125] h h' ∧ ∃ a : Int, v = .inl (some (pw_i a)) ∧ 0 ≤ a ∧ a ≤ 1 ∧ (((a = 1 ∧ 0 < pw_os (pw_g h 155) (pw_g h 156) z (pw_g h 125 41).toNat) ∨ (a = 0 ∧ pw_os (pw_g h 155) (pw_g h 156) z (pw_g h 125 41).toNat ≤ 0)) ∧ pw_gm h' 125 24 = pw_os (pw_g h 154) (pw_g h 156) z (pw_g h 125 41).toNat ∧ pw_gm h' 125 25 = pw_os (pw_g h 155) (pw_g h 156) z (pw_g h 125 41).toNat ∧ (-199980) ≤ pw_gm h' 125 24 ∧ pw_gm h' 125 24 ≤ 199980 ∧ 0 ≤ pw_gm h' 125 25)) := by
  have E : pm_ent 275 = some (2, 3, 12, 1, pmc_275) := rfl
  have E0 : pw_E [125] h h := pw_E.rf _ _
  have hcn0 := pw_gI (c := 125) (k := 41) I rfl rfl
  refine pw_ld E (pc' := 1) (st' := [.ref 141]) rfl (fun _ => rfl) ?_
  refine pw_ld E (pc' := 2) (st' := [.long (Int64.ofInt 0), .ref 141]) rfl (fun _ => rfl) ?_
  refine pw_putL I E (c := 125) (k := 24) (pc' := 5) rfl rfl rfl rfl rfl rfl ?_
  intro h1I h1E
  generalize h1w : pw_w h 125 24 (.long (Int64.ofInt 0)) = h1 at h1I h1E ⊢
  have h1F := E0.tr (h1E.wk (W' := [125]) (by first | rfl | simp))
  refine pw_ld E (pc' := 6) (st' := [.ref 141]) rfl (fun _ => rfl) ?_
  refine pw_ld E (pc' := 7) (st' := [.long (Int64.ofInt 0), .ref 141]) rfl (fun _ => rfl) ?_
  refine pw_putM h1I E (c := 125) (k := 25) (pc' := 10) rfl rfl rfl rfl (by omega) (by omega) (by omega) (by omega) rfl rfl ?_
  intro h2I h2E
  generalize h2w : pw_w h1 125 25 (.long (Int64.ofInt 0)) = h2 at h2I h2E ⊢
  have h2F := h1F.tr (h2E.wk (W' := [125]) (by first | rfl | simp))
  refine pw_ld E (pc' := 11) (st' := [pw_i 0]) rfl (fun _ => rfl) ?_
  refine pw_istn E (pc' := 12) (ls' := [some (.ref 141), some (pw_i z), some (pw_i 0)]) rfl rfl rfl rfl ?_
  have L12 : ∀ (n12 : Nat) (k12_2 : Int) (gh12 : pm_H), pw_I gh12 → pw_E [125] h gh12 → 0 ≤ k12_2 → k12_2 ≤ 20 → pw_gm gh12 125 24 = pw_os (pw_g h 154) (pw_g h 156) z (k12_2).toNat → pw_gm gh12 125 25 = pw_os (pw_g h 155) (pw_g h 156) z (k12_2).toNat → (-9999) * k12_2 ≤ pw_gm gh12 125 24 → pw_gm gh12 125 24 ≤ 9999 * k12_2 → 0 ≤ pw_gm gh12 125 25 → pw_gm gh12 125 25 ≤ 999 * k12_2 → pw_g gh12 125 41 = pw_g h 125 41 → k12_2 ≤ pw_g h 125 41 → (20 - k12_2).toNat = n12 → pw X d gh12 275 12 [some (.ref 141), some (pw_i z), some (pw_i k12_2)] [] (fun h' v => pw_I h' ∧ pw_E [125] h h' ∧ ∃ a : Int, v = .inl (some (pw_i a)) ∧ 0 ≤ a ∧ a ≤ 1 ∧ (((a = 1 ∧ 0 < pw_os (pw_g h 155) (pw_g h 156) z (pw_g h 125 41).toNat) ∨ (a = 0 ∧ pw_os (pw_g h 155) (pw_g h 156) z (pw_g h 125 41).toNat ≤ 0)) ∧ pw_gm h' 125 24 = pw_os (pw_g h 154) (pw_g h 156) z (pw_g h 125 41).toNat ∧ pw_gm h' 125 25 = pw_os (pw_g h 155) (pw_g h 156) z (pw_g h 125 41).toNat ∧ (-199980) ≤ pw_gm h' 125 24 ∧ pw_gm h' 125 24 ≤ 199980 ∧ 0 ≤ pw_gm h' 125 25)) := by
    intro n12
    induction n12 using Nat.strongRecOn with
    | ind n12 ih12 =>
      intro k12_2 gh12 I12 E12 k12_2a k12_2b hx12_0 hx12_1 hx12_2 hx12_3 hx12_4 hx12_5 hx12_6 hx12_7 hm12
      refine pw_ld E (pc' := 13) (st' := [pw_i k12_2]) rfl (fun _ => rfl) ?_
      refine pw_ld E (pc' := 14) (st' := [.ref 141, pw_i k12_2]) rfl (fun _ => rfl) ?_
      refine pw_getI I12 E (c := 125) (k := 41) (pc' := 17) rfl rfl rfl rfl rfl rfl (fun hf3a hf3b hf3c hf3d => ?_)
      refine pw_if2 E (pc' := 71) rfl (by decide) (by omega) (by omega) (by omega) (by omega) ?_ ?_
      · intro hc4
        have hc4 : pw_g gh12 125 41 ≤ k12_2 := hc4
        have hcn : (k12_2).toNat = (pw_g h 125 41).toNat := by omega
        rw [hcn] at hx12_0 hx12_1
        refine pw_ld E (pc' := 72) (st' := [.ref 141]) rfl (fun _ => rfl) ?_
        refine pw_getM I12 E (c := 125) (k := 25) (pc' := 75) rfl rfl rfl rfl rfl rfl (fun hf5a hf5b => ?_)
        refine pw_ld E (pc' := 76) (st' := [.long (Int64.ofInt 0), .long (Int64.ofInt (pw_gm gh12 125 25))]) rfl (fun _ => rfl) ?_
        refine pw_lcmpC E (pc' := 77) rfl rfl (by omega) (by omega) (by omega) (by omega) (fun c6 hc6 => ?_)
        refine pw_if E (pc' := 84) rfl (by decide) (by omega) (by omega) ?_ ?_
        · intro hc7
          have hc7 : c6 ≤ (0 : Int) := hc7
          refine pw_ld E (pc' := 85) (st' := [pw_i 0]) rfl (fun _ => rfl) ?_
          refine pw_zret E rfl (by omega) ?_
          exact ⟨I12, E12, ⟨_, rfl, by omega, by omega, by omega⟩⟩
        · intro hc8
          have hc8 : ¬ (c6 ≤ (0 : Int)) := hc8
          refine pw_ld E (pc' := 81) (st' := [pw_i 1]) rfl (fun _ => rfl) ?_
          refine pw_goto E (pc' := 85) rfl (by decide) ?_
          refine pw_zret E rfl (by omega) ?_
          exact ⟨I12, E12, ⟨_, rfl, by omega, by omega, by omega⟩⟩
      · intro hc9
        have hc9 : ¬ (pw_g gh12 125 41 ≤ k12_2) := hc9
        have f1 := pw_Eg (c := 154) I E12 rfl rfl (k12_2).toNat
        have f2 := pw_Eg (c := 155) I E12 rfl rfl (k12_2).toNat
        have f3 := pw_Eg (c := 156) I E12 rfl rfl (k12_2).toNat
        have o1 := pw_osS (f := pw_g h 154) (p := pw_g h 156) (z := z) (k := k12_2) (by omega)
        have o2 := pw_osS (f := pw_g h 155) (p := pw_g h 156) (z := z) (k := k12_2) (by omega)
        refine pw_ld E (pc' := 21) (st' := [pw_i z]) rfl (fun _ => rfl) ?_
        refine pw_if E (pc' := 33) rfl (by decide) (by omega) (by omega) ?_ ?_
        · intro hc10
          have hc10 : z = (0 : Int) := hc10
          refine pw_ld E (pc' := 34) (st' := [.ref 141]) rfl (fun _ => rfl) ?_
          refine pw_ld E (pc' := 35) (st' := [.ref 141, .ref 141]) rfl (fun _ => rfl) ?_
          refine pw_getLM I12 E (c := 125) (k := 24) (pc' := 38) rfl rfl rfl rfl rfl rfl ?_
          refine pw_ld E (pc' := 39) (st' := [.ref 141, .long (Int64.ofInt (pw_gm gh12 125 24)), .ref 141]) rfl (fun _ => rfl) ?_
          refine pw_getR (b := 170) I12 E (c := 125) (k := 42) (pc' := 42) rfl rfl rfl rfl rfl rfl rfl ?_
          refine pw_ld E (pc' := 43) (st' := [pw_i k12_2, .ref 170, .long (Int64.ofInt (pw_gm gh12 125 24)), .ref 141]) rfl (fun _ => rfl) ?_
          refine pw_ald I12 E (c := 154) (pc' := 44) rfl rfl rfl (by decide) rfl (by decide) (by omega) (by omega) rfl (fun hf11a hf11b hf11c hf11d => ?_)
          refine pw_i2l E (pc' := 45) rfl rfl (by omega) (by omega) ?_
          refine pw_ladd E (pc' := 46) rfl rfl ?_
          refine pw_putL I12 E (c := 125) (k := 24) (pc' := 49) rfl rfl rfl rfl rfl rfl ?_
          intro h12I h12E
          generalize h12w : pw_w gh12 125 24 (.long (Int64.ofInt ((pw_gm gh12 125 24) + (pw_g gh12 154 (k12_2.toNat))))) = h12 at h12I h12E ⊢
          have h12F := E12.tr (h12E.wk (W' := [125]) (by first | rfl | simp))
          refine pw_ld E (pc' := 50) (st' := [.ref 141]) rfl (fun _ => rfl) ?_
          refine pw_ld E (pc' := 51) (st' := [.ref 141, .ref 141]) rfl (fun _ => rfl) ?_
          have he14 : pw_gm h12 125 25 = pw_gm gh12 125 25 := by rw [← h12w]; exact pw_gm_ne (by omega)
          refine pw_getM h12I E (c := 125) (k := 25) (pc' := 54) rfl rfl rfl rfl rfl rfl (fun hf13a hf13b => ?_)
          have f4 : pw_g h12 155 (k12_2).toNat = pw_g gh12 155 (k12_2).toNat := by rw [← h12w]; exact pw_g_ne (by omega)
          refine pw_ld E (pc' := 55) (st' := [.ref 141, .long (Int64.ofInt (pw_gm h12 125 25)), .ref 141]) rfl (fun _ => rfl) ?_
          refine pw_getR (b := 171) h12I E (c := 125) (k := 43) (pc' := 58) rfl rfl rfl rfl rfl rfl rfl ?_
          refine pw_ld E (pc' := 59) (st' := [pw_i k12_2, .ref 171, .long (Int64.ofInt (pw_gm h12 125 25)), .ref 141]) rfl (fun _ => rfl) ?_
          refine pw_ald h12I E (c := 155) (pc' := 60) rfl rfl rfl (by decide) rfl (by decide) (by omega) (by omega) rfl (fun hf15a hf15b hf15c hf15d => ?_)
          refine pw_i2l E (pc' := 61) rfl rfl (by omega) (by omega) ?_
          refine pw_ladd E (pc' := 62) rfl rfl ?_
          refine pw_putM h12I E (c := 125) (k := 25) (pc' := 65) rfl rfl rfl rfl (by omega) (by omega) (by omega) (by omega) rfl rfl ?_
          intro h16I h16E
          generalize h16w : pw_w h12 125 25 (.long (Int64.ofInt ((pw_gm h12 125 25) + (pw_g h12 155 (k12_2.toNat))))) = h16 at h16I h16E ⊢
          have h16F := h12F.tr (h16E.wk (W' := [125]) (by first | rfl | simp))
          refine pw_inc E (pc' := 68) (ls' := [some (.ref 141), some (pw_i z), some (pw_i (k12_2 + 1))]) rfl rfl rfl rfl ?_
          refine pw_goto E (pc' := 12) rfl (by decide) ?_
          have he17 : pw_gm h16 125 24 = pw_gm h12 125 24 := by rw [← h16w]; exact pw_gm_ne (by omega)
          have he18 : pw_gm h12 125 24 = (pw_gm gh12 125 24) + (pw_g gh12 154 (k12_2.toNat)) := by rw [← h12w]; exact pw_gm_eq (c := 125) (k := 24) I12 rfl rfl (by omega) (by omega)
          have he19 : pw_gm h16 125 25 = (pw_gm h12 125 25) + (pw_g h12 155 (k12_2.toNat)) := by rw [← h16w]; exact pw_gm_eq (c := 125) (k := 25) h12I rfl rfl (by omega) (by omega)
          have he20 : pw_g h16 125 41 = pw_g h12 125 41 := by rw [← h16w]; exact pw_g_ne (by omega)
          have he21 : pw_g h12 125 41 = pw_g gh12 125 41 := by rw [← h12w]; exact pw_g_ne (by omega)
          exact ih12 _ (by omega) (k12_2 + 1) h16 h16I h16F (by omega) (by omega) (by omega) (by omega) (by omega) (by omega) (by omega) (by omega) (by omega) (by omega) rfl
        · intro hc22
          have hc22 : ¬ (z = (0 : Int)) := hc22
          refine pw_ld E (pc' := 25) (st' := [.ref 141]) rfl (fun _ => rfl) ?_
          refine pw_getR (b := 172) I12 E (c := 125) (k := 44) (pc' := 28) rfl rfl rfl rfl rfl rfl rfl ?_
          refine pw_ld E (pc' := 29) (st' := [pw_i k12_2, .ref 172]) rfl (fun _ => rfl) ?_
          refine pw_ald I12 E (c := 156) (pc' := 30) rfl rfl rfl (by decide) rfl (by decide) (by omega) (by omega) rfl (fun hf23a hf23b hf23c hf23d => ?_)
          refine pw_if E (pc' := 65) rfl (by decide) (by omega) (by omega) ?_ ?_
          · intro hc24
            have hc24 : pw_g gh12 156 (k12_2.toNat) = (0 : Int) := hc24
            refine pw_inc E (pc' := 68) (ls' := [some (.ref 141), some (pw_i z), some (pw_i (k12_2 + 1))]) rfl rfl rfl rfl ?_
            refine pw_goto E (pc' := 12) rfl (by decide) ?_
            exact ih12 _ (by omega) (k12_2 + 1) gh12 I12 E12 (by omega) (by omega) (by omega) (by omega) (by omega) (by omega) (by omega) (by omega) (by omega) (by omega) rfl
          · intro hc25
            have hc25 : ¬ (pw_g gh12 156 (k12_2.toNat) = (0 : Int)) := hc25
            refine pw_ld E (pc' := 34) (st' := [.ref 141]) rfl (fun _ => rfl) ?_
            refine pw_ld E (pc' := 35) (st' := [.ref 141, .ref 141]) rfl (fun _ => rfl) ?_
            refine pw_getLM I12 E (c := 125) (k := 24) (pc' := 38) rfl rfl rfl rfl rfl rfl ?_
            refine pw_ld E (pc' := 39) (st' := [.ref 141, .long (Int64.ofInt (pw_gm gh12 125 24)), .ref 141]) rfl (fun _ => rfl) ?_
            refine pw_getR (b := 170) I12 E (c := 125) (k := 42) (pc' := 42) rfl rfl rfl rfl rfl rfl rfl ?_
            refine pw_ld E (pc' := 43) (st' := [pw_i k12_2, .ref 170, .long (Int64.ofInt (pw_gm gh12 125 24)), .ref 141]) rfl (fun _ => rfl) ?_
            refine pw_ald I12 E (c := 154) (pc' := 44) rfl rfl rfl (by decide) rfl (by decide) (by omega) (by omega) rfl (fun hf26a hf26b hf26c hf26d => ?_)
            refine pw_i2l E (pc' := 45) rfl rfl (by omega) (by omega) ?_
            refine pw_ladd E (pc' := 46) rfl rfl ?_
            refine pw_putL I12 E (c := 125) (k := 24) (pc' := 49) rfl rfl rfl rfl rfl rfl ?_
            intro h27I h27E
            generalize h27w : pw_w gh12 125 24 (.long (Int64.ofInt ((pw_gm gh12 125 24) + (pw_g gh12 154 (k12_2.toNat))))) = h27 at h27I h27E ⊢
            have h27F := E12.tr (h27E.wk (W' := [125]) (by first | rfl | simp))
            refine pw_ld E (pc' := 50) (st' := [.ref 141]) rfl (fun _ => rfl) ?_
            refine pw_ld E (pc' := 51) (st' := [.ref 141, .ref 141]) rfl (fun _ => rfl) ?_
            have he29 : pw_gm h27 125 25 = pw_gm gh12 125 25 := by rw [← h27w]; exact pw_gm_ne (by omega)
            refine pw_getM h27I E (c := 125) (k := 25) (pc' := 54) rfl rfl rfl rfl rfl rfl (fun hf28a hf28b => ?_)
            have f4 : pw_g h27 155 (k12_2).toNat = pw_g gh12 155 (k12_2).toNat := by rw [← h27w]; exact pw_g_ne (by omega)
            refine pw_ld E (pc' := 55) (st' := [.ref 141, .long (Int64.ofInt (pw_gm h27 125 25)), .ref 141]) rfl (fun _ => rfl) ?_
            refine pw_getR (b := 171) h27I E (c := 125) (k := 43) (pc' := 58) rfl rfl rfl rfl rfl rfl rfl ?_
            refine pw_ld E (pc' := 59) (st' := [pw_i k12_2, .ref 171, .long (Int64.ofInt (pw_gm h27 125 25)), .ref 141]) rfl (fun _ => rfl) ?_
            refine pw_ald h27I E (c := 155) (pc' := 60) rfl rfl rfl (by decide) rfl (by decide) (by omega) (by omega) rfl (fun hf30a hf30b hf30c hf30d => ?_)
            refine pw_i2l E (pc' := 61) rfl rfl (by omega) (by omega) ?_
            refine pw_ladd E (pc' := 62) rfl rfl ?_
            refine pw_putM h27I E (c := 125) (k := 25) (pc' := 65) rfl rfl rfl rfl (by omega) (by omega) (by omega) (by omega) rfl rfl ?_
            intro h31I h31E
            generalize h31w : pw_w h27 125 25 (.long (Int64.ofInt ((pw_gm h27 125 25) + (pw_g h27 155 (k12_2.toNat))))) = h31 at h31I h31E ⊢
            have h31F := h27F.tr (h31E.wk (W' := [125]) (by first | rfl | simp))
            refine pw_inc E (pc' := 68) (ls' := [some (.ref 141), some (pw_i z), some (pw_i (k12_2 + 1))]) rfl rfl rfl rfl ?_
            refine pw_goto E (pc' := 12) rfl (by decide) ?_
            have he32 : pw_gm h31 125 24 = pw_gm h27 125 24 := by rw [← h31w]; exact pw_gm_ne (by omega)
            have he33 : pw_gm h27 125 24 = (pw_gm gh12 125 24) + (pw_g gh12 154 (k12_2.toNat)) := by rw [← h27w]; exact pw_gm_eq (c := 125) (k := 24) I12 rfl rfl (by omega) (by omega)
            have he34 : pw_gm h31 125 25 = (pw_gm h27 125 25) + (pw_g h27 155 (k12_2.toNat)) := by rw [← h31w]; exact pw_gm_eq (c := 125) (k := 25) h27I rfl rfl (by omega) (by omega)
            have he35 : pw_g h31 125 41 = pw_g h27 125 41 := by rw [← h31w]; exact pw_g_ne (by omega)
            have he36 : pw_g h27 125 41 = pw_g gh12 125 41 := by rw [← h27w]; exact pw_g_ne (by omega)
            exact ih12 _ (by omega) (k12_2 + 1) h31 h31I h31F (by omega) (by omega) (by omega) (by omega) (by omega) (by omega) (by omega) (by omega) (by omega) (by omega) rfl
  have he37 : pw_gm h2 125 24 = pw_gm h1 125 24 := by rw [← h2w]; exact pw_gm_ne (by omega)
  have he38 : pw_gm h1 125 24 = 0 := by rw [← h1w]; exact pw_gm_eq (c := 125) (k := 24) I rfl rfl (by omega) (by omega)
  have he39 : pw_gm h2 125 25 = 0 := by rw [← h2w]; exact pw_gm_eq (c := 125) (k := 25) h1I rfl rfl (by omega) (by omega)
  have he40 : pw_g h2 125 41 = pw_g h1 125 41 := by rw [← h2w]; exact pw_g_ne (by omega)
  have he41 : pw_g h1 125 41 = pw_g h 125 41 := by rw [← h1w]; exact pw_g_ne (by omega)
  exact L12 _ (0) h2 h2I h2F (by omega) (by omega) (by show _ = (0 : Int); omega) (by show _ = (0 : Int); omega) (by omega) (by omega) (by omega) (by omega) (by omega) (by omega) rfl
set_option maxHeartbeats 4000000 in
theorem cm_276_o {X : List (Nat × List Value)} {d : Nat} {h : pm_H} (hd : 2 ≤ d) (I : pw_I h) (n : Int) (hn1 : (-2147483648) ≤ n) (hn2 : n ≤ 2147483647) : pw X d h 276 0 [some (.ref 141), some (pw_i n), none, none] [] (fun h' v => pw_I h' ∧ pw_E [125] h h' ∧ ∃ a : Int, v = .inl (some (pw_i a)) ∧ (-2147483648) ≤ a ∧ a ≤ 2147483647 ∧ (((1 ≤ n ∧ n ≤ 999 ∧ pw_os (pw_g h 155) (pw_g h 156) 1 (pw_g h 125 41).toNat ≠ 0) ∧ a = (pw_ab (pw_os (pw_g h 154) (pw_g h 156) 1 (pw_g h 125 41).toNat) + n - 1) / n) ∨ (¬ (1 ≤ n ∧ n ≤ 999 ∧ pw_os (pw_g h 155) (pw_g h 156) 1 (pw_g h 125 41).toNat ≠ 0) ∧ a = -1))) := by
  have E : pm_ent 276 = some (2, 4, 12, 0, pmc_276) := rfl
  have E0 : pw_E [125] h h := pw_E.rf _ _
  refine pw_ld E (pc' := 1) (st' := [.ref 141]) rfl (fun _ => rfl) ?_
  refine pw_ld E (pc' := 2) (st' := [pw_i 0, .ref 141]) rfl (fun _ => rfl) ?_
  refine pw_putI I E (c := 125) (k := 0) (pc' := 5) rfl rfl rfl rfl (by omega) (by omega) (by omega) (by omega) rfl rfl ?_
  intro h1I h1E
  generalize h1w : pw_w h 125 0 (pw_i 0) = h1 at h1I h1E ⊢
  have h1F := E0.tr (h1E.wk (W' := [125]) (by first | rfl | simp))
  have fe : ∀ c : Nat, c ≠ 125 → pw_g h1 c = pw_g h c := fun c hc => funext (fun j => by rw [← h1w]; exact pw_g_ne (fun q => hc q.1.symm))
  have fc : pw_g h1 125 41 = pw_g h 125 41 := by rw [← h1w]; exact pw_g_ne (by omega)
  refine pw_ld E (pc' := 6) (st' := [pw_i n]) rfl (fun _ => rfl) ?_
  refine pw_ld E (pc' := 7) (st' := [pw_i 1, pw_i n]) rfl (fun _ => rfl) ?_
  refine pw_sip E (pc' := 10) rfl rfl (by decide) ?_
  refine pw_call (m' := 202) (As := [pw_i n, pw_i 1, pw_i 999]) (rest := []) (ls'' := [some (pw_i n), some (pw_i 1), some (pw_i 999)]) (by omega) E rfl (fun _ => pw_iS rfl rfl rfl) (rfl : pm_ent 202 = some (3, 3, 12, 1, pmc_202)) rfl rfl (cm_202 (by omega) h1I (n) (by omega) (by omega) (1) (by omega) (by omega) (999) (by omega) (by omega)) ?_
  rintro u3 v2 ⟨rfl, x4, rfl, hx4a, hx4b, hx4r⟩
  refine ⟨_, rfl, ?_⟩
  show pw X d h1 276 13 [some (.ref 141), some (pw_i n), none, none] [pw_i x4] _
  have hx4r : (x4 = 1 ∧ 1 ≤ n ∧ n ≤ 999) ∨ (x4 = 0 ∧ ¬ (1 ≤ n ∧ n ≤ 999)) := hx4r
  rcases (by omega : x4 = 1 ∨ x4 = 0) with hb5 | hb5
  · have hb5 : x4 = 1 := by omega
    refine pw_if E (pc' := 24) rfl (by decide) (by omega) (by omega) ?_ ?_
    · intro hc6
      have hc6 : x4 = (0 : Int) := hc6
      exfalso; omega
    · intro hc7
      have hc7 : ¬ (x4 = (0 : Int)) := hc7
      refine pw_ld E (pc' := 17) (st' := [.ref 141]) rfl (fun _ => rfl) ?_
      refine pw_ld E (pc' := 18) (st' := [pw_i 1, .ref 141]) rfl (fun _ => rfl) ?_
      obtain ⟨f8l, f8h, -⟩ := pw_obj (c := 125) h1I rfl
      refine pw_call (m' := 275) (As := [.ref 141, pw_i 1]) (rest := []) (ls'' := [some (.ref 141), some (pw_i 1), none]) (by omega) E rfl (fun _ => pw_iV rfl rfl rfl rfl (pw_cellI f8h rfl)) (rfl : pm_ent 275 = some (2, 3, 12, 1, pmc_275)) rfl rfl (cm_275_o (by omega) h1I (1) (by omega) (by omega)) ?_
      rintro h9 v10 ⟨h9I, h9E, x11, rfl, hx11a, hx11b, hx11r⟩
      refine ⟨_, rfl, ?_⟩
      have h9F := h1F.tr (h9E.wk (W' := [125]) (by first | rfl | simp))
      show pw X d h9 276 21 [some (.ref 141), some (pw_i n), none, none] [pw_i x11] _
      have hx11r : ((x11 = 1 ∧ 0 < pw_os (pw_g h1 155) (pw_g h1 156) 1 (pw_g h1 125 41).toNat) ∨ (x11 = 0 ∧ pw_os (pw_g h1 155) (pw_g h1 156) 1 (pw_g h1 125 41).toNat ≤ 0)) ∧ pw_gm h9 125 24 = pw_os (pw_g h1 154) (pw_g h1 156) 1 (pw_g h1 125 41).toNat ∧ pw_gm h9 125 25 = pw_os (pw_g h1 155) (pw_g h1 156) 1 (pw_g h1 125 41).toNat ∧ (-199980) ≤ pw_gm h9 125 24 ∧ pw_gm h9 125 24 ≤ 199980 ∧ 0 ≤ pw_gm h9 125 25 := hx11r
      rcases (by omega : x11 = 1 ∨ x11 = 0) with hb12 | hb12
      · have hb12 : x11 = 1 := by omega
        rw [fe 154 (by decide), fe 155 (by decide), fe 156 (by decide), fc] at hx11r
        refine pw_if E (pc' := 26) rfl (by decide) (by omega) (by omega) ?_ ?_
        · intro hc13
          have hc13 : x11 ≠ (0 : Int) := hc13
          refine pw_ld E (pc' := 27) (st' := [.ref 141]) rfl (fun _ => rfl) ?_
          refine pw_getLM h9I E (c := 125) (k := 24) (pc' := 30) rfl rfl rfl rfl rfl rfl ?_
          refine pw_ld E (pc' := 31) (st' := [.long (Int64.ofInt 0), .long (Int64.ofInt (pw_gm h9 125 24))]) rfl (fun _ => rfl) ?_
          refine pw_lcmpC E (pc' := 32) rfl rfl (by omega) (by omega) (by omega) (by omega) (fun c14 hc14 => ?_)
          refine pw_if E (pc' := 43) rfl (by decide) (by omega) (by omega) ?_ ?_
          · intro hc15
            have hc15 : (0 : Int) ≤ c14 := hc15
            refine pw_ld E (pc' := 44) (st' := [.ref 141]) rfl (fun _ => rfl) ?_
            refine pw_getLM h9I E (c := 125) (k := 24) (pc' := 47) rfl rfl rfl rfl rfl rfl ?_
            refine pw_lstn E (pc' := 48) (ls' := [some (.ref 141), some (pw_i n), some (.long (Int64.ofInt (pw_gm h9 125 24))), none]) rfl rfl rfl rfl ?_
            refine pw_ld E (pc' := 49) (st' := [.long (Int64.ofInt (pw_gm h9 125 24))]) rfl (fun _ => rfl) ?_
            refine pw_ld E (pc' := 50) (st' := [pw_i n, .long (Int64.ofInt (pw_gm h9 125 24))]) rfl (fun _ => rfl) ?_
            refine pw_i2l E (pc' := 51) rfl rfl (by omega) (by omega) ?_
            refine pw_ladd E (pc' := 52) rfl rfl ?_
            refine pw_ld E (pc' := 53) (st' := [.long (Int64.ofInt 1), .long (Int64.ofInt ((pw_gm h9 125 24) + n))]) rfl (fun _ => rfl) ?_
            refine pw_lsub E (pc' := 54) rfl rfl ?_
            refine pw_ld E (pc' := 55) (st' := [pw_i n, .long (Int64.ofInt (((pw_gm h9 125 24) + n) - 1))]) rfl (fun _ => rfl) ?_
            refine pw_i2l E (pc' := 56) rfl rfl (by omega) (by omega) ?_
            refine pw_ldivC E (pc' := 57) rfl rfl (by omega) (by omega) (by omega) (by omega) ?_
            have hd16 := pw_divB (a := ((pw_gm h9 125 24) + n) - 1) (b := n) (by omega) (by omega)
            refine pw_l2iC E (pc' := 58) rfl rfl ?_
            refine pw_iret E rfl ?_
            have hfa : pw_gm h9 125 24 = pw_ab (pw_os (pw_g h 154) (pw_g h 156) 1 (pw_g h 125 41).toNat) := by unfold pw_ab; omega
            exact ⟨h9I, h9F, ⟨_, rfl, by omega, by omega, Or.inl ⟨by omega, by rw [← hfa]⟩⟩⟩
          · intro hc17
            have hc17 : ¬ ((0 : Int) ≤ c14) := hc17
            refine pw_ld E (pc' := 36) (st' := [.ref 141]) rfl (fun _ => rfl) ?_
            refine pw_getLM h9I E (c := 125) (k := 24) (pc' := 39) rfl rfl rfl rfl rfl rfl ?_
            refine pw_lnegC E (pc' := 40) rfl rfl ?_
            refine pw_goto E (pc' := 47) rfl (by decide) ?_
            refine pw_lstn E (pc' := 48) (ls' := [some (.ref 141), some (pw_i n), some (.long (Int64.ofInt (-(pw_gm h9 125 24)))), none]) rfl rfl rfl rfl ?_
            refine pw_ld E (pc' := 49) (st' := [.long (Int64.ofInt (-(pw_gm h9 125 24)))]) rfl (fun _ => rfl) ?_
            refine pw_ld E (pc' := 50) (st' := [pw_i n, .long (Int64.ofInt (-(pw_gm h9 125 24)))]) rfl (fun _ => rfl) ?_
            refine pw_i2l E (pc' := 51) rfl rfl (by omega) (by omega) ?_
            refine pw_ladd E (pc' := 52) rfl rfl ?_
            refine pw_ld E (pc' := 53) (st' := [.long (Int64.ofInt 1), .long (Int64.ofInt ((-(pw_gm h9 125 24)) + n))]) rfl (fun _ => rfl) ?_
            refine pw_lsub E (pc' := 54) rfl rfl ?_
            refine pw_ld E (pc' := 55) (st' := [pw_i n, .long (Int64.ofInt (((-(pw_gm h9 125 24)) + n) - 1))]) rfl (fun _ => rfl) ?_
            refine pw_i2l E (pc' := 56) rfl rfl (by omega) (by omega) ?_
            refine pw_ldivC E (pc' := 57) rfl rfl (by omega) (by omega) (by omega) (by omega) ?_
            have hd18 := pw_divB (a := ((-(pw_gm h9 125 24)) + n) - 1) (b := n) (by omega) (by omega)
            refine pw_l2iC E (pc' := 58) rfl rfl ?_
            refine pw_iret E rfl ?_
            have hfa : -(pw_gm h9 125 24) = pw_ab (pw_os (pw_g h 154) (pw_g h 156) 1 (pw_g h 125 41).toNat) := by unfold pw_ab; omega
            exact ⟨h9I, h9F, ⟨_, rfl, by omega, by omega, Or.inl ⟨by omega, by rw [← hfa]⟩⟩⟩
        · intro hc19
          have hc19 : ¬ (x11 ≠ (0 : Int)) := hc19
          exfalso; omega
      · have hb20 : x11 = 0 := by omega
        rw [fe 154 (by decide), fe 155 (by decide), fe 156 (by decide), fc] at hx11r
        refine pw_if E (pc' := 26) rfl (by decide) (by omega) (by omega) ?_ ?_
        · intro hc21
          have hc21 : x11 ≠ (0 : Int) := hc21
          exfalso; omega
        · intro hc22
          have hc22 : ¬ (x11 ≠ (0 : Int)) := hc22
          refine pw_ld E (pc' := 25) (st' := [pw_i ((-1))]) rfl (fun _ => rfl) ?_
          refine pw_iret E rfl ?_
          exact ⟨h9I, h9F, ⟨_, rfl, by omega, by omega, Or.inr ⟨by omega, rfl⟩⟩⟩
  · have hb23 : x4 = 0 := by omega
    refine pw_if E (pc' := 24) rfl (by decide) (by omega) (by omega) ?_ ?_
    · intro hc24
      have hc24 : x4 = (0 : Int) := hc24
      refine pw_ld E (pc' := 25) (st' := [pw_i ((-1))]) rfl (fun _ => rfl) ?_
      refine pw_iret E rfl ?_
      exact ⟨h1I, h1F, ⟨_, rfl, by omega, by omega, Or.inr ⟨by omega, rfl⟩⟩⟩
    · intro hc25
      have hc25 : ¬ (x4 = (0 : Int)) := hc25
      exfalso; omega
