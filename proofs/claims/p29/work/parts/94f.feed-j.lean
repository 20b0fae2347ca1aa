section
/-! feed exactly (printed by wip/tool/mfeed.py) -/
/-- a byte of eight, as the one and as the other takes it -/
def pw_b97 (w : Int64) (s : Int) : Int := ((Int64.toUInt64 w >>> ((Int32.ofInt s).toInt64.toUInt64 &&& Int64.toUInt64 63)).toInt64 &&& (Int64.ofNat 255)).toInt32.toInt
def pw_b199 (w : Int64) (s : Int) : Int := pw_an ((w >>> ((Int32.ofInt s).toInt64 &&& 63)).toInt32.toInt) 255
theorem pw_an255 (a : Int) : 0 ≤ pw_an a 255 ∧ pw_an a 255 ≤ 255 := by
  unfold pw_an
  obtain ⟨j, hj, e⟩ := pk_andE (Int32.ofInt a) (m := 255) 8 rfl
  have e : Int32.ofInt a &&& Int32.ofInt 255 = Int32.ofNat j := e
  rw [e]
  have h2 := pw_toInt (a := (j : Int)) (by omega) (by omega)
  have h3 : (Int32.ofNat j).toInt = (j : Int) := h2
  rw [h3]
  omega
theorem pf_255 : ∀ i, i < 32 → (255#64).getLsbD i = decide (i < 8) ∧ (255#32).getLsbD i = decide (i < 8) := by decide +kernel
theorem pf_bv (x : BitVec 64) (s : Nat) (hs : s + 8 ≤ 64) : ((x >>> s) &&& 255#64).setWidth 32 = (x.sshiftRight s).setWidth 32 &&& 255#32 := by
  apply BitVec.eq_of_getLsbD_eq
  intro i hi
  obtain ⟨h1, h2⟩ := pf_255 i hi
  rw [BitVec.getLsbD_setWidth, BitVec.getLsbD_and, BitVec.getLsbD_ushiftRight, BitVec.getLsbD_and, BitVec.getLsbD_setWidth, BitVec.getLsbD_sshiftRight, h1, h2]
  by_cases h8 : i < 8
  · rw [if_pos (show s + i < 64 by omega), decide_eq_true h8, decide_eq_true hi, decide_eq_false (show ¬ 64 ≤ i by omega)]
    cases x.getLsbD (s + i) <;> rfl
  · rw [decide_eq_false h8, Bool.and_false, Bool.and_false, Bool.and_false]
set_option maxRecDepth 20000 in
theorem pw_b_eq (w : Int64) : ∀ j : Nat, j < 8 → pw_b97 w (56 - 8 * (j : Int)) = pw_b199 w (56 - 8 * (j : Int)) := by
  intro j hj
  have e1 : ∀ j : Fin 8, ((Int32.ofInt (56 - 8 * (j.val : Int))).toInt64.toUInt64 &&& Int64.toUInt64 63) = UInt64.ofNat (8 * (7 - j.val)) ∧ ((Int32.ofInt (56 - 8 * (j.val : Int))).toInt64 &&& 63) = Int64.ofNat (8 * (7 - j.val)) := by decide +kernel
  have e2 : ∀ j, j < 8 → (UInt64.ofNat (8 * j)).toBitVec % 64 = BitVec.ofNat 64 (8 * j) ∧ (Int64.ofNat (8 * j)).toBitVec.smod 64 = BitVec.ofNat 64 (8 * j) ∧ (BitVec.ofNat 64 (8 * j)).toNat = 8 * j := by decide +kernel
  obtain ⟨q1, q2⟩ := e1 ⟨j, hj⟩
  dsimp only at q1 q2
  obtain ⟨r1, r2, r3⟩ := e2 (7 - j) (by omega)
  unfold pw_b97 pw_b199 pw_an
  rw [q1, q2, Int32.ofInt_toInt]
  congr 1
  apply Int32.toBitVec_inj.mp
  rw [Int32.toBitVec_and, Int64.toBitVec_toInt32, Int64.toBitVec_toInt32, Int64.toBitVec_and, BitVec.signExtend_eq_setWidth_of_le _ (by decide), BitVec.signExtend_eq_setWidth_of_le _ (by decide), Int64.toBitVec_shiftRight, r2]
  rw [show ((w.toUInt64 >>> UInt64.ofNat (8 * (7 - j))).toInt64).toBitVec = w.toBitVec >>> (8 * (7 - j)) from by
    show (w.toUInt64 >>> UInt64.ofNat (8 * (7 - j))).toBitVec = _
    rw [UInt64.toBitVec_shiftRight, r1]
    show w.toBitVec >>> (BitVec.ofNat 64 (8 * (7 - j))) = _
    rw [BitVec.ushiftRight_eq', r3]]
  rw [BitVec.sshiftRight_eq', r3]
  exact pf_bv w.toBitVec (8 * (7 - j)) (by omega)
theorem pw_l2iX {X : List (Nat × List Value)} {d : Nat} {h : pm_H} {m pc pc' len na nl own rt : Nat} {C : pm_T (Instr × Nat)} {ls : pm_L} {r : List Value} {Q : pm_H → (Option Value ⊕ Unit) → Prop} {w : Int64} (he : pm_ent m = some (na, nl, own, rt, C)) (hq : pm_get C pc = some (.l2i, len)) (hc : pc + len = pc') (H : ∀ c : Int, -2147483648 ≤ c → c ≤ 2147483647 → c = w.toInt32.toInt → pw X d h m pc' ls (pw_i c :: r) Q) : pw X d h m pc ls (.long w :: r) Q := by
  subst hc
  have hr := pw_i32r w.toInt32
  have e : pw_i w.toInt32.toInt = .int w.toInt32 := by unfold pw_i; rw [Int32.ofInt_toInt]
  have H := H _ hr.1 hr.2 rfl
  rw [e] at H
  refine pw_ld he hq (st' := .int w.toInt32 :: r) (pc' := pc + len) (fun ih => ?_) H
  show pm_fn (pc + len) (fun q => ih d h m q ls (.int w.toInt32 :: r)) = _
  rw [pm_fn_eq]

set_option maxHeartbeats 4000000 in
theorem cm_99_f {X : List (Nat × List Value)} {d : Nat} {h : pm_H} (hd : 1 ≤ d) (I : pw_I h)  : pw X d h 99 0 [some (.ref 40)] [] (fun h' v => pw_I h' ∧ pw_E [24] h h' ∧ (pw_g h' 24 1 = 0) ∧ (v = .inl none)) := by
  have E : pm_ent 99 = some (1, 1, 9, 4, pmc_99) := rfl
  have E0 : pw_E [24] h h := pw_E.rf _ _
  refine pw_ld E (pc' := 1) (st' := [.ref 40]) rfl (fun _ => rfl) ?_
  refine pw_ld E (pc' := 2) (st' := [pw_i 0, .ref 40]) rfl (fun _ => rfl) ?_
  refine pw_putI I E (c := 24) (k := 1) (pc' := 5) rfl rfl rfl rfl (by omega) (by omega) (by omega) (by omega) rfl rfl ?_
  intro h1I h1E
  generalize h1w : pw_w h 24 1 (pw_i 0) = h1 at h1I h1E ⊢
  have h1F := E0.tr (h1E.wk (W' := [24]) (by first | rfl | simp))
  have he2 : pw_g h1 24 1 = 0 := by rw [← h1w]; exact pw_g_eq (c := 24) (k := 1) I rfl rfl (by omega) (by omega)
  refine pw_vret E rfl ?_
  exact ⟨h1I, h1F, ⟨by omega, rfl⟩⟩
set_option maxHeartbeats 4000000 in
theorem cm_238_f {X : List (Nat × List Value)} {d : Nat} {h : pm_H} (hd : 3 ≤ d) (I : pw_I h)  : pw X d h 238 0 [some (.ref 141), none, none, none, none, none, none] [] (fun h' v => pw_I h' ∧ pw_E [125, 127, 128, 129, 1002] h h' ∧ ((∃ n : Nat, pw_A n h' ∧ pw_g h' 125 7 = 0 ∧ pw_g h' 125 8 = 0 ∧ pw_NV n h') ∧ pw_g h' 125 2 = 0) ∧ (v = .inl none)) := by
  have E : pm_ent 238 = some (1, 7, 12, 4, pmc_238) := rfl
  have E0 : pw_E [125, 127, 128, 129, 1002] h h := pw_E.rf _ _
  refine pw_ld E (pc' := 1) (st' := [.ref 141]) rfl (fun _ => rfl) ?_
  refine pw_ld E (pc' := 2) (st' := [.ref 141, .ref 141]) rfl (fun _ => rfl) ?_
  refine pw_getI2 I E (c := 125) (k := 2) (pc' := 5) rfl rfl rfl rfl rfl rfl (fun hf1a hf1b => ?_)
  refine pw_putI I E (c := 125) (k := 3) (pc' := 8) rfl rfl rfl rfl (by omega) (by omega) (by omega) (by omega) rfl rfl ?_
  intro h2I h2E
  generalize h2w : pw_w h 125 3 (pw_i (pw_g h 125 2)) = h2 at h2I h2E ⊢
  have h2F := E0.tr (h2E.wk (W' := [125, 127, 128, 129, 1002]) (by first | rfl | simp))
  refine pw_ld E (pc' := 9) (st' := [.ref 141]) rfl (fun _ => rfl) ?_
  refine pw_ld E (pc' := 10) (st' := [pw_i 0, .ref 141]) rfl (fun _ => rfl) ?_
  refine pw_putP h2I E (k := 2) (pc' := 13) rfl rfl rfl rfl (by omega) (by omega) (by omega) (by omega) rfl rfl ?_
  intro h3I h3E
  generalize h3w : pw_w h2 125 2 (pw_i 0) = h3 at h3I h3E ⊢
  have h3F := h2F.tr (h3E.wk (W' := [125, 127, 128, 129, 1002]) (by first | rfl | simp))
  refine pw_ld E (pc' := 14) (st' := [pw_i 0]) rfl (fun _ => rfl) ?_
  refine pw_istn E (pc' := 15) (ls' := [some (.ref 141), some (pw_i 0), none, none, none, none, none]) rfl rfl rfl rfl ?_
  refine pw_ld E (pc' := 16) (st' := [pw_i 0]) rfl (fun _ => rfl) ?_
  refine pw_istn E (pc' := 17) (ls' := [some (.ref 141), some (pw_i 0), some (pw_i 0), none, none, none, none]) rfl rfl rfl rfl ?_
  have L17 : ∀ (n17 : Nat) (k17_1 : Int) (k17_2 : Int) (k17_3 : Option Value) (k17_4 : Option Value) (k17_5 : Option Value) (gh17 : pm_H), pw_I gh17 → pw_E [125, 127, 128, 129, 1002] h gh17 → 0 ≤ k17_1 → k17_1 ≤ 1000 → 0 ≤ k17_2 → k17_2 ≤ 1000 → k17_1 ≤ k17_2 → k17_2 ≤ pw_g gh17 125 3 → pw_NV (k17_1).toNat gh17 → pw_g gh17 125 2 = 0 → (1000 - k17_2).toNat = n17 → pw X d gh17 238 17 [some (.ref 141), some (pw_i k17_1), some (pw_i k17_2), k17_3, k17_4, k17_5, none] [] (fun h' v => pw_I h' ∧ pw_E [125, 127, 128, 129, 1002] h h' ∧ ((∃ n : Nat, pw_A n h' ∧ pw_g h' 125 7 = 0 ∧ pw_g h' 125 8 = 0 ∧ pw_NV n h') ∧ pw_g h' 125 2 = 0) ∧ (v = .inl none)) := by
    intro n17
    induction n17 using Nat.strongRecOn with
    | ind n17 ih17 =>
      intro k17_1 k17_2 k17_3 k17_4 k17_5 gh17 I17 E17 k17_1a k17_1b k17_2a k17_2b hx17_0 hx17_1 hx17_2 hx17_3 hm17
      refine pw_ld E (pc' := 18) (st' := [pw_i k17_2]) rfl (fun _ => rfl) ?_
      refine pw_ld E (pc' := 19) (st' := [.ref 141, pw_i k17_2]) rfl (fun _ => rfl) ?_
      refine pw_getI2 I17 E (c := 125) (k := 3) (pc' := 22) rfl rfl rfl rfl rfl rfl (fun hf4a hf4b => ?_)
      refine pw_if2 E (pc' := 279) rfl (by decide) (by omega) (by omega) (by omega) (by omega) ?_ ?_
      · intro hc5
        change pw_g gh17 125 3 ≤ k17_2 at hc5
        refine pw_ld E (pc' := 280) (st' := [.ref 141]) rfl (fun _ => rfl) ?_
        refine pw_getR (b := 143) I17 E (c := 125) (k := 4) (pc' := 283) rfl rfl rfl rfl rfl rfl rfl ?_
        refine pw_ld E (pc' := 284) (st' := [pw_i k17_1, .ref 143]) rfl (fun _ => rfl) ?_
        refine pw_ld E (pc' := 285) (st' := [pw_i 0, pw_i k17_1, .ref 143]) rfl (fun _ => rfl) ?_
        refine pw_ast0 I17 E (c := 127) (pc' := 286) rfl rfl rfl (by decide) rfl (by decide) (by omega) (by omega) rfl (by omega) (by omega) (by omega) (by omega) rfl ?_
        intro h6I h6E
        generalize h6w : pw_w gh17 127 (k17_1.toNat) (pw_i 0) = h6 at h6I h6E ⊢
        have h6F := E17.tr (h6E.wk (W' := [125, 127, 128, 129, 1002]) (by first | rfl | simp))
        refine pw_ld E (pc' := 287) (st' := [.ref 141]) rfl (fun _ => rfl) ?_
        refine pw_getR (b := 144) h6I E (c := 125) (k := 5) (pc' := 290) rfl rfl rfl rfl rfl rfl rfl ?_
        refine pw_ld E (pc' := 291) (st' := [pw_i k17_1, .ref 144]) rfl (fun _ => rfl) ?_
        refine pw_ld E (pc' := 292) (st' := [.ref 141, pw_i k17_1, .ref 144]) rfl (fun _ => rfl) ?_
        have he8 : pw_g h6 125 3 = pw_g gh17 125 3 := by rw [← h6w]; exact pw_g_ne (by omega)
        refine pw_getI2 h6I E (c := 125) (k := 3) (pc' := 295) rfl rfl rfl rfl rfl rfl (fun hf7a hf7b => ?_)
        refine pw_ast0 h6I E (c := 128) (pc' := 296) rfl rfl rfl (by decide) rfl (by decide) (by omega) (by omega) rfl (by omega) (by omega) (by omega) (by omega) rfl ?_
        intro h9I h9E
        generalize h9w : pw_w h6 128 (k17_1.toNat) (pw_i (pw_g h6 125 3)) = h9 at h9I h9E ⊢
        have h9F := h6F.tr (h9E.wk (W' := [125, 127, 128, 129, 1002]) (by first | rfl | simp))
        refine pw_ld E (pc' := 297) (st' := [.ref 141]) rfl (fun _ => rfl) ?_
        refine pw_ld E (pc' := 298) (st' := [pw_i 0, .ref 141]) rfl (fun _ => rfl) ?_
        refine pw_putI h9I E (c := 125) (k := 7) (pc' := 301) rfl rfl rfl rfl (by omega) (by omega) (by omega) (by omega) rfl rfl ?_
        intro h10I h10E
        generalize h10w : pw_w h9 125 7 (pw_i 0) = h10 at h10I h10E ⊢
        have h10F := h9F.tr (h10E.wk (W' := [125, 127, 128, 129, 1002]) (by first | rfl | simp))
        refine pw_ld E (pc' := 302) (st' := [.ref 141]) rfl (fun _ => rfl) ?_
        refine pw_ld E (pc' := 303) (st' := [pw_i 0, .ref 141]) rfl (fun _ => rfl) ?_
        refine pw_putI h10I E (c := 125) (k := 8) (pc' := 306) rfl rfl rfl rfl (by omega) (by omega) (by omega) (by omega) rfl rfl ?_
        intro h11I h11E
        generalize h11w : pw_w h10 125 8 (pw_i 0) = h11 at h11I h11E ⊢
        have h11F := h10F.tr (h11E.wk (W' := [125, 127, 128, 129, 1002]) (by first | rfl | simp))
        refine pw_vret E rfl ?_
        have e7 : pw_g h11 125 7 = 0 := by rw [← h11w, pw_g_ne (by omega), ← h10w]; exact pw_g_eq (c := 125) (k := 7) h9I rfl rfl (by omega) (by omega)
        have e8 : pw_g h11 125 8 = 0 := by rw [← h11w]; exact pw_g_eq (c := 125) (k := 8) h10I rfl rfl (by omega) (by omega)
        have es : pw_g h11 127 (k17_1.toNat) = 0 := by rw [← h11w, pw_g_ne (by omega), ← h10w, pw_g_ne (by omega), ← h9w, pw_g_ne (by omega), ← h6w]; exact pw_g_eqA I17 rfl (by omega) (by omega) (by omega)
        have en : pw_NV (k17_1.toNat) h11 := fun j hj hq => by rw [← h11w, pw_gm_ne (by omega), ← h10w, pw_gm_ne (by omega), ← h9w, pw_gm_ne (by omega), ← h6w, pw_gm_ne (by omega)]; exact hx17_2 j hj (by rw [← hq, ← h11w, pw_g_ne (by omega), ← h10w, pw_g_ne (by omega), ← h9w, pw_g_ne (by omega), ← h6w, pw_g_ne (by omega)])
        have e2 : pw_g h11 125 2 = 0 := by rw [← h11w, pw_g_ne (by omega), ← h10w, pw_g_ne (by omega), ← h9w, pw_g_ne (by omega), ← h6w, pw_g_ne (by omega)]; exact hx17_3
        exact ⟨h11I, h11F, ⟨⟨k17_1.toNat, ⟨by omega, es, by omega, by omega, by omega, (pw_gI (c := 125) (k := 32) h11I rfl rfl).1⟩, e7, e8, en⟩, e2⟩, rfl⟩
      · intro hc12
        change ¬ (pw_g gh17 125 3 ≤ k17_2) at hc12
        refine pw_ld E (pc' := 26) (st' := [.ref 141]) rfl (fun _ => rfl) ?_
        refine pw_getR (b := 142) I17 E (c := 125) (k := 1) (pc' := 29) rfl rfl rfl rfl rfl rfl rfl ?_
        refine pw_ld E (pc' := 30) (st' := [pw_i k17_2, .ref 142]) rfl (fun _ => rfl) ?_
        refine pw_ald2 I17 E (c := 126) (pc' := 31) rfl rfl rfl (by decide) rfl (by decide) (by omega) (by omega) rfl (fun hf13a hf13b => ?_)
        refine pw_istn E (pc' := 32) (ls' := [some (.ref 141), some (pw_i k17_1), some (pw_i k17_2), some (pw_i (pw_g gh17 126 (k17_2.toNat))), k17_4, k17_5, none]) rfl rfl rfl rfl ?_
        refine pw_ld E (pc' := 33) (st' := [pw_i (pw_g gh17 126 (k17_2.toNat))]) rfl (fun _ => rfl) ?_
        refine pw_bip E (pc' := 35) rfl rfl (by decide) ?_
        refine pw_if2 E (pc' := 44) rfl (by decide) (by omega) (by omega) (by decide) (by decide) ?_ ?_
        · intro hc14
          change pw_g gh17 126 (k17_2.toNat) = (10 : Int) at hc14
          refine pw_inc E (pc' := 47) (ls' := [some (.ref 141), some (pw_i k17_1), some (pw_i (k17_2 + 1)), some (pw_i (pw_g gh17 126 (k17_2.toNat))), k17_4, k17_5, none]) rfl rfl rfl rfl ?_
          refine pw_goto E (pc' := 17) rfl (by decide) ?_
          exact ih17 _ (by omega) (k17_1) (k17_2 + 1) (some (pw_i (pw_g gh17 126 (k17_2.toNat)))) k17_4 k17_5 gh17 I17 E17 (by omega) (by omega) (by omega) (by omega) (by omega) (by omega) (by first | exact hx17_2 | exact pw_NV.st hx17_2 (by omega) (by omega) (by assumption) (by assumption) (by assumption) (by assumption) (by assumption) (by omega) (by omega) (by first | exact Or.inl (by decide) | exact Or.inr (by rw [pw_lToInt (by omega) (by omega)]; omega))) (by omega) rfl
        · intro hc15
          change ¬ (pw_g gh17 126 (k17_2.toNat) = (10 : Int)) at hc15
          refine pw_ld E (pc' := 39) (st' := [pw_i (pw_g gh17 126 (k17_2.toNat))]) rfl (fun _ => rfl) ?_
          refine pw_bip E (pc' := 41) rfl rfl (by decide) ?_
          refine pw_if2 E (pc' := 50) rfl (by decide) (by omega) (by omega) (by decide) (by decide) ?_ ?_
          · intro hc16
            change pw_g gh17 126 (k17_2.toNat) ≠ (32 : Int) at hc16
            refine pw_ld E (pc' := 51) (st' := [pw_i k17_2]) rfl (fun _ => rfl) ?_
            refine pw_ist E (pc' := 53) (ls' := [some (.ref 141), some (pw_i k17_1), some (pw_i k17_2), some (pw_i (pw_g gh17 126 (k17_2.toNat))), some (pw_i k17_2), k17_5, none]) rfl rfl rfl rfl ?_
            refine pw_ld E (pc' := 54) (st' := [.long (Int64.ofInt 0)]) rfl (fun _ => rfl) ?_
            refine pw_lst E (pc' := 56) (ls' := [some (.ref 141), some (pw_i k17_1), some (pw_i k17_2), some (pw_i (pw_g gh17 126 (k17_2.toNat))), some (pw_i k17_2), some (.long (Int64.ofInt 0)), none]) rfl rfl rfl rfl ?_
            refine pw_ld E (pc' := 57) (st' := [.ref 141]) rfl (fun _ => rfl) ?_
            refine pw_getR (b := 144) I17 E (c := 125) (k := 5) (pc' := 60) rfl rfl rfl rfl rfl rfl rfl ?_
            refine pw_ld E (pc' := 61) (st' := [pw_i k17_1, .ref 144]) rfl (fun _ => rfl) ?_
            refine pw_ld E (pc' := 62) (st' := [pw_i k17_2, pw_i k17_1, .ref 144]) rfl (fun _ => rfl) ?_
            refine pw_ast0 I17 E (c := 128) (pc' := 63) rfl rfl rfl (by decide) rfl (by decide) (by omega) (by omega) rfl (by omega) (by omega) (by omega) (by omega) rfl ?_
            intro h17I h17E
            generalize h17w : pw_w gh17 128 (k17_1.toNat) (pw_i k17_2) = h17 at h17I h17E ⊢
            have h17F := E17.tr (h17E.wk (W' := [125, 127, 128, 129, 1002]) (by first | rfl | simp))
            have hc0 : pw_g h17 126 (k17_2).toNat = pw_g gh17 126 (k17_2).toNat := by rw [← h17w]; exact pw_g_ne (by omega)
            refine pw_ld E (pc' := 64) (st' := [pw_i (pw_g gh17 126 (k17_2.toNat))]) rfl (fun _ => rfl) ?_
            refine pw_call (m' := 239) (As := [pw_i (pw_g gh17 126 (k17_2.toNat))]) (rest := []) (ls'' := [some (pw_i (pw_g gh17 126 (k17_2.toNat)))]) (Nat.le_trans (by decide) hd) E rfl (fun _ => pw_iS rfl rfl rfl) (rfl : pm_ent 239 = some (1, 1, 12, 1, pmc_239)) rfl rfl (cm_239_r (pw_dp hd (by decide)) h17I (pw_g gh17 126 (k17_2.toNat)) (by omega) (by omega)) ?_
            rintro u19 v18 ⟨rfl, x20, rfl, hx20a, hx20b, hx20r⟩
            refine ⟨_, rfl, ?_⟩
            show pw X d h17 238 67 [some (.ref 141), some (pw_i k17_1), some (pw_i k17_2), some (pw_i (pw_g gh17 126 (k17_2.toNat))), some (pw_i k17_2), some (.long (Int64.ofInt 0)), none] [pw_i x20] _
            change (x20 = 1 ∧ 97 ≤ (pw_g gh17 126 (k17_2.toNat)) ∧ (pw_g gh17 126 (k17_2.toNat)) ≤ 122) ∨ (x20 = 0 ∧ ¬ (97 ≤ (pw_g gh17 126 (k17_2.toNat)) ∧ (pw_g gh17 126 (k17_2.toNat)) ≤ 122)) at hx20r
            rcases (by omega : x20 = 1 ∨ x20 = 0) with hb21 | hb21
            · skip
              refine pw_if E (pc' := 152) rfl (by decide) (by omega) (by omega) ?_ ?_
              · intro hc22
                change x20 = (0 : Int) at hc22
                exfalso; omega
              · intro hc23
                change ¬ (x20 = (0 : Int)) at hc23
                have L70 : ∀ (n70 : Nat) (k70_2 : Int) (k70_5 : Int64), 0 ≤ k70_2 → k70_2 ≤ 1000 → k17_2 < k70_2 ∨ (k70_2 = k17_2 ∧ 97 ≤ pw_g h17 126 (k70_2).toNat ∧ pw_g h17 126 (k70_2).toNat ≤ 122) → k17_2 < pw_g h17 125 3 → k70_2 ≤ pw_g h17 125 3 → k17_2 ≤ k70_2 → (1000 - k70_2).toNat = n70 → pw X d h17 238 70 [some (.ref 141), some (pw_i k17_1), some (pw_i k70_2), some (pw_i (pw_g gh17 126 (k17_2.toNat))), some (pw_i k17_2), some (.long k70_5), none] [] (fun h' v => pw_I h' ∧ pw_E [125, 127, 128, 129, 1002] h h' ∧ ((∃ n : Nat, pw_A n h' ∧ pw_g h' 125 7 = 0 ∧ pw_g h' 125 8 = 0 ∧ pw_NV n h') ∧ pw_g h' 125 2 = 0) ∧ (v = .inl none)) := by
                  intro n70
                  induction n70 using Nat.strongRecOn with
                  | ind n70 ih70 =>
                    intro k70_2 k70_5 k70_2a k70_2b hx70_0 hx70_1 hx70_2 hx70_3 hm70
                    refine pw_ld E (pc' := 71) (st' := [pw_i k70_2]) rfl (fun _ => rfl) ?_
                    refine pw_ld E (pc' := 72) (st' := [.ref 141, pw_i k70_2]) rfl (fun _ => rfl) ?_
                    refine pw_getI2 h17I E (c := 125) (k := 3) (pc' := 75) rfl rfl rfl rfl rfl rfl (fun hf24a hf24b => ?_)
                    refine pw_if2 E (pc' := 129) rfl (by decide) (by omega) (by omega) (by omega) (by omega) ?_ ?_
                    · intro hc25
                      change pw_g h17 125 3 ≤ k70_2 at hc25
                      refine pw_ld E (pc' := 130) (st' := [.ref 141]) rfl (fun _ => rfl) ?_
                      refine pw_getR (b := 143) h17I E (c := 125) (k := 4) (pc' := 133) rfl rfl rfl rfl rfl rfl rfl ?_
                      refine pw_ld E (pc' := 134) (st' := [pw_i k17_1, .ref 143]) rfl (fun _ => rfl) ?_
                      refine pw_ld E (pc' := 135) (st' := [pw_i k70_2, pw_i k17_1, .ref 143]) rfl (fun _ => rfl) ?_
                      refine pw_ld E (pc' := 137) (st' := [pw_i k17_2, pw_i k70_2, pw_i k17_1, .ref 143]) rfl (fun _ => rfl) ?_
                      refine pw_sub E (pc' := 138) rfl rfl ?_
                      refine pw_bip E (pc' := 140) rfl rfl (by decide) ?_
                      refine pw_if2 E (pc' := 147) rfl (by decide) (by omega) (by omega) (by decide) (by decide) ?_ ?_
                      · intro hc26
                        change k70_2 - k17_2 ≤ (8 : Int) at hc26
                        refine pw_ld E (pc' := 148) (st' := [pw_i 1, pw_i k17_1, .ref 143]) rfl (fun _ => rfl) ?_
                        refine pw_ast0 h17I E (c := 127) (pc' := 149) rfl rfl rfl (by decide) rfl (by decide) (by omega) (by omega) rfl (by omega) (by omega) (by omega) (by omega) rfl ?_
                        intro h27I h27E
                        generalize h27w : pw_w h17 127 (k17_1.toNat) (pw_i 1) = h27 at h27I h27E ⊢
                        have h27F := h17F.tr (h27E.wk (W' := [125, 127, 128, 129, 1002]) (by first | rfl | simp))
                        refine pw_goto E (pc' := 265) rfl (by decide) ?_
                        refine pw_ld E (pc' := 266) (st' := [.ref 141]) rfl (fun _ => rfl) ?_
                        refine pw_getR (b := 145) h27I E (c := 125) (k := 6) (pc' := 269) rfl rfl rfl rfl rfl rfl rfl ?_
                        refine pw_ld E (pc' := 270) (st' := [pw_i k17_1, .ref 145]) rfl (fun _ => rfl) ?_
                        refine pw_ld E (pc' := 272) (st' := [.long k70_5, pw_i k17_1, .ref 145]) rfl (fun _ => rfl) ?_
                        refine pw_last h27I E (c := 129) (pc' := 273) rfl rfl rfl (by decide) (by omega) (by omega) rfl ?_
                        intro h28I h28E
                        generalize h28w : pw_w h27 129 (k17_1.toNat) (.long k70_5) = h28 at h28I h28E ⊢
                        have h28F := h27F.tr (h28E.wk (W' := [125, 127, 128, 129, 1002]) (by first | rfl | simp))
                        refine pw_inc E (pc' := 276) (ls' := [some (.ref 141), some (pw_i (k17_1 + 1)), some (pw_i k70_2), some (pw_i (pw_g gh17 126 (k17_2.toNat))), some (pw_i k17_2), some (.long k70_5), none]) rfl rfl rfl rfl ?_
                        refine pw_goto E (pc' := 17) rfl (by decide) ?_
                        have he29 : pw_g h28 125 3 = pw_g h27 125 3 := by rw [← h28w]; exact pw_g_ne (by omega)
                        have he30 : pw_g h27 125 3 = pw_g h17 125 3 := by rw [← h27w]; exact pw_g_ne (by omega)
                        have he31 : pw_g h28 125 2 = pw_g h27 125 2 := by rw [← h28w]; exact pw_g_ne (by omega)
                        have he32 : pw_g h27 125 2 = pw_g h17 125 2 := by rw [← h27w]; exact pw_g_ne (by omega)
                        have he33 : pw_g h17 125 2 = pw_g gh17 125 2 := by rw [← h17w]; exact pw_g_ne (by omega)
                        exact ih17 _ (by omega) (k17_1 + 1) (k70_2) (some (pw_i (pw_g gh17 126 (k17_2.toNat)))) (some (pw_i k17_2)) (some (.long k70_5)) h28 h28I h28F (by omega) (by omega) (by omega) (by omega) (by omega) (by omega) (by first | exact hx17_2 | exact pw_NV.st hx17_2 (by omega) (by omega) (by assumption) (by assumption) (by assumption) (by assumption) (by assumption) (by omega) (by omega) (by first | exact Or.inl (by decide) | exact Or.inr (by rw [pw_lToInt (by omega) (by omega)]; omega))) (by omega) rfl
                      · intro hc34
                        change ¬ (k70_2 - k17_2 ≤ (8 : Int)) at hc34
                        refine pw_ld E (pc' := 144) (st' := [pw_i 4, pw_i k17_1, .ref 143]) rfl (fun _ => rfl) ?_
                        refine pw_goto E (pc' := 148) rfl (by decide) ?_
                        refine pw_ast0 h17I E (c := 127) (pc' := 149) rfl rfl rfl (by decide) rfl (by decide) (by omega) (by omega) rfl (by omega) (by omega) (by omega) (by omega) rfl ?_
                        intro h35I h35E
                        generalize h35w : pw_w h17 127 (k17_1.toNat) (pw_i 4) = h35 at h35I h35E ⊢
                        have h35F := h17F.tr (h35E.wk (W' := [125, 127, 128, 129, 1002]) (by first | rfl | simp))
                        refine pw_goto E (pc' := 265) rfl (by decide) ?_
                        refine pw_ld E (pc' := 266) (st' := [.ref 141]) rfl (fun _ => rfl) ?_
                        refine pw_getR (b := 145) h35I E (c := 125) (k := 6) (pc' := 269) rfl rfl rfl rfl rfl rfl rfl ?_
                        refine pw_ld E (pc' := 270) (st' := [pw_i k17_1, .ref 145]) rfl (fun _ => rfl) ?_
                        refine pw_ld E (pc' := 272) (st' := [.long k70_5, pw_i k17_1, .ref 145]) rfl (fun _ => rfl) ?_
                        refine pw_last h35I E (c := 129) (pc' := 273) rfl rfl rfl (by decide) (by omega) (by omega) rfl ?_
                        intro h36I h36E
                        generalize h36w : pw_w h35 129 (k17_1.toNat) (.long k70_5) = h36 at h36I h36E ⊢
                        have h36F := h35F.tr (h36E.wk (W' := [125, 127, 128, 129, 1002]) (by first | rfl | simp))
                        refine pw_inc E (pc' := 276) (ls' := [some (.ref 141), some (pw_i (k17_1 + 1)), some (pw_i k70_2), some (pw_i (pw_g gh17 126 (k17_2.toNat))), some (pw_i k17_2), some (.long k70_5), none]) rfl rfl rfl rfl ?_
                        refine pw_goto E (pc' := 17) rfl (by decide) ?_
                        have he37 : pw_g h36 125 3 = pw_g h35 125 3 := by rw [← h36w]; exact pw_g_ne (by omega)
                        have he38 : pw_g h35 125 3 = pw_g h17 125 3 := by rw [← h35w]; exact pw_g_ne (by omega)
                        have he39 : pw_g h36 125 2 = pw_g h35 125 2 := by rw [← h36w]; exact pw_g_ne (by omega)
                        have he40 : pw_g h35 125 2 = pw_g h17 125 2 := by rw [← h35w]; exact pw_g_ne (by omega)
                        have he41 : pw_g h17 125 2 = pw_g gh17 125 2 := by rw [← h17w]; exact pw_g_ne (by omega)
                        exact ih17 _ (by omega) (k17_1 + 1) (k70_2) (some (pw_i (pw_g gh17 126 (k17_2.toNat)))) (some (pw_i k17_2)) (some (.long k70_5)) h36 h36I h36F (by omega) (by omega) (by omega) (by omega) (by omega) (by omega) (by first | exact hx17_2 | exact pw_NV.st hx17_2 (by omega) (by omega) (by assumption) (by assumption) (by assumption) (by assumption) (by assumption) (by omega) (by omega) (by first | exact Or.inl (by decide) | exact Or.inr (by rw [pw_lToInt (by omega) (by omega)]; omega))) (by omega) rfl
                    · intro hc42
                      change ¬ (pw_g h17 125 3 ≤ k70_2) at hc42
                      refine pw_ld E (pc' := 79) (st' := [.ref 141]) rfl (fun _ => rfl) ?_
                      refine pw_getR (b := 142) h17I E (c := 125) (k := 1) (pc' := 82) rfl rfl rfl rfl rfl rfl rfl ?_
                      refine pw_ld E (pc' := 83) (st' := [pw_i k70_2, .ref 142]) rfl (fun _ => rfl) ?_
                      refine pw_ald2 h17I E (c := 126) (pc' := 84) rfl rfl rfl (by decide) rfl (by decide) (by omega) (by omega) rfl (fun hf43a hf43b => ?_)
                      refine pw_call (m' := 239) (As := [pw_i (pw_g h17 126 (k70_2.toNat))]) (rest := []) (ls'' := [some (pw_i (pw_g h17 126 (k70_2.toNat)))]) (Nat.le_trans (by decide) hd) E rfl (fun _ => pw_iS rfl rfl rfl) (rfl : pm_ent 239 = some (1, 1, 12, 1, pmc_239)) rfl rfl (cm_239_r (pw_dp hd (by decide)) h17I (pw_g h17 126 (k70_2.toNat)) (by omega) (by omega)) ?_
                      rintro u45 v44 ⟨rfl, x46, rfl, hx46a, hx46b, hx46r⟩
                      refine ⟨_, rfl, ?_⟩
                      show pw X d h17 238 87 [some (.ref 141), some (pw_i k17_1), some (pw_i k70_2), some (pw_i (pw_g gh17 126 (k17_2.toNat))), some (pw_i k17_2), some (.long k70_5), none] [pw_i x46] _
                      change (x46 = 1 ∧ 97 ≤ (pw_g h17 126 (k70_2.toNat)) ∧ (pw_g h17 126 (k70_2.toNat)) ≤ 122) ∨ (x46 = 0 ∧ ¬ (97 ≤ (pw_g h17 126 (k70_2.toNat)) ∧ (pw_g h17 126 (k70_2.toNat)) ≤ 122)) at hx46r
                      rcases (by omega : x46 = 1 ∨ x46 = 0) with hb47 | hb47
                      · skip
                        refine pw_if E (pc' := 129) rfl (by decide) (by omega) (by omega) ?_ ?_
                        · intro hc48
                          change x46 = (0 : Int) at hc48
                          exfalso; omega
                        · intro hc49
                          change ¬ (x46 = (0 : Int)) at hc49
                          refine pw_ld E (pc' := 91) (st' := [pw_i k70_2]) rfl (fun _ => rfl) ?_
                          refine pw_ld E (pc' := 93) (st' := [pw_i k17_2, pw_i k70_2]) rfl (fun _ => rfl) ?_
                          refine pw_sub E (pc' := 94) rfl rfl ?_
                          refine pw_bip E (pc' := 96) rfl rfl (by decide) ?_
                          refine pw_if2 E (pc' := 119) rfl (by decide) (by omega) (by omega) (by decide) (by decide) ?_ ?_
                          · intro hc50
                            change (8 : Int) ≤ k70_2 - k17_2 at hc50
                            refine pw_ld E (pc' := 121) (st' := [.long k70_5]) rfl (fun _ => rfl) ?_
                            refine pw_lst E (pc' := 123) (ls' := [some (.ref 141), some (pw_i k17_1), some (pw_i k70_2), some (pw_i (pw_g gh17 126 (k17_2.toNat))), some (pw_i k17_2), some (.long k70_5), none]) rfl rfl rfl rfl ?_
                            refine pw_inc E (pc' := 126) (ls' := [some (.ref 141), some (pw_i k17_1), some (pw_i (k70_2 + 1)), some (pw_i (pw_g gh17 126 (k17_2.toNat))), some (pw_i k17_2), some (.long k70_5), none]) rfl rfl rfl rfl ?_
                            refine pw_goto E (pc' := 70) rfl (by decide) ?_
                            exact ih70 _ (by omega) (k70_2 + 1) (k70_5)  (by omega) (by omega) (by omega) (by omega) (by omega) (by omega) rfl
                          · intro hc51
                            change ¬ ((8 : Int) ≤ k70_2 - k17_2) at hc51
                            refine pw_ld E (pc' := 102) (st' := [.long (Int64.ofInt 37)]) rfl (fun _ => rfl) ?_
                            refine pw_ld E (pc' := 104) (st' := [.long k70_5, .long (Int64.ofInt 37)]) rfl (fun _ => rfl) ?_
                            refine pw_ld E (pc' := 105) (st' := [.long ((Int64.ofInt 37) * k70_5)]) rfl (fun _ => rfl) ?_
                            refine pw_ld E (pc' := 106) (st' := [.ref 141, .long ((Int64.ofInt 37) * k70_5)]) rfl (fun _ => rfl) ?_
                            refine pw_getR (b := 142) h17I E (c := 125) (k := 1) (pc' := 109) rfl rfl rfl rfl rfl rfl rfl ?_
                            refine pw_ld E (pc' := 110) (st' := [pw_i k70_2, .ref 142, .long ((Int64.ofInt 37) * k70_5)]) rfl (fun _ => rfl) ?_
                            refine pw_ald2 h17I E (c := 126) (pc' := 111) rfl rfl rfl (by decide) rfl (by decide) (by omega) (by omega) rfl (fun hf52a hf52b => ?_)
                            refine pw_call (m' := 240) (As := [pw_i (pw_g h17 126 (k70_2.toNat))]) (rest := [.long ((Int64.ofInt 37) * k70_5)]) (ls'' := [some (pw_i (pw_g h17 126 (k70_2.toNat)))]) (Nat.le_trans (by decide) hd) E rfl (fun _ => pw_iS rfl rfl rfl) (rfl : pm_ent 240 = some (1, 1, 12, 0, pmc_240)) rfl rfl (cm_240 (pw_dp hd (by decide)) h17I (pw_g h17 126 (k70_2.toNat)) (by omega) (by omega)) ?_
                            rintro u54 v53 ⟨rfl, x55, rfl, hx55a, hx55b⟩
                            refine ⟨_, rfl, ?_⟩
                            show pw X d h17 238 114 [some (.ref 141), some (pw_i k17_1), some (pw_i k70_2), some (pw_i (pw_g gh17 126 (k17_2.toNat))), some (pw_i k17_2), some (.long k70_5), none] [pw_i x55, .long ((Int64.ofInt 37) * k70_5)] _
                            refine pw_i2l E (pc' := 115) rfl rfl (by omega) (by omega) ?_
                            refine pw_ld E (pc' := 116) (st' := [.long (((Int64.ofInt 37) * k70_5) + (Int64.ofInt x55))]) rfl (fun _ => rfl) ?_
                            refine pw_goto E (pc' := 121) rfl (by decide) ?_
                            refine pw_lst E (pc' := 123) (ls' := [some (.ref 141), some (pw_i k17_1), some (pw_i k70_2), some (pw_i (pw_g gh17 126 (k17_2.toNat))), some (pw_i k17_2), some (.long (((Int64.ofInt 37) * k70_5) + (Int64.ofInt x55))), none]) rfl rfl rfl rfl ?_
                            refine pw_inc E (pc' := 126) (ls' := [some (.ref 141), some (pw_i k17_1), some (pw_i (k70_2 + 1)), some (pw_i (pw_g gh17 126 (k17_2.toNat))), some (pw_i k17_2), some (.long (((Int64.ofInt 37) * k70_5) + (Int64.ofInt x55))), none]) rfl rfl rfl rfl ?_
                            refine pw_goto E (pc' := 70) rfl (by decide) ?_
                            exact ih70 _ (by omega) (k70_2 + 1) (((Int64.ofInt 37) * k70_5) + (Int64.ofInt x55))  (by omega) (by omega) (by omega) (by omega) (by omega) (by omega) rfl
                      · skip
                        refine pw_if E (pc' := 129) rfl (by decide) (by omega) (by omega) ?_ ?_
                        · intro hc57
                          change x46 = (0 : Int) at hc57
                          refine pw_ld E (pc' := 130) (st' := [.ref 141]) rfl (fun _ => rfl) ?_
                          refine pw_getR (b := 143) h17I E (c := 125) (k := 4) (pc' := 133) rfl rfl rfl rfl rfl rfl rfl ?_
                          refine pw_ld E (pc' := 134) (st' := [pw_i k17_1, .ref 143]) rfl (fun _ => rfl) ?_
                          refine pw_ld E (pc' := 135) (st' := [pw_i k70_2, pw_i k17_1, .ref 143]) rfl (fun _ => rfl) ?_
                          refine pw_ld E (pc' := 137) (st' := [pw_i k17_2, pw_i k70_2, pw_i k17_1, .ref 143]) rfl (fun _ => rfl) ?_
                          refine pw_sub E (pc' := 138) rfl rfl ?_
                          refine pw_bip E (pc' := 140) rfl rfl (by decide) ?_
                          refine pw_if2 E (pc' := 147) rfl (by decide) (by omega) (by omega) (by decide) (by decide) ?_ ?_
                          · intro hc58
                            change k70_2 - k17_2 ≤ (8 : Int) at hc58
                            refine pw_ld E (pc' := 148) (st' := [pw_i 1, pw_i k17_1, .ref 143]) rfl (fun _ => rfl) ?_
                            refine pw_ast0 h17I E (c := 127) (pc' := 149) rfl rfl rfl (by decide) rfl (by decide) (by omega) (by omega) rfl (by omega) (by omega) (by omega) (by omega) rfl ?_
                            intro h59I h59E
                            generalize h59w : pw_w h17 127 (k17_1.toNat) (pw_i 1) = h59 at h59I h59E ⊢
                            have h59F := h17F.tr (h59E.wk (W' := [125, 127, 128, 129, 1002]) (by first | rfl | simp))
                            refine pw_goto E (pc' := 265) rfl (by decide) ?_
                            refine pw_ld E (pc' := 266) (st' := [.ref 141]) rfl (fun _ => rfl) ?_
                            refine pw_getR (b := 145) h59I E (c := 125) (k := 6) (pc' := 269) rfl rfl rfl rfl rfl rfl rfl ?_
                            refine pw_ld E (pc' := 270) (st' := [pw_i k17_1, .ref 145]) rfl (fun _ => rfl) ?_
                            refine pw_ld E (pc' := 272) (st' := [.long k70_5, pw_i k17_1, .ref 145]) rfl (fun _ => rfl) ?_
                            refine pw_last h59I E (c := 129) (pc' := 273) rfl rfl rfl (by decide) (by omega) (by omega) rfl ?_
                            intro h60I h60E
                            generalize h60w : pw_w h59 129 (k17_1.toNat) (.long k70_5) = h60 at h60I h60E ⊢
                            have h60F := h59F.tr (h60E.wk (W' := [125, 127, 128, 129, 1002]) (by first | rfl | simp))
                            refine pw_inc E (pc' := 276) (ls' := [some (.ref 141), some (pw_i (k17_1 + 1)), some (pw_i k70_2), some (pw_i (pw_g gh17 126 (k17_2.toNat))), some (pw_i k17_2), some (.long k70_5), none]) rfl rfl rfl rfl ?_
                            refine pw_goto E (pc' := 17) rfl (by decide) ?_
                            have he61 : pw_g h60 125 3 = pw_g h59 125 3 := by rw [← h60w]; exact pw_g_ne (by omega)
                            have he62 : pw_g h59 125 3 = pw_g h17 125 3 := by rw [← h59w]; exact pw_g_ne (by omega)
                            have he63 : pw_g h60 125 2 = pw_g h59 125 2 := by rw [← h60w]; exact pw_g_ne (by omega)
                            have he64 : pw_g h59 125 2 = pw_g h17 125 2 := by rw [← h59w]; exact pw_g_ne (by omega)
                            have he65 : pw_g h17 125 2 = pw_g gh17 125 2 := by rw [← h17w]; exact pw_g_ne (by omega)
                            exact ih17 _ (by omega) (k17_1 + 1) (k70_2) (some (pw_i (pw_g gh17 126 (k17_2.toNat)))) (some (pw_i k17_2)) (some (.long k70_5)) h60 h60I h60F (by omega) (by omega) (by omega) (by omega) (by omega) (by omega) (by first | exact hx17_2 | exact pw_NV.st hx17_2 (by omega) (by omega) (by assumption) (by assumption) (by assumption) (by assumption) (by assumption) (by omega) (by omega) (by first | exact Or.inl (by decide) | exact Or.inr (by rw [pw_lToInt (by omega) (by omega)]; omega))) (by omega) rfl
                          · intro hc66
                            change ¬ (k70_2 - k17_2 ≤ (8 : Int)) at hc66
                            refine pw_ld E (pc' := 144) (st' := [pw_i 4, pw_i k17_1, .ref 143]) rfl (fun _ => rfl) ?_
                            refine pw_goto E (pc' := 148) rfl (by decide) ?_
                            refine pw_ast0 h17I E (c := 127) (pc' := 149) rfl rfl rfl (by decide) rfl (by decide) (by omega) (by omega) rfl (by omega) (by omega) (by omega) (by omega) rfl ?_
                            intro h67I h67E
                            generalize h67w : pw_w h17 127 (k17_1.toNat) (pw_i 4) = h67 at h67I h67E ⊢
                            have h67F := h17F.tr (h67E.wk (W' := [125, 127, 128, 129, 1002]) (by first | rfl | simp))
                            refine pw_goto E (pc' := 265) rfl (by decide) ?_
                            refine pw_ld E (pc' := 266) (st' := [.ref 141]) rfl (fun _ => rfl) ?_
                            refine pw_getR (b := 145) h67I E (c := 125) (k := 6) (pc' := 269) rfl rfl rfl rfl rfl rfl rfl ?_
                            refine pw_ld E (pc' := 270) (st' := [pw_i k17_1, .ref 145]) rfl (fun _ => rfl) ?_
                            refine pw_ld E (pc' := 272) (st' := [.long k70_5, pw_i k17_1, .ref 145]) rfl (fun _ => rfl) ?_
                            refine pw_last h67I E (c := 129) (pc' := 273) rfl rfl rfl (by decide) (by omega) (by omega) rfl ?_
                            intro h68I h68E
                            generalize h68w : pw_w h67 129 (k17_1.toNat) (.long k70_5) = h68 at h68I h68E ⊢
                            have h68F := h67F.tr (h68E.wk (W' := [125, 127, 128, 129, 1002]) (by first | rfl | simp))
                            refine pw_inc E (pc' := 276) (ls' := [some (.ref 141), some (pw_i (k17_1 + 1)), some (pw_i k70_2), some (pw_i (pw_g gh17 126 (k17_2.toNat))), some (pw_i k17_2), some (.long k70_5), none]) rfl rfl rfl rfl ?_
                            refine pw_goto E (pc' := 17) rfl (by decide) ?_
                            have he69 : pw_g h68 125 3 = pw_g h67 125 3 := by rw [← h68w]; exact pw_g_ne (by omega)
                            have he70 : pw_g h67 125 3 = pw_g h17 125 3 := by rw [← h67w]; exact pw_g_ne (by omega)
                            have he71 : pw_g h68 125 2 = pw_g h67 125 2 := by rw [← h68w]; exact pw_g_ne (by omega)
                            have he72 : pw_g h67 125 2 = pw_g h17 125 2 := by rw [← h67w]; exact pw_g_ne (by omega)
                            have he73 : pw_g h17 125 2 = pw_g gh17 125 2 := by rw [← h17w]; exact pw_g_ne (by omega)
                            exact ih17 _ (by omega) (k17_1 + 1) (k70_2) (some (pw_i (pw_g gh17 126 (k17_2.toNat)))) (some (pw_i k17_2)) (some (.long k70_5)) h68 h68I h68F (by omega) (by omega) (by omega) (by omega) (by omega) (by omega) (by first | exact hx17_2 | exact pw_NV.st hx17_2 (by omega) (by omega) (by assumption) (by assumption) (by assumption) (by assumption) (by assumption) (by omega) (by omega) (by first | exact Or.inl (by decide) | exact Or.inr (by rw [pw_lToInt (by omega) (by omega)]; omega))) (by omega) rfl
                        · intro hc74
                          change ¬ (x46 = (0 : Int)) at hc74
                          exfalso; omega
                have he75 : pw_g h17 125 3 = pw_g gh17 125 3 := by rw [← h17w]; exact pw_g_ne (by omega)
                exact L70 _ (k17_2) (Int64.ofInt 0)  (by omega) (by omega) (by omega) (by omega) (by omega) (by omega) rfl
            · skip
              refine pw_if E (pc' := 152) rfl (by decide) (by omega) (by omega) ?_ ?_
              · intro hc77
                change x20 = (0 : Int) at hc77
                refine pw_ld E (pc' := 153) (st' := [pw_i (pw_g gh17 126 (k17_2.toNat))]) rfl (fun _ => rfl) ?_
                refine pw_call (m' := 241) (As := [pw_i (pw_g gh17 126 (k17_2.toNat))]) (rest := []) (ls'' := [some (pw_i (pw_g gh17 126 (k17_2.toNat)))]) (Nat.le_trans (by decide) hd) E rfl (fun _ => pw_iS rfl rfl rfl) (rfl : pm_ent 241 = some (1, 1, 12, 1, pmc_241)) rfl rfl (cm_241_r (pw_dp hd (by decide)) h17I (pw_g gh17 126 (k17_2.toNat)) (by omega) (by omega)) ?_
                rintro u79 v78 ⟨rfl, x80, rfl, hx80a, hx80b, hx80r⟩
                refine ⟨_, rfl, ?_⟩
                show pw X d h17 238 156 [some (.ref 141), some (pw_i k17_1), some (pw_i k17_2), some (pw_i (pw_g gh17 126 (k17_2.toNat))), some (pw_i k17_2), some (.long (Int64.ofInt 0)), none] [pw_i x80] _
                change (x80 = 1 ∧ 48 ≤ (pw_g gh17 126 (k17_2.toNat)) ∧ (pw_g gh17 126 (k17_2.toNat)) ≤ 57) ∨ (x80 = 0 ∧ ¬ (48 ≤ (pw_g gh17 126 (k17_2.toNat)) ∧ (pw_g gh17 126 (k17_2.toNat)) ≤ 57)) at hx80r
                rcases (by omega : x80 = 1 ∨ x80 = 0) with hb81 | hb81
                · skip
                  refine pw_if E (pc' := 240) rfl (by decide) (by omega) (by omega) ?_ ?_
                  · intro hc82
                    change x80 = (0 : Int) at hc82
                    exfalso; omega
                  · intro hc83
                    change ¬ (x80 = (0 : Int)) at hc83
                    have L159 : ∀ (n159 : Nat) (k159_2 : Int) (k159_5 : Int), 0 ≤ k159_2 → k159_2 ≤ 1000 → 0 ≤ k159_5 → k159_5 ≤ 9999 → k17_2 < k159_2 ∨ (k159_2 = k17_2 ∧ 48 ≤ pw_g h17 126 (k159_2).toNat ∧ pw_g h17 126 (k159_2).toNat ≤ 57) → k17_2 < pw_g h17 125 3 → k159_2 ≤ pw_g h17 125 3 → k17_2 ≤ k159_2 → (k159_2 = k17_2 ∧ k159_5 = 0) ∨ (k159_2 = k17_2 + 1 ∧ k159_5 ≤ 9) ∨ (k159_2 = k17_2 + 2 ∧ k159_5 ≤ 99) ∨ (k159_2 = k17_2 + 3 ∧ k159_5 ≤ 999) ∨ k17_2 + 4 ≤ k159_2 → (1000 - k159_2).toNat = n159 → pw X d h17 238 159 [some (.ref 141), some (pw_i k17_1), some (pw_i k159_2), some (pw_i (pw_g gh17 126 (k17_2.toNat))), some (pw_i k17_2), some (.long (Int64.ofInt k159_5)), none] [] (fun h' v => pw_I h' ∧ pw_E [125, 127, 128, 129, 1002] h h' ∧ ((∃ n : Nat, pw_A n h' ∧ pw_g h' 125 7 = 0 ∧ pw_g h' 125 8 = 0 ∧ pw_NV n h') ∧ pw_g h' 125 2 = 0) ∧ (v = .inl none)) := by
                      intro n159
                      induction n159 using Nat.strongRecOn with
                      | ind n159 ih159 =>
                        intro k159_2 k159_5 k159_2a k159_2b k159_5a k159_5b hx159_0 hx159_1 hx159_2 hx159_3 hx159_4 hm159
                        refine pw_ld E (pc' := 160) (st' := [pw_i k159_2]) rfl (fun _ => rfl) ?_
                        refine pw_ld E (pc' := 161) (st' := [.ref 141, pw_i k159_2]) rfl (fun _ => rfl) ?_
                        refine pw_getI2 h17I E (c := 125) (k := 3) (pc' := 164) rfl rfl rfl rfl rfl rfl (fun hf84a hf84b => ?_)
                        refine pw_if2 E (pc' := 218) rfl (by decide) (by omega) (by omega) (by omega) (by omega) ?_ ?_
                        · intro hc85
                          change pw_g h17 125 3 ≤ k159_2 at hc85
                          refine pw_ld E (pc' := 219) (st' := [.ref 141]) rfl (fun _ => rfl) ?_
                          refine pw_getR (b := 143) h17I E (c := 125) (k := 4) (pc' := 222) rfl rfl rfl rfl rfl rfl rfl ?_
                          refine pw_ld E (pc' := 223) (st' := [pw_i k17_1, .ref 143]) rfl (fun _ => rfl) ?_
                          refine pw_ld E (pc' := 224) (st' := [pw_i k159_2, pw_i k17_1, .ref 143]) rfl (fun _ => rfl) ?_
                          refine pw_ld E (pc' := 226) (st' := [pw_i k17_2, pw_i k159_2, pw_i k17_1, .ref 143]) rfl (fun _ => rfl) ?_
                          refine pw_sub E (pc' := 227) rfl rfl ?_
                          refine pw_ld E (pc' := 228) (st' := [pw_i 4, pw_i (k159_2 - k17_2), pw_i k17_1, .ref 143]) rfl (fun _ => rfl) ?_
                          refine pw_if2 E (pc' := 235) rfl (by decide) (by omega) (by omega) (by decide) (by decide) ?_ ?_
                          · intro hc86
                            change k159_2 - k17_2 ≤ (4 : Int) at hc86
                            refine pw_ld E (pc' := 236) (st' := [pw_i 2, pw_i k17_1, .ref 143]) rfl (fun _ => rfl) ?_
                            refine pw_ast0 h17I E (c := 127) (pc' := 237) rfl rfl rfl (by decide) rfl (by decide) (by omega) (by omega) rfl (by omega) (by omega) (by omega) (by omega) rfl ?_
                            intro h87I h87E
                            generalize h87w : pw_w h17 127 (k17_1.toNat) (pw_i 2) = h87 at h87I h87E ⊢
                            have h87F := h17F.tr (h87E.wk (W' := [125, 127, 128, 129, 1002]) (by first | rfl | simp))
                            refine pw_goto E (pc' := 265) rfl (by decide) ?_
                            refine pw_ld E (pc' := 266) (st' := [.ref 141]) rfl (fun _ => rfl) ?_
                            refine pw_getR (b := 145) h87I E (c := 125) (k := 6) (pc' := 269) rfl rfl rfl rfl rfl rfl rfl ?_
                            refine pw_ld E (pc' := 270) (st' := [pw_i k17_1, .ref 145]) rfl (fun _ => rfl) ?_
                            refine pw_ld E (pc' := 272) (st' := [.long (Int64.ofInt k159_5), pw_i k17_1, .ref 145]) rfl (fun _ => rfl) ?_
                            refine pw_last h87I E (c := 129) (pc' := 273) rfl rfl rfl (by decide) (by omega) (by omega) rfl ?_
                            intro h88I h88E
                            generalize h88w : pw_w h87 129 (k17_1.toNat) (.long (Int64.ofInt k159_5)) = h88 at h88I h88E ⊢
                            have h88F := h87F.tr (h88E.wk (W' := [125, 127, 128, 129, 1002]) (by first | rfl | simp))
                            refine pw_inc E (pc' := 276) (ls' := [some (.ref 141), some (pw_i (k17_1 + 1)), some (pw_i k159_2), some (pw_i (pw_g gh17 126 (k17_2.toNat))), some (pw_i k17_2), some (.long (Int64.ofInt k159_5)), none]) rfl rfl rfl rfl ?_
                            refine pw_goto E (pc' := 17) rfl (by decide) ?_
                            have he89 : pw_g h88 125 3 = pw_g h87 125 3 := by rw [← h88w]; exact pw_g_ne (by omega)
                            have he90 : pw_g h87 125 3 = pw_g h17 125 3 := by rw [← h87w]; exact pw_g_ne (by omega)
                            have he91 : pw_g h88 125 2 = pw_g h87 125 2 := by rw [← h88w]; exact pw_g_ne (by omega)
                            have he92 : pw_g h87 125 2 = pw_g h17 125 2 := by rw [← h87w]; exact pw_g_ne (by omega)
                            have he93 : pw_g h17 125 2 = pw_g gh17 125 2 := by rw [← h17w]; exact pw_g_ne (by omega)
                            exact ih17 _ (by omega) (k17_1 + 1) (k159_2) (some (pw_i (pw_g gh17 126 (k17_2.toNat)))) (some (pw_i k17_2)) (some (.long (Int64.ofInt k159_5))) h88 h88I h88F (by omega) (by omega) (by omega) (by omega) (by omega) (by omega) (by first | exact hx17_2 | exact pw_NV.st hx17_2 (by omega) (by omega) (by assumption) (by assumption) (by assumption) (by assumption) (by assumption) (by omega) (by omega) (by first | exact Or.inl (by decide) | exact Or.inr (by rw [pw_lToInt (by omega) (by omega)]; omega))) (by omega) rfl
                          · intro hc94
                            change ¬ (k159_2 - k17_2 ≤ (4 : Int)) at hc94
                            refine pw_ld E (pc' := 232) (st' := [pw_i 4, pw_i k17_1, .ref 143]) rfl (fun _ => rfl) ?_
                            refine pw_goto E (pc' := 236) rfl (by decide) ?_
                            refine pw_ast0 h17I E (c := 127) (pc' := 237) rfl rfl rfl (by decide) rfl (by decide) (by omega) (by omega) rfl (by omega) (by omega) (by omega) (by omega) rfl ?_
                            intro h95I h95E
                            generalize h95w : pw_w h17 127 (k17_1.toNat) (pw_i 4) = h95 at h95I h95E ⊢
                            have h95F := h17F.tr (h95E.wk (W' := [125, 127, 128, 129, 1002]) (by first | rfl | simp))
                            refine pw_goto E (pc' := 265) rfl (by decide) ?_
                            refine pw_ld E (pc' := 266) (st' := [.ref 141]) rfl (fun _ => rfl) ?_
                            refine pw_getR (b := 145) h95I E (c := 125) (k := 6) (pc' := 269) rfl rfl rfl rfl rfl rfl rfl ?_
                            refine pw_ld E (pc' := 270) (st' := [pw_i k17_1, .ref 145]) rfl (fun _ => rfl) ?_
                            refine pw_ld E (pc' := 272) (st' := [.long (Int64.ofInt k159_5), pw_i k17_1, .ref 145]) rfl (fun _ => rfl) ?_
                            refine pw_last h95I E (c := 129) (pc' := 273) rfl rfl rfl (by decide) (by omega) (by omega) rfl ?_
                            intro h96I h96E
                            generalize h96w : pw_w h95 129 (k17_1.toNat) (.long (Int64.ofInt k159_5)) = h96 at h96I h96E ⊢
                            have h96F := h95F.tr (h96E.wk (W' := [125, 127, 128, 129, 1002]) (by first | rfl | simp))
                            refine pw_inc E (pc' := 276) (ls' := [some (.ref 141), some (pw_i (k17_1 + 1)), some (pw_i k159_2), some (pw_i (pw_g gh17 126 (k17_2.toNat))), some (pw_i k17_2), some (.long (Int64.ofInt k159_5)), none]) rfl rfl rfl rfl ?_
                            refine pw_goto E (pc' := 17) rfl (by decide) ?_
                            have he97 : pw_g h96 125 3 = pw_g h95 125 3 := by rw [← h96w]; exact pw_g_ne (by omega)
                            have he98 : pw_g h95 125 3 = pw_g h17 125 3 := by rw [← h95w]; exact pw_g_ne (by omega)
                            have he99 : pw_g h96 125 2 = pw_g h95 125 2 := by rw [← h96w]; exact pw_g_ne (by omega)
                            have he100 : pw_g h95 125 2 = pw_g h17 125 2 := by rw [← h95w]; exact pw_g_ne (by omega)
                            have he101 : pw_g h17 125 2 = pw_g gh17 125 2 := by rw [← h17w]; exact pw_g_ne (by omega)
                            exact ih17 _ (by omega) (k17_1 + 1) (k159_2) (some (pw_i (pw_g gh17 126 (k17_2.toNat)))) (some (pw_i k17_2)) (some (.long (Int64.ofInt k159_5))) h96 h96I h96F (by omega) (by omega) (by omega) (by omega) (by omega) (by omega) (by first | exact hx17_2 | exact pw_NV.st hx17_2 (by omega) (by omega) (by assumption) (by assumption) (by assumption) (by assumption) (by assumption) (by omega) (by omega) (by first | exact Or.inl (by decide) | exact Or.inr (by rw [pw_lToInt (by omega) (by omega)]; omega))) (by omega) rfl
                        · intro hc102
                          change ¬ (pw_g h17 125 3 ≤ k159_2) at hc102
                          refine pw_ld E (pc' := 168) (st' := [.ref 141]) rfl (fun _ => rfl) ?_
                          refine pw_getR (b := 142) h17I E (c := 125) (k := 1) (pc' := 171) rfl rfl rfl rfl rfl rfl rfl ?_
                          refine pw_ld E (pc' := 172) (st' := [pw_i k159_2, .ref 142]) rfl (fun _ => rfl) ?_
                          refine pw_ald2 h17I E (c := 126) (pc' := 173) rfl rfl rfl (by decide) rfl (by decide) (by omega) (by omega) rfl (fun hf103a hf103b => ?_)
                          refine pw_call (m' := 241) (As := [pw_i (pw_g h17 126 (k159_2.toNat))]) (rest := []) (ls'' := [some (pw_i (pw_g h17 126 (k159_2.toNat)))]) (Nat.le_trans (by decide) hd) E rfl (fun _ => pw_iS rfl rfl rfl) (rfl : pm_ent 241 = some (1, 1, 12, 1, pmc_241)) rfl rfl (cm_241_r (pw_dp hd (by decide)) h17I (pw_g h17 126 (k159_2.toNat)) (by omega) (by omega)) ?_
                          rintro u105 v104 ⟨rfl, x106, rfl, hx106a, hx106b, hx106r⟩
                          refine ⟨_, rfl, ?_⟩
                          show pw X d h17 238 176 [some (.ref 141), some (pw_i k17_1), some (pw_i k159_2), some (pw_i (pw_g gh17 126 (k17_2.toNat))), some (pw_i k17_2), some (.long (Int64.ofInt k159_5)), none] [pw_i x106] _
                          change (x106 = 1 ∧ 48 ≤ (pw_g h17 126 (k159_2.toNat)) ∧ (pw_g h17 126 (k159_2.toNat)) ≤ 57) ∨ (x106 = 0 ∧ ¬ (48 ≤ (pw_g h17 126 (k159_2.toNat)) ∧ (pw_g h17 126 (k159_2.toNat)) ≤ 57)) at hx106r
                          rcases (by omega : x106 = 1 ∨ x106 = 0) with hb107 | hb107
                          · skip
                            refine pw_if E (pc' := 218) rfl (by decide) (by omega) (by omega) ?_ ?_
                            · intro hc108
                              change x106 = (0 : Int) at hc108
                              exfalso; omega
                            · intro hc109
                              change ¬ (x106 = (0 : Int)) at hc109
                              refine pw_ld E (pc' := 180) (st' := [pw_i k159_2]) rfl (fun _ => rfl) ?_
                              refine pw_ld E (pc' := 182) (st' := [pw_i k17_2, pw_i k159_2]) rfl (fun _ => rfl) ?_
                              refine pw_sub E (pc' := 183) rfl rfl ?_
                              refine pw_ld E (pc' := 184) (st' := [pw_i 4, pw_i (k159_2 - k17_2)]) rfl (fun _ => rfl) ?_
                              refine pw_if2 E (pc' := 208) rfl (by decide) (by omega) (by omega) (by decide) (by decide) ?_ ?_
                              · intro hc110
                                change (4 : Int) ≤ k159_2 - k17_2 at hc110
                                refine pw_ld E (pc' := 210) (st' := [.long (Int64.ofInt k159_5)]) rfl (fun _ => rfl) ?_
                                refine pw_lst E (pc' := 212) (ls' := [some (.ref 141), some (pw_i k17_1), some (pw_i k159_2), some (pw_i (pw_g gh17 126 (k17_2.toNat))), some (pw_i k17_2), some (.long (Int64.ofInt k159_5)), none]) rfl rfl rfl rfl ?_
                                refine pw_inc E (pc' := 215) (ls' := [some (.ref 141), some (pw_i k17_1), some (pw_i (k159_2 + 1)), some (pw_i (pw_g gh17 126 (k17_2.toNat))), some (pw_i k17_2), some (.long (Int64.ofInt k159_5)), none]) rfl rfl rfl rfl ?_
                                refine pw_goto E (pc' := 159) rfl (by decide) ?_
                                exact ih159 _ (by omega) (k159_2 + 1) (k159_5)  (by omega) (by omega) (by omega) (by omega) (by omega) (by omega) (by omega) (by omega) (by omega) rfl
                              · intro hc111
                                change ¬ ((4 : Int) ≤ k159_2 - k17_2) at hc111
                                refine pw_ld E (pc' := 190) (st' := [.long (Int64.ofInt 10)]) rfl (fun _ => rfl) ?_
                                refine pw_ld E (pc' := 192) (st' := [.long (Int64.ofInt k159_5), .long (Int64.ofInt 10)]) rfl (fun _ => rfl) ?_
                                refine pw_lmul E (pc' := 193) rfl rfl ?_
                                refine pw_ld E (pc' := 194) (st' := [.ref 141, .long (Int64.ofInt (10 * k159_5))]) rfl (fun _ => rfl) ?_
                                refine pw_getR (b := 142) h17I E (c := 125) (k := 1) (pc' := 197) rfl rfl rfl rfl rfl rfl rfl ?_
                                refine pw_ld E (pc' := 198) (st' := [pw_i k159_2, .ref 142, .long (Int64.ofInt (10 * k159_5))]) rfl (fun _ => rfl) ?_
                                refine pw_ald2 h17I E (c := 126) (pc' := 199) rfl rfl rfl (by decide) rfl (by decide) (by omega) (by omega) rfl (fun hf112a hf112b => ?_)
                                refine pw_i2l E (pc' := 200) rfl rfl (by omega) (by omega) ?_
                                refine pw_ladd E (pc' := 201) rfl rfl ?_
                                refine pw_ld E (pc' := 204) (st' := [.long (Int64.ofInt 48), .long (Int64.ofInt ((10 * k159_5) + (pw_g h17 126 (k159_2.toNat))))]) rfl (fun _ => rfl) ?_
                                refine pw_lsub E (pc' := 205) rfl rfl ?_
                                refine pw_goto E (pc' := 210) rfl (by decide) ?_
                                refine pw_lst E (pc' := 212) (ls' := [some (.ref 141), some (pw_i k17_1), some (pw_i k159_2), some (pw_i (pw_g gh17 126 (k17_2.toNat))), some (pw_i k17_2), some (.long (Int64.ofInt (((10 * k159_5) + (pw_g h17 126 (k159_2.toNat))) - 48))), none]) rfl rfl rfl rfl ?_
                                refine pw_inc E (pc' := 215) (ls' := [some (.ref 141), some (pw_i k17_1), some (pw_i (k159_2 + 1)), some (pw_i (pw_g gh17 126 (k17_2.toNat))), some (pw_i k17_2), some (.long (Int64.ofInt (((10 * k159_5) + (pw_g h17 126 (k159_2.toNat))) - 48))), none]) rfl rfl rfl rfl ?_
                                refine pw_goto E (pc' := 159) rfl (by decide) ?_
                                exact ih159 _ (by omega) (k159_2 + 1) (((10 * k159_5) + (pw_g h17 126 (k159_2.toNat))) - 48)  (by omega) (by omega) (by omega) (by omega) (by omega) (by omega) (by omega) (by omega) (by omega) rfl
                          · skip
                            refine pw_if E (pc' := 218) rfl (by decide) (by omega) (by omega) ?_ ?_
                            · intro hc114
                              change x106 = (0 : Int) at hc114
                              refine pw_ld E (pc' := 219) (st' := [.ref 141]) rfl (fun _ => rfl) ?_
                              refine pw_getR (b := 143) h17I E (c := 125) (k := 4) (pc' := 222) rfl rfl rfl rfl rfl rfl rfl ?_
                              refine pw_ld E (pc' := 223) (st' := [pw_i k17_1, .ref 143]) rfl (fun _ => rfl) ?_
                              refine pw_ld E (pc' := 224) (st' := [pw_i k159_2, pw_i k17_1, .ref 143]) rfl (fun _ => rfl) ?_
                              refine pw_ld E (pc' := 226) (st' := [pw_i k17_2, pw_i k159_2, pw_i k17_1, .ref 143]) rfl (fun _ => rfl) ?_
                              refine pw_sub E (pc' := 227) rfl rfl ?_
                              refine pw_ld E (pc' := 228) (st' := [pw_i 4, pw_i (k159_2 - k17_2), pw_i k17_1, .ref 143]) rfl (fun _ => rfl) ?_
                              refine pw_if2 E (pc' := 235) rfl (by decide) (by omega) (by omega) (by decide) (by decide) ?_ ?_
                              · intro hc115
                                change k159_2 - k17_2 ≤ (4 : Int) at hc115
                                refine pw_ld E (pc' := 236) (st' := [pw_i 2, pw_i k17_1, .ref 143]) rfl (fun _ => rfl) ?_
                                refine pw_ast0 h17I E (c := 127) (pc' := 237) rfl rfl rfl (by decide) rfl (by decide) (by omega) (by omega) rfl (by omega) (by omega) (by omega) (by omega) rfl ?_
                                intro h116I h116E
                                generalize h116w : pw_w h17 127 (k17_1.toNat) (pw_i 2) = h116 at h116I h116E ⊢
                                have h116F := h17F.tr (h116E.wk (W' := [125, 127, 128, 129, 1002]) (by first | rfl | simp))
                                refine pw_goto E (pc' := 265) rfl (by decide) ?_
                                refine pw_ld E (pc' := 266) (st' := [.ref 141]) rfl (fun _ => rfl) ?_
                                refine pw_getR (b := 145) h116I E (c := 125) (k := 6) (pc' := 269) rfl rfl rfl rfl rfl rfl rfl ?_
                                refine pw_ld E (pc' := 270) (st' := [pw_i k17_1, .ref 145]) rfl (fun _ => rfl) ?_
                                refine pw_ld E (pc' := 272) (st' := [.long (Int64.ofInt k159_5), pw_i k17_1, .ref 145]) rfl (fun _ => rfl) ?_
                                refine pw_last h116I E (c := 129) (pc' := 273) rfl rfl rfl (by decide) (by omega) (by omega) rfl ?_
                                intro h117I h117E
                                generalize h117w : pw_w h116 129 (k17_1.toNat) (.long (Int64.ofInt k159_5)) = h117 at h117I h117E ⊢
                                have h117F := h116F.tr (h117E.wk (W' := [125, 127, 128, 129, 1002]) (by first | rfl | simp))
                                refine pw_inc E (pc' := 276) (ls' := [some (.ref 141), some (pw_i (k17_1 + 1)), some (pw_i k159_2), some (pw_i (pw_g gh17 126 (k17_2.toNat))), some (pw_i k17_2), some (.long (Int64.ofInt k159_5)), none]) rfl rfl rfl rfl ?_
                                refine pw_goto E (pc' := 17) rfl (by decide) ?_
                                have he118 : pw_g h117 125 3 = pw_g h116 125 3 := by rw [← h117w]; exact pw_g_ne (by omega)
                                have he119 : pw_g h116 125 3 = pw_g h17 125 3 := by rw [← h116w]; exact pw_g_ne (by omega)
                                have he120 : pw_g h117 125 2 = pw_g h116 125 2 := by rw [← h117w]; exact pw_g_ne (by omega)
                                have he121 : pw_g h116 125 2 = pw_g h17 125 2 := by rw [← h116w]; exact pw_g_ne (by omega)
                                have he122 : pw_g h17 125 2 = pw_g gh17 125 2 := by rw [← h17w]; exact pw_g_ne (by omega)
                                exact ih17 _ (by omega) (k17_1 + 1) (k159_2) (some (pw_i (pw_g gh17 126 (k17_2.toNat)))) (some (pw_i k17_2)) (some (.long (Int64.ofInt k159_5))) h117 h117I h117F (by omega) (by omega) (by omega) (by omega) (by omega) (by omega) (by first | exact hx17_2 | exact pw_NV.st hx17_2 (by omega) (by omega) (by assumption) (by assumption) (by assumption) (by assumption) (by assumption) (by omega) (by omega) (by first | exact Or.inl (by decide) | exact Or.inr (by rw [pw_lToInt (by omega) (by omega)]; omega))) (by omega) rfl
                              · intro hc123
                                change ¬ (k159_2 - k17_2 ≤ (4 : Int)) at hc123
                                refine pw_ld E (pc' := 232) (st' := [pw_i 4, pw_i k17_1, .ref 143]) rfl (fun _ => rfl) ?_
                                refine pw_goto E (pc' := 236) rfl (by decide) ?_
                                refine pw_ast0 h17I E (c := 127) (pc' := 237) rfl rfl rfl (by decide) rfl (by decide) (by omega) (by omega) rfl (by omega) (by omega) (by omega) (by omega) rfl ?_
                                intro h124I h124E
                                generalize h124w : pw_w h17 127 (k17_1.toNat) (pw_i 4) = h124 at h124I h124E ⊢
                                have h124F := h17F.tr (h124E.wk (W' := [125, 127, 128, 129, 1002]) (by first | rfl | simp))
                                refine pw_goto E (pc' := 265) rfl (by decide) ?_
                                refine pw_ld E (pc' := 266) (st' := [.ref 141]) rfl (fun _ => rfl) ?_
                                refine pw_getR (b := 145) h124I E (c := 125) (k := 6) (pc' := 269) rfl rfl rfl rfl rfl rfl rfl ?_
                                refine pw_ld E (pc' := 270) (st' := [pw_i k17_1, .ref 145]) rfl (fun _ => rfl) ?_
                                refine pw_ld E (pc' := 272) (st' := [.long (Int64.ofInt k159_5), pw_i k17_1, .ref 145]) rfl (fun _ => rfl) ?_
                                refine pw_last h124I E (c := 129) (pc' := 273) rfl rfl rfl (by decide) (by omega) (by omega) rfl ?_
                                intro h125I h125E
                                generalize h125w : pw_w h124 129 (k17_1.toNat) (.long (Int64.ofInt k159_5)) = h125 at h125I h125E ⊢
                                have h125F := h124F.tr (h125E.wk (W' := [125, 127, 128, 129, 1002]) (by first | rfl | simp))
                                refine pw_inc E (pc' := 276) (ls' := [some (.ref 141), some (pw_i (k17_1 + 1)), some (pw_i k159_2), some (pw_i (pw_g gh17 126 (k17_2.toNat))), some (pw_i k17_2), some (.long (Int64.ofInt k159_5)), none]) rfl rfl rfl rfl ?_
                                refine pw_goto E (pc' := 17) rfl (by decide) ?_
                                have he126 : pw_g h125 125 3 = pw_g h124 125 3 := by rw [← h125w]; exact pw_g_ne (by omega)
                                have he127 : pw_g h124 125 3 = pw_g h17 125 3 := by rw [← h124w]; exact pw_g_ne (by omega)
                                have he128 : pw_g h125 125 2 = pw_g h124 125 2 := by rw [← h125w]; exact pw_g_ne (by omega)
                                have he129 : pw_g h124 125 2 = pw_g h17 125 2 := by rw [← h124w]; exact pw_g_ne (by omega)
                                have he130 : pw_g h17 125 2 = pw_g gh17 125 2 := by rw [← h17w]; exact pw_g_ne (by omega)
                                exact ih17 _ (by omega) (k17_1 + 1) (k159_2) (some (pw_i (pw_g gh17 126 (k17_2.toNat)))) (some (pw_i k17_2)) (some (.long (Int64.ofInt k159_5))) h125 h125I h125F (by omega) (by omega) (by omega) (by omega) (by omega) (by omega) (by first | exact hx17_2 | exact pw_NV.st hx17_2 (by omega) (by omega) (by assumption) (by assumption) (by assumption) (by assumption) (by assumption) (by omega) (by omega) (by first | exact Or.inl (by decide) | exact Or.inr (by rw [pw_lToInt (by omega) (by omega)]; omega))) (by omega) rfl
                            · intro hc131
                              change ¬ (x106 = (0 : Int)) at hc131
                              exfalso; omega
                    have he132 : pw_g h17 125 3 = pw_g gh17 125 3 := by rw [← h17w]; exact pw_g_ne (by omega)
                    exact L159 _ (k17_2) (0)  (by omega) (by omega) (by omega) (by omega) (by omega) (by omega) (by omega) (by omega) (by omega) rfl
                · skip
                  refine pw_if E (pc' := 240) rfl (by decide) (by omega) (by omega) ?_ ?_
                  · intro hc134
                    change x80 = (0 : Int) at hc134
                    refine pw_ld E (pc' := 241) (st' := [pw_i (pw_g gh17 126 (k17_2.toNat))]) rfl (fun _ => rfl) ?_
                    refine pw_i2l E (pc' := 242) rfl rfl (by omega) (by omega) ?_
                    refine pw_lst E (pc' := 244) (ls' := [some (.ref 141), some (pw_i k17_1), some (pw_i k17_2), some (pw_i (pw_g gh17 126 (k17_2.toNat))), some (pw_i k17_2), some (.long (Int64.ofInt (pw_g gh17 126 (k17_2.toNat)))), none]) rfl rfl rfl rfl ?_
                    refine pw_ld E (pc' := 245) (st' := [.ref 141]) rfl (fun _ => rfl) ?_
                    refine pw_getR (b := 143) h17I E (c := 125) (k := 4) (pc' := 248) rfl rfl rfl rfl rfl rfl rfl ?_
                    refine pw_ld E (pc' := 249) (st' := [pw_i k17_1, .ref 143]) rfl (fun _ => rfl) ?_
                    refine pw_ld E (pc' := 250) (st' := [pw_i (pw_g gh17 126 (k17_2.toNat)), pw_i k17_1, .ref 143]) rfl (fun _ => rfl) ?_
                    refine pw_call (m' := 242) (As := [pw_i (pw_g gh17 126 (k17_2.toNat))]) (rest := [pw_i k17_1, .ref 143]) (ls'' := [some (pw_i (pw_g gh17 126 (k17_2.toNat)))]) (Nat.le_trans (by decide) hd) E rfl (fun _ => pw_iS rfl rfl rfl) (rfl : pm_ent 242 = some (1, 1, 12, 1, pmc_242)) rfl rfl (cm_242 (pw_dp hd (by decide)) h17I (pw_g gh17 126 (k17_2.toNat)) (by omega) (by omega)) ?_
                    rintro u136 v135 ⟨rfl, x137, rfl, hx137a, hx137b⟩
                    refine ⟨_, rfl, ?_⟩
                    show pw X d h17 238 253 [some (.ref 141), some (pw_i k17_1), some (pw_i k17_2), some (pw_i (pw_g gh17 126 (k17_2.toNat))), some (pw_i k17_2), some (.long (Int64.ofInt (pw_g gh17 126 (k17_2.toNat)))), none] [pw_i x137, pw_i k17_1, .ref 143] _
                    refine pw_if E (pc' := 260) rfl (by decide) (by omega) (by omega) ?_ ?_
                    · intro hc138
                      change x137 = (0 : Int) at hc138
                      refine pw_ld E (pc' := 261) (st' := [pw_i 4, pw_i k17_1, .ref 143]) rfl (fun _ => rfl) ?_
                      refine pw_ast0 h17I E (c := 127) (pc' := 262) rfl rfl rfl (by decide) rfl (by decide) (by omega) (by omega) rfl (by omega) (by omega) (by omega) (by omega) rfl ?_
                      intro h139I h139E
                      generalize h139w : pw_w h17 127 (k17_1.toNat) (pw_i 4) = h139 at h139I h139E ⊢
                      have h139F := h17F.tr (h139E.wk (W' := [125, 127, 128, 129, 1002]) (by first | rfl | simp))
                      refine pw_inc E (pc' := 265) (ls' := [some (.ref 141), some (pw_i k17_1), some (pw_i (k17_2 + 1)), some (pw_i (pw_g gh17 126 (k17_2.toNat))), some (pw_i k17_2), some (.long (Int64.ofInt (pw_g gh17 126 (k17_2.toNat)))), none]) rfl rfl rfl rfl ?_
                      refine pw_ld E (pc' := 266) (st' := [.ref 141]) rfl (fun _ => rfl) ?_
                      refine pw_getR (b := 145) h139I E (c := 125) (k := 6) (pc' := 269) rfl rfl rfl rfl rfl rfl rfl ?_
                      refine pw_ld E (pc' := 270) (st' := [pw_i k17_1, .ref 145]) rfl (fun _ => rfl) ?_
                      refine pw_ld E (pc' := 272) (st' := [.long (Int64.ofInt (pw_g gh17 126 (k17_2.toNat))), pw_i k17_1, .ref 145]) rfl (fun _ => rfl) ?_
                      refine pw_last h139I E (c := 129) (pc' := 273) rfl rfl rfl (by decide) (by omega) (by omega) rfl ?_
                      intro h140I h140E
                      generalize h140w : pw_w h139 129 (k17_1.toNat) (.long (Int64.ofInt (pw_g gh17 126 (k17_2.toNat)))) = h140 at h140I h140E ⊢
                      have h140F := h139F.tr (h140E.wk (W' := [125, 127, 128, 129, 1002]) (by first | rfl | simp))
                      refine pw_inc E (pc' := 276) (ls' := [some (.ref 141), some (pw_i (k17_1 + 1)), some (pw_i (k17_2 + 1)), some (pw_i (pw_g gh17 126 (k17_2.toNat))), some (pw_i k17_2), some (.long (Int64.ofInt (pw_g gh17 126 (k17_2.toNat)))), none]) rfl rfl rfl rfl ?_
                      refine pw_goto E (pc' := 17) rfl (by decide) ?_
                      have he141 : pw_g h140 125 3 = pw_g h139 125 3 := by rw [← h140w]; exact pw_g_ne (by omega)
                      have he142 : pw_g h139 125 3 = pw_g h17 125 3 := by rw [← h139w]; exact pw_g_ne (by omega)
                      have he143 : pw_g h17 125 3 = pw_g gh17 125 3 := by rw [← h17w]; exact pw_g_ne (by omega)
                      have he144 : pw_g h140 125 2 = pw_g h139 125 2 := by rw [← h140w]; exact pw_g_ne (by omega)
                      have he145 : pw_g h139 125 2 = pw_g h17 125 2 := by rw [← h139w]; exact pw_g_ne (by omega)
                      have he146 : pw_g h17 125 2 = pw_g gh17 125 2 := by rw [← h17w]; exact pw_g_ne (by omega)
                      exact ih17 _ (by omega) (k17_1 + 1) (k17_2 + 1) (some (pw_i (pw_g gh17 126 (k17_2.toNat)))) (some (pw_i k17_2)) (some (.long (Int64.ofInt (pw_g gh17 126 (k17_2.toNat))))) h140 h140I h140F (by omega) (by omega) (by omega) (by omega) (by omega) (by omega) (by first | exact hx17_2 | exact pw_NV.st hx17_2 (by omega) (by omega) (by assumption) (by assumption) (by assumption) (by assumption) (by assumption) (by omega) (by omega) (by first | exact Or.inl (by decide) | exact Or.inr (by rw [pw_lToInt (by omega) (by omega)]; omega))) (by omega) rfl
                    · intro hc147
                      change ¬ (x137 = (0 : Int)) at hc147
                      refine pw_ld E (pc' := 257) (st' := [pw_i 3, pw_i k17_1, .ref 143]) rfl (fun _ => rfl) ?_
                      refine pw_goto E (pc' := 261) rfl (by decide) ?_
                      refine pw_ast0 h17I E (c := 127) (pc' := 262) rfl rfl rfl (by decide) rfl (by decide) (by omega) (by omega) rfl (by omega) (by omega) (by omega) (by omega) rfl ?_
                      intro h148I h148E
                      generalize h148w : pw_w h17 127 (k17_1.toNat) (pw_i 3) = h148 at h148I h148E ⊢
                      have h148F := h17F.tr (h148E.wk (W' := [125, 127, 128, 129, 1002]) (by first | rfl | simp))
                      refine pw_inc E (pc' := 265) (ls' := [some (.ref 141), some (pw_i k17_1), some (pw_i (k17_2 + 1)), some (pw_i (pw_g gh17 126 (k17_2.toNat))), some (pw_i k17_2), some (.long (Int64.ofInt (pw_g gh17 126 (k17_2.toNat)))), none]) rfl rfl rfl rfl ?_
                      refine pw_ld E (pc' := 266) (st' := [.ref 141]) rfl (fun _ => rfl) ?_
                      refine pw_getR (b := 145) h148I E (c := 125) (k := 6) (pc' := 269) rfl rfl rfl rfl rfl rfl rfl ?_
                      refine pw_ld E (pc' := 270) (st' := [pw_i k17_1, .ref 145]) rfl (fun _ => rfl) ?_
                      refine pw_ld E (pc' := 272) (st' := [.long (Int64.ofInt (pw_g gh17 126 (k17_2.toNat))), pw_i k17_1, .ref 145]) rfl (fun _ => rfl) ?_
                      refine pw_last h148I E (c := 129) (pc' := 273) rfl rfl rfl (by decide) (by omega) (by omega) rfl ?_
                      intro h149I h149E
                      generalize h149w : pw_w h148 129 (k17_1.toNat) (.long (Int64.ofInt (pw_g gh17 126 (k17_2.toNat)))) = h149 at h149I h149E ⊢
                      have h149F := h148F.tr (h149E.wk (W' := [125, 127, 128, 129, 1002]) (by first | rfl | simp))
                      refine pw_inc E (pc' := 276) (ls' := [some (.ref 141), some (pw_i (k17_1 + 1)), some (pw_i (k17_2 + 1)), some (pw_i (pw_g gh17 126 (k17_2.toNat))), some (pw_i k17_2), some (.long (Int64.ofInt (pw_g gh17 126 (k17_2.toNat)))), none]) rfl rfl rfl rfl ?_
                      refine pw_goto E (pc' := 17) rfl (by decide) ?_
                      have he150 : pw_g h149 125 3 = pw_g h148 125 3 := by rw [← h149w]; exact pw_g_ne (by omega)
                      have he151 : pw_g h148 125 3 = pw_g h17 125 3 := by rw [← h148w]; exact pw_g_ne (by omega)
                      have he152 : pw_g h17 125 3 = pw_g gh17 125 3 := by rw [← h17w]; exact pw_g_ne (by omega)
                      have he153 : pw_g h149 125 2 = pw_g h148 125 2 := by rw [← h149w]; exact pw_g_ne (by omega)
                      have he154 : pw_g h148 125 2 = pw_g h17 125 2 := by rw [← h148w]; exact pw_g_ne (by omega)
                      have he155 : pw_g h17 125 2 = pw_g gh17 125 2 := by rw [← h17w]; exact pw_g_ne (by omega)
                      exact ih17 _ (by omega) (k17_1 + 1) (k17_2 + 1) (some (pw_i (pw_g gh17 126 (k17_2.toNat)))) (some (pw_i k17_2)) (some (.long (Int64.ofInt (pw_g gh17 126 (k17_2.toNat))))) h149 h149I h149F (by omega) (by omega) (by omega) (by omega) (by omega) (by omega) (by first | exact hx17_2 | exact pw_NV.st hx17_2 (by omega) (by omega) (by assumption) (by assumption) (by assumption) (by assumption) (by assumption) (by omega) (by omega) (by first | exact Or.inl (by decide) | exact Or.inr (by rw [pw_lToInt (by omega) (by omega)]; omega))) (by omega) rfl
                  · intro hc156
                    change ¬ (x80 = (0 : Int)) at hc156
                    exfalso; omega
              · intro hc157
                change ¬ (x20 = (0 : Int)) at hc157
                exfalso; omega
          · intro hc158
            change ¬ (pw_g gh17 126 (k17_2.toNat) ≠ (32 : Int)) at hc158
            refine pw_inc E (pc' := 47) (ls' := [some (.ref 141), some (pw_i k17_1), some (pw_i (k17_2 + 1)), some (pw_i (pw_g gh17 126 (k17_2.toNat))), k17_4, k17_5, none]) rfl rfl rfl rfl ?_
            refine pw_goto E (pc' := 17) rfl (by decide) ?_
            exact ih17 _ (by omega) (k17_1) (k17_2 + 1) (some (pw_i (pw_g gh17 126 (k17_2.toNat)))) k17_4 k17_5 gh17 I17 E17 (by omega) (by omega) (by omega) (by omega) (by omega) (by omega) (by first | exact hx17_2 | exact pw_NV.st hx17_2 (by omega) (by omega) (by assumption) (by assumption) (by assumption) (by assumption) (by assumption) (by omega) (by omega) (by first | exact Or.inl (by decide) | exact Or.inr (by rw [pw_lToInt (by omega) (by omega)]; omega))) (by omega) rfl
  have he159 : pw_g h3 125 3 = pw_g h2 125 3 := by rw [← h3w]; exact pw_g_ne (by omega)
  have he160 : pw_g h2 125 3 = pw_g h 125 2 := by rw [← h2w]; exact pw_g_eq (c := 125) (k := 3) I rfl rfl (by omega) (by omega)
  have he161 : pw_g h3 125 2 = 0 := by rw [← h3w]; exact pw_g_eq (c := 125) (k := 2) h2I rfl rfl (by omega) (by omega)
  exact L17 _ (0) (0) (none) (none) (none) h3 h3I h3F (by omega) (by omega) (by omega) (by omega) (by omega) (by omega) (fun j hj => absurd hj (by omega)) (by omega) rfl
set_option maxHeartbeats 4000000 in
theorem cm_237_f {X : List (Nat × List Value)} {d : Nat} {h : pm_H} (hd : 34 ≤ d) (I : pw_I h) (l : Int) (hl1 : (-2147483648) ≤ l) (hl2 : l ≤ 2147483647) (hp0 : pw_K h) : pw X d h 237 0 [some (.ref 141), some (pw_i l), none] [] (fun h' v => pw_I h' ∧ pw_E [125, 127, 128, 129, 145, 146, 147, 1002] h h' ∧ (pw_K h' ∧ pw_g h' 125 2 = 0) ∧ (∃ a : Int, v = .inl (some (pw_i a)) ∧ (-2147483648) ≤ a ∧ a ≤ 2147483647)) := by
  have E : pm_ent 237 = some (2, 3, 12, 0, pmc_237) := rfl
  have E0 : pw_E [125, 127, 128, 129, 145, 146, 147, 1002] h h := pw_E.rf _ _
  refine pw_ld E (pc' := 1) (st' := [.ref 141]) rfl (fun _ => rfl) ?_
  refine pw_ld E (pc' := 2) (st' := [pw_i 0, .ref 141]) rfl (fun _ => rfl) ?_
  refine pw_putI I E (c := 125) (k := 0) (pc' := 5) rfl rfl rfl rfl (by omega) (by omega) (by omega) (by omega) rfl rfl ?_
  intro h1I h1E
  generalize h1w : pw_w h 125 0 (pw_i 0) = h1 at h1I h1E ⊢
  have h1F := E0.tr (h1E.wk (W' := [125, 127, 128, 129, 145, 146, 147, 1002]) (by first | rfl | simp))
  refine pw_ld E (pc' := 6) (st' := [pw_i l]) rfl (fun _ => rfl) ?_
  refine pw_ld E (pc' := 7) (st' := [pw_i 0, pw_i l]) rfl (fun _ => rfl) ?_
  refine pw_ld E (pc' := 8) (st' := [pw_i 3, pw_i 0, pw_i l]) rfl (fun _ => rfl) ?_
  refine pw_call (m' := 202) (As := [pw_i l, pw_i 0, pw_i 3]) (rest := []) (ls'' := [some (pw_i l), some (pw_i 0), some (pw_i 3)]) (Nat.le_trans (by decide) hd) E rfl (fun _ => pw_iS rfl rfl rfl) (rfl : pm_ent 202 = some (3, 3, 12, 1, pmc_202)) rfl rfl (cm_202 (pw_dp hd (by decide)) h1I (l) (by omega) (by omega) (0) (by omega) (by omega) (3) (by omega) (by omega)) ?_
  rintro u3 v2 ⟨rfl, x4, rfl, hx4a, hx4b, hx4r⟩
  refine ⟨_, rfl, ?_⟩
  show pw X d h1 237 11 [some (.ref 141), some (pw_i l), none] [pw_i x4] _
  change (x4 = 1 ∧ 0 ≤ l ∧ l ≤ 3) ∨ (x4 = 0 ∧ ¬ (0 ≤ l ∧ l ≤ 3)) at hx4r
  rcases (by omega : x4 = 1 ∨ x4 = 0) with hb5 | hb5
  · skip
    refine pw_if E (pc' := 21) rfl (by decide) (by omega) (by omega) ?_ ?_
    · intro hc6
      change x4 ≠ (0 : Int) at hc6
      refine pw_ld E (pc' := 22) (st' := [.ref 141]) rfl (fun _ => rfl) ?_
      obtain ⟨f7l, f7h, -⟩ := pw_obj (c := 125) h1I rfl
      refine pw_call (m' := 238) (As := [.ref 141]) (rest := []) (ls'' := [some (.ref 141), none, none, none, none, none, none]) (Nat.le_trans (by decide) hd) E rfl (fun _ => pw_iV rfl rfl rfl rfl (pw_cellI f7h rfl)) (rfl : pm_ent 238 = some (1, 7, 12, 4, pmc_238)) rfl rfl (cm_238_f (pw_dp hd (by decide)) h1I ) ?_
      rintro h8 v9 ⟨h8I, h8E, hqcut, rfl⟩
      refine ⟨_, rfl, ?_⟩
      have h8F := h1F.tr (h8E.wk (W' := [125, 127, 128, 129, 145, 146, 147, 1002]) (by first | rfl | simp))
      show pw X d h8 237 25 [some (.ref 141), some (pw_i l), none] [] _
      obtain ⟨⟨n, hA0, hz7, hz8, hV0⟩, hz2⟩ := hqcut
      refine pw_ld E (pc' := 26) (st' := [.ref 141]) rfl (fun _ => rfl) ?_
      refine pw_ld E (pc' := 27) (st' := [pw_i 0, .ref 141]) rfl (fun _ => rfl) ?_
      refine pw_putI h8I E (c := 125) (k := 32) (pc' := 30) rfl rfl rfl rfl (by omega) (by omega) (by omega) (by omega) rfl rfl ?_
      intro h10I h10E
      generalize h10w : pw_w h8 125 32 (pw_i 0) = h10 at h10I h10E ⊢
      have h10F := h8F.tr (h10E.wk (W' := [125, 127, 128, 129, 145, 146, 147, 1002]) (by first | rfl | simp))
      refine pw_ld E (pc' := 31) (st' := [.ref 141]) rfl (fun _ => rfl) ?_
      refine pw_ld E (pc' := 32) (st' := [pw_i 0, .ref 141]) rfl (fun _ => rfl) ?_
      refine pw_putZ h10I E (c := 125) (k := 45) (pc' := 35) rfl rfl rfl rfl (by omega) (by omega) (by omega) rfl rfl ?_
      intro h11I h11E
      generalize h11w : pw_w h10 125 45 (pw_i 0) = h11 at h11I h11E ⊢
      have h11F := h10F.tr (h11E.wk (W' := [125, 127, 128, 129, 145, 146, 147, 1002]) (by first | rfl | simp))
      refine pw_ld E (pc' := 36) (st' := [pw_i 0]) rfl (fun _ => rfl) ?_
      refine pw_istn E (pc' := 37) (ls' := [some (.ref 141), some (pw_i l), some (pw_i 0)]) rfl rfl rfl rfl ?_
      refine pw_ld E (pc' := 38) (st' := [pw_i 0]) rfl (fun _ => rfl) ?_
      refine pw_ld E (pc' := 39) (st' := [pw_i 4, pw_i 0]) rfl (fun _ => rfl) ?_
      refine pw_if2 E (pc' := 58) rfl (by decide) (by decide) (by decide) (by decide) (by decide) ?_ ?_
      · intro hc12
        change (4 : Int) ≤ (0 : Int) at hc12
        exfalso; omega
      · intro hc13
        change ¬ ((4 : Int) ≤ (0 : Int)) at hc13
        refine pw_ld E (pc' := 43) (st' := [.ref 141]) rfl (fun _ => rfl) ?_
        refine pw_getR (b := 161) h11I E (c := 125) (k := 31) (pc' := 46) rfl rfl rfl rfl rfl rfl rfl ?_
        refine pw_bip E (pc' := 48) rfl rfl (by decide) ?_
        refine pw_ld E (pc' := 49) (st' := [pw_i 0, pw_i 16, .ref 161]) rfl (fun _ => rfl) ?_
        refine pw_add E (pc' := 50) rfl rfl ?_
        refine pw_ld E (pc' := 51) (st' := [pw_i ((-1)), pw_i (16 + 0), .ref 161]) rfl (fun _ => rfl) ?_
        refine pw_ast0 h11I E (c := 145) (pc' := 52) rfl rfl rfl (by decide) rfl (by decide) (by omega) (by omega) rfl (by omega) (by omega) (by omega) (by omega) rfl ?_
        intro h14I h14E
        generalize h14w : pw_w h11 145 (((16 + 0) : Int).toNat) (pw_i ((-1))) = h14 at h14I h14E ⊢
        have h14F := h11F.tr (h14E.wk (W' := [125, 127, 128, 129, 145, 146, 147, 1002]) (by first | rfl | simp))
        refine pw_inc E (pc' := 55) (ls' := [some (.ref 141), some (pw_i l), some (pw_i (0 + 1))]) rfl rfl rfl rfl ?_
        refine pw_goto E (pc' := 37) rfl (by decide) ?_
        refine pw_ld E (pc' := 38) (st' := [pw_i (0 + 1)]) rfl (fun _ => rfl) ?_
        refine pw_ld E (pc' := 39) (st' := [pw_i 4, pw_i (0 + 1)]) rfl (fun _ => rfl) ?_
        refine pw_if2 E (pc' := 58) rfl (by decide) (by decide) (by decide) (by decide) (by decide) ?_ ?_
        · intro hc15
          change (4 : Int) ≤ 0 + 1 at hc15
          exfalso; omega
        · intro hc16
          change ¬ ((4 : Int) ≤ 0 + 1) at hc16
          refine pw_ld E (pc' := 43) (st' := [.ref 141]) rfl (fun _ => rfl) ?_
          refine pw_getR (b := 161) h14I E (c := 125) (k := 31) (pc' := 46) rfl rfl rfl rfl rfl rfl rfl ?_
          refine pw_bip E (pc' := 48) rfl rfl (by decide) ?_
          refine pw_ld E (pc' := 49) (st' := [pw_i (0 + 1), pw_i 16, .ref 161]) rfl (fun _ => rfl) ?_
          refine pw_add E (pc' := 50) rfl rfl ?_
          refine pw_ld E (pc' := 51) (st' := [pw_i ((-1)), pw_i (16 + (0 + 1)), .ref 161]) rfl (fun _ => rfl) ?_
          refine pw_ast0 h14I E (c := 145) (pc' := 52) rfl rfl rfl (by decide) rfl (by decide) (by omega) (by omega) rfl (by omega) (by omega) (by omega) (by omega) rfl ?_
          intro h17I h17E
          generalize h17w : pw_w h14 145 (((16 + (0 + 1)) : Int).toNat) (pw_i ((-1))) = h17 at h17I h17E ⊢
          have h17F := h14F.tr (h17E.wk (W' := [125, 127, 128, 129, 145, 146, 147, 1002]) (by first | rfl | simp))
          refine pw_inc E (pc' := 55) (ls' := [some (.ref 141), some (pw_i l), some (pw_i ((0 + 1) + 1))]) rfl rfl rfl rfl ?_
          refine pw_goto E (pc' := 37) rfl (by decide) ?_
          refine pw_ld E (pc' := 38) (st' := [pw_i ((0 + 1) + 1)]) rfl (fun _ => rfl) ?_
          refine pw_ld E (pc' := 39) (st' := [pw_i 4, pw_i ((0 + 1) + 1)]) rfl (fun _ => rfl) ?_
          refine pw_if2 E (pc' := 58) rfl (by decide) (by decide) (by decide) (by decide) (by decide) ?_ ?_
          · intro hc18
            change (4 : Int) ≤ (0 + 1) + 1 at hc18
            exfalso; omega
          · intro hc19
            change ¬ ((4 : Int) ≤ (0 + 1) + 1) at hc19
            refine pw_ld E (pc' := 43) (st' := [.ref 141]) rfl (fun _ => rfl) ?_
            refine pw_getR (b := 161) h17I E (c := 125) (k := 31) (pc' := 46) rfl rfl rfl rfl rfl rfl rfl ?_
            refine pw_bip E (pc' := 48) rfl rfl (by decide) ?_
            refine pw_ld E (pc' := 49) (st' := [pw_i ((0 + 1) + 1), pw_i 16, .ref 161]) rfl (fun _ => rfl) ?_
            refine pw_add E (pc' := 50) rfl rfl ?_
            refine pw_ld E (pc' := 51) (st' := [pw_i ((-1)), pw_i (16 + ((0 + 1) + 1)), .ref 161]) rfl (fun _ => rfl) ?_
            refine pw_ast0 h17I E (c := 145) (pc' := 52) rfl rfl rfl (by decide) rfl (by decide) (by omega) (by omega) rfl (by omega) (by omega) (by omega) (by omega) rfl ?_
            intro h20I h20E
            generalize h20w : pw_w h17 145 (((16 + ((0 + 1) + 1)) : Int).toNat) (pw_i ((-1))) = h20 at h20I h20E ⊢
            have h20F := h17F.tr (h20E.wk (W' := [125, 127, 128, 129, 145, 146, 147, 1002]) (by first | rfl | simp))
            refine pw_inc E (pc' := 55) (ls' := [some (.ref 141), some (pw_i l), some (pw_i (((0 + 1) + 1) + 1))]) rfl rfl rfl rfl ?_
            refine pw_goto E (pc' := 37) rfl (by decide) ?_
            refine pw_ld E (pc' := 38) (st' := [pw_i (((0 + 1) + 1) + 1)]) rfl (fun _ => rfl) ?_
            refine pw_ld E (pc' := 39) (st' := [pw_i 4, pw_i (((0 + 1) + 1) + 1)]) rfl (fun _ => rfl) ?_
            refine pw_if2 E (pc' := 58) rfl (by decide) (by decide) (by decide) (by decide) (by decide) ?_ ?_
            · intro hc21
              change (4 : Int) ≤ ((0 + 1) + 1) + 1 at hc21
              exfalso; omega
            · intro hc22
              change ¬ ((4 : Int) ≤ ((0 + 1) + 1) + 1) at hc22
              refine pw_ld E (pc' := 43) (st' := [.ref 141]) rfl (fun _ => rfl) ?_
              refine pw_getR (b := 161) h20I E (c := 125) (k := 31) (pc' := 46) rfl rfl rfl rfl rfl rfl rfl ?_
              refine pw_bip E (pc' := 48) rfl rfl (by decide) ?_
              refine pw_ld E (pc' := 49) (st' := [pw_i (((0 + 1) + 1) + 1), pw_i 16, .ref 161]) rfl (fun _ => rfl) ?_
              refine pw_add E (pc' := 50) rfl rfl ?_
              refine pw_ld E (pc' := 51) (st' := [pw_i ((-1)), pw_i (16 + (((0 + 1) + 1) + 1)), .ref 161]) rfl (fun _ => rfl) ?_
              refine pw_ast0 h20I E (c := 145) (pc' := 52) rfl rfl rfl (by decide) rfl (by decide) (by omega) (by omega) rfl (by omega) (by omega) (by omega) (by omega) rfl ?_
              intro h23I h23E
              generalize h23w : pw_w h20 145 (((16 + (((0 + 1) + 1) + 1)) : Int).toNat) (pw_i ((-1))) = h23 at h23I h23E ⊢
              have h23F := h20F.tr (h23E.wk (W' := [125, 127, 128, 129, 145, 146, 147, 1002]) (by first | rfl | simp))
              refine pw_inc E (pc' := 55) (ls' := [some (.ref 141), some (pw_i l), some (pw_i ((((0 + 1) + 1) + 1) + 1))]) rfl rfl rfl rfl ?_
              refine pw_goto E (pc' := 37) rfl (by decide) ?_
              refine pw_ld E (pc' := 38) (st' := [pw_i ((((0 + 1) + 1) + 1) + 1)]) rfl (fun _ => rfl) ?_
              refine pw_ld E (pc' := 39) (st' := [pw_i 4, pw_i ((((0 + 1) + 1) + 1) + 1)]) rfl (fun _ => rfl) ?_
              refine pw_if2 E (pc' := 58) rfl (by decide) (by decide) (by decide) (by decide) (by decide) ?_ ?_
              · intro hc24
                change (4 : Int) ≤ (((0 + 1) + 1) + 1) + 1 at hc24
                have b7 : pw_g h23 125 7 = pw_g h8 125 7 := by rw [← h23w, pw_g_ne (by omega), ← h20w, pw_g_ne (by omega), ← h17w, pw_g_ne (by omega), ← h14w, pw_g_ne (by omega), ← h11w, pw_g_ne (by omega), ← h10w, pw_g_ne (by omega)]
                have b8 : pw_g h23 125 8 = pw_g h8 125 8 := by rw [← h23w, pw_g_ne (by omega), ← h20w, pw_g_ne (by omega), ← h17w, pw_g_ne (by omega), ← h14w, pw_g_ne (by omega), ← h11w, pw_g_ne (by omega), ← h10w, pw_g_ne (by omega)]
                have b9 : pw_g h23 125 32 = pw_g h10 125 32 := by rw [← h23w, pw_g_ne (by omega), ← h20w, pw_g_ne (by omega), ← h17w, pw_g_ne (by omega), ← h14w, pw_g_ne (by omega), ← h11w, pw_g_ne (by omega)]
                have bc : pw_g h10 125 32 = 0 := by rw [← h10w]; exact pw_g_eq (c := 125) (k := 32) h8I rfl rfl (by omega) (by omega)
                have hl25 : ∀ j : Nat, pw_g h23 127 j = pw_g h8 127 j := fun j => ((((((by rw [← h23w]; exact pw_g_ne (by omega) : pw_g h23 127 j = pw_g h20 127 j)).trans (by rw [← h20w]; exact pw_g_ne (by omega) : pw_g h20 127 j = pw_g h17 127 j)).trans (by rw [← h17w]; exact pw_g_ne (by omega) : pw_g h17 127 j = pw_g h14 127 j)).trans (by rw [← h14w]; exact pw_g_ne (by omega) : pw_g h14 127 j = pw_g h11 127 j)).trans (by rw [← h11w]; exact pw_g_ne (by omega) : pw_g h11 127 j = pw_g h10 127 j)).trans (by rw [← h10w]; exact pw_g_ne (by omega) : pw_g h10 127 j = pw_g h8 127 j)
                have bA : pw_A n h23 := ⟨hA0.1, by rw [hl25]; exact hA0.2.1, by omega, by omega, by omega, by omega⟩
                have bl0 : pw_g h23 145 16 = -1 := by rw [← h23w, pw_g_ne (by omega), ← h20w, pw_g_ne (by omega), ← h17w, pw_g_ne (by omega), ← h14w]; exact pw_g_eqA h11I rfl (by decide) (by decide) (by decide)
                have bl1 : pw_g h23 145 17 = -1 := by rw [← h23w, pw_g_ne (by omega), ← h20w, pw_g_ne (by omega), ← h17w]; exact pw_g_eqA h14I rfl (by decide) (by decide) (by decide)
                have bl2 : pw_g h23 145 18 = -1 := by rw [← h23w, pw_g_ne (by omega), ← h20w]; exact pw_g_eqA h17I rfl (by decide) (by decide) (by decide)
                have bl3 : pw_g h23 145 19 = -1 := by rw [← h23w]; exact pw_g_eqA h20I rfl (by decide) (by decide) (by decide)
                have bL : pw_Ls h23 := fun k hk => Or.inl (by rcases (by omega : k = 0 ∨ k = 1 ∨ k = 2 ∨ k = 3) with rfl | rfl | rfl | rfl; exact (show pw_g h23 145 16 < 0 by omega); exact (show pw_g h23 145 17 < 0 by omega); exact (show pw_g h23 145 18 < 0 by omega); exact (show pw_g h23 145 19 < 0 by omega))
                have b5 : ∀ j : Nat, j < 16 → pw_g h23 145 j = pw_g h11 145 j := fun j hj => by rw [← h23w, pw_g_ne (fun q => by have := q.2; omega), ← h20w, pw_g_ne (fun q => by have := q.2; omega), ← h17w, pw_g_ne (fun q => by have := q.2; omega), ← h14w, pw_g_ne (fun q => by have := q.2; omega)]
                have hl26 : ∀ j : Nat, pw_g h11 145 j = pw_g h 145 j := fun j => ((((by rw [← h11w]; exact pw_g_ne (by omega) : pw_g h11 145 j = pw_g h10 145 j)).trans (by rw [← h10w]; exact pw_g_ne (by omega) : pw_g h10 145 j = pw_g h8 145 j)).trans (pw_Eg (c := 145) h1I h8E rfl rfl j : pw_g h8 145 j = pw_g h1 145 j)).trans (by rw [← h1w]; exact pw_g_ne (by omega) : pw_g h1 145 j = pw_g h 145 j)
                have hl27 : ∀ j : Nat, pw_g h23 146 j = pw_g h 146 j := fun j => ((((((((by rw [← h23w]; exact pw_g_ne (by omega) : pw_g h23 146 j = pw_g h20 146 j)).trans (by rw [← h20w]; exact pw_g_ne (by omega) : pw_g h20 146 j = pw_g h17 146 j)).trans (by rw [← h17w]; exact pw_g_ne (by omega) : pw_g h17 146 j = pw_g h14 146 j)).trans (by rw [← h14w]; exact pw_g_ne (by omega) : pw_g h14 146 j = pw_g h11 146 j)).trans (by rw [← h11w]; exact pw_g_ne (by omega) : pw_g h11 146 j = pw_g h10 146 j)).trans (by rw [← h10w]; exact pw_g_ne (by omega) : pw_g h10 146 j = pw_g h8 146 j)).trans (pw_Eg (c := 146) h1I h8E rfl rfl j : pw_g h8 146 j = pw_g h1 146 j)).trans (by rw [← h1w]; exact pw_g_ne (by omega) : pw_g h1 146 j = pw_g h 146 j)
                have hl28 : ∀ j : Nat, pw_g h23 147 j = pw_g h 147 j := fun j => ((((((((by rw [← h23w]; exact pw_g_ne (by omega) : pw_g h23 147 j = pw_g h20 147 j)).trans (by rw [← h20w]; exact pw_g_ne (by omega) : pw_g h20 147 j = pw_g h17 147 j)).trans (by rw [← h17w]; exact pw_g_ne (by omega) : pw_g h17 147 j = pw_g h14 147 j)).trans (by rw [← h14w]; exact pw_g_ne (by omega) : pw_g h14 147 j = pw_g h11 147 j)).trans (by rw [← h11w]; exact pw_g_ne (by omega) : pw_g h11 147 j = pw_g h10 147 j)).trans (by rw [← h10w]; exact pw_g_ne (by omega) : pw_g h10 147 j = pw_g h8 147 j)).trans (pw_Eg (c := 147) h1I h8E rfl rfl j : pw_g h8 147 j = pw_g h1 147 j)).trans (by rw [← h1w]; exact pw_g_ne (by omega) : pw_g h1 147 j = pw_g h 147 j)
                have hl29 : ∀ j : Nat, pw_g h23 157 j = pw_g h 157 j := fun j => ((((((((by rw [← h23w]; exact pw_g_ne (by omega) : pw_g h23 157 j = pw_g h20 157 j)).trans (by rw [← h20w]; exact pw_g_ne (by omega) : pw_g h20 157 j = pw_g h17 157 j)).trans (by rw [← h17w]; exact pw_g_ne (by omega) : pw_g h17 157 j = pw_g h14 157 j)).trans (by rw [← h14w]; exact pw_g_ne (by omega) : pw_g h14 157 j = pw_g h11 157 j)).trans (by rw [← h11w]; exact pw_g_ne (by omega) : pw_g h11 157 j = pw_g h10 157 j)).trans (by rw [← h10w]; exact pw_g_ne (by omega) : pw_g h10 157 j = pw_g h8 157 j)).trans (pw_Eg (c := 157) h1I h8E rfl rfl j : pw_g h8 157 j = pw_g h1 157 j)).trans (by rw [← h1w]; exact pw_g_ne (by omega) : pw_g h1 157 j = pw_g h 157 j)
                have bO : pw_O h h23 := ⟨fun j hj => (b5 j hj).trans (hl26 j), fun j _ => ⟨hl27 j, hl28 j⟩, hl29⟩
                have L58 : ∀ (n58 : Nat)  (gh58 : pm_H), pw_I gh58 → pw_E [125, 127, 128, 129, 145, 146, 147, 1002] h gh58 → pw_A n gh58 → pw_g gh58 125 32 ≤ pw_g gh58 125 7 → (pw_g gh58 125 8 = 0 → pw_Ls gh58) → pw_O h gh58 → pw_g gh58 125 2 = 0 → ((n : Int) - pw_g gh58 125 7 + 1 - min (pw_g gh58 125 8) 1).toNat = n58 → pw X d gh58 237 58 [some (.ref 141), some (pw_i l), some (pw_i ((((0 + 1) + 1) + 1) + 1))] [] (fun h' v => pw_I h' ∧ pw_E [125, 127, 128, 129, 145, 146, 147, 1002] h h' ∧ (pw_K h' ∧ pw_g h' 125 2 = 0) ∧ (∃ a : Int, v = .inl (some (pw_i a)) ∧ (-2147483648) ≤ a ∧ a ≤ 2147483647)) := by
                  intro n58
                  induction n58 using Nat.strongRecOn with
                  | ind n58 ih58 =>
                    intro  gh58 I58 E58 hx58_0 hx58_1 hx58_2 hx58_3 hx58_4 hm58
                    refine pw_ld E (pc' := 59) (st' := [.ref 141]) rfl (fun _ => rfl) ?_
                    refine pw_getI2 I58 E (c := 125) (k := 8) (pc' := 62) rfl rfl rfl rfl rfl rfl (fun hf30a hf30b => ?_)
                    refine pw_if E (pc' := 84) rfl (by decide) (by omega) (by omega) ?_ ?_
                    · intro hc31
                      change pw_g gh58 125 8 ≠ (0 : Int) at hc31
                      have hA58 : pw_g gh58 125 7 ≤ n ∧ 0 ≤ pw_g gh58 125 8 ∧ 0 ≤ pw_g gh58 125 7 ∧ 0 ≤ pw_g gh58 125 32 := hx58_0.2.2
                      have hn1 : n ≤ 1000 := hx58_0.1
                      refine pw_ld E (pc' := 85) (st' := [.ref 141]) rfl (fun _ => rfl) ?_
                      refine pw_getI2 I58 E (c := 125) (k := 8) (pc' := 88) rfl rfl rfl rfl rfl rfl (fun hf32a hf32b => ?_)
                      refine pw_if E (pc' := 96) rfl (by decide) (by omega) (by omega) ?_ ?_
                      · intro hc33
                        change pw_g gh58 125 8 ≤ (0 : Int) at hc33
                        refine pw_ld E (pc' := 97) (st' := [pw_i 0]) rfl (fun _ => rfl) ?_
                        refine pw_istn E (pc' := 98) (ls' := [some (.ref 141), some (pw_i l), some (pw_i 0)]) rfl rfl rfl rfl ?_
                        refine pw_ld E (pc' := 99) (st' := [pw_i 0]) rfl (fun _ => rfl) ?_
                        refine pw_ld E (pc' := 100) (st' := [pw_i 4, pw_i 0]) rfl (fun _ => rfl) ?_
                        refine pw_if2 E (pc' := 128) rfl (by decide) (by decide) (by decide) (by decide) (by decide) ?_ ?_
                        · intro hc34
                          change (4 : Int) ≤ (0 : Int) at hc34
                          exfalso; omega
                        · intro hc35
                          change ¬ ((4 : Int) ≤ (0 : Int)) at hc35
                          refine pw_ld E (pc' := 104) (st' := [.ref 141]) rfl (fun _ => rfl) ?_
                          refine pw_getR (b := 161) I58 E (c := 125) (k := 31) (pc' := 107) rfl rfl rfl rfl rfl rfl rfl ?_
                          refine pw_ld E (pc' := 108) (st' := [pw_i 4, .ref 161]) rfl (fun _ => rfl) ?_
                          refine pw_ld E (pc' := 109) (st' := [pw_i l, pw_i 4, .ref 161]) rfl (fun _ => rfl) ?_
                          refine pw_mul E (pc' := 110) rfl rfl ?_
                          refine pw_ld E (pc' := 111) (st' := [pw_i 0, pw_i (4 * l), .ref 161]) rfl (fun _ => rfl) ?_
                          refine pw_add E (pc' := 112) rfl rfl ?_
                          refine pw_ld E (pc' := 113) (st' := [.ref 141, pw_i ((4 * l) + 0), .ref 161]) rfl (fun _ => rfl) ?_
                          refine pw_getR (b := 161) I58 E (c := 125) (k := 31) (pc' := 116) rfl rfl rfl rfl rfl rfl rfl ?_
                          refine pw_bip E (pc' := 118) rfl rfl (by decide) ?_
                          refine pw_ld E (pc' := 119) (st' := [pw_i 0, pw_i 16, .ref 161, pw_i ((4 * l) + 0), .ref 161]) rfl (fun _ => rfl) ?_
                          refine pw_add E (pc' := 120) rfl rfl ?_
                          refine pw_ald2 I58 E (c := 145) (pc' := 121) rfl rfl rfl (by decide) rfl (by decide) (by omega) (by omega) rfl (fun hf36a hf36b => ?_)
                          refine pw_ast0 I58 E (c := 145) (pc' := 122) rfl rfl rfl (by decide) rfl (by decide) (by omega) (by omega) rfl (by omega) (by omega) (by omega) (by omega) rfl ?_
                          intro h37I h37E
                          generalize h37w : pw_w gh58 145 (((4 * l) + 0).toNat) (pw_i (pw_g gh58 145 (((16 + 0) : Int).toNat))) = h37 at h37I h37E ⊢
                          have h37F := E58.tr (h37E.wk (W' := [125, 127, 128, 129, 145, 146, 147, 1002]) (by first | rfl | simp))
                          refine pw_inc E (pc' := 125) (ls' := [some (.ref 141), some (pw_i l), some (pw_i (0 + 1))]) rfl rfl rfl rfl ?_
                          refine pw_goto E (pc' := 98) rfl (by decide) ?_
                          refine pw_ld E (pc' := 99) (st' := [pw_i (0 + 1)]) rfl (fun _ => rfl) ?_
                          refine pw_ld E (pc' := 100) (st' := [pw_i 4, pw_i (0 + 1)]) rfl (fun _ => rfl) ?_
                          refine pw_if2 E (pc' := 128) rfl (by decide) (by decide) (by decide) (by decide) (by decide) ?_ ?_
                          · intro hc38
                            change (4 : Int) ≤ 0 + 1 at hc38
                            exfalso; omega
                          · intro hc39
                            change ¬ ((4 : Int) ≤ 0 + 1) at hc39
                            refine pw_ld E (pc' := 104) (st' := [.ref 141]) rfl (fun _ => rfl) ?_
                            refine pw_getR (b := 161) h37I E (c := 125) (k := 31) (pc' := 107) rfl rfl rfl rfl rfl rfl rfl ?_
                            refine pw_ld E (pc' := 108) (st' := [pw_i 4, .ref 161]) rfl (fun _ => rfl) ?_
                            refine pw_ld E (pc' := 109) (st' := [pw_i l, pw_i 4, .ref 161]) rfl (fun _ => rfl) ?_
                            refine pw_mul E (pc' := 110) rfl rfl ?_
                            refine pw_ld E (pc' := 111) (st' := [pw_i (0 + 1), pw_i (4 * l), .ref 161]) rfl (fun _ => rfl) ?_
                            refine pw_add E (pc' := 112) rfl rfl ?_
                            refine pw_ld E (pc' := 113) (st' := [.ref 141, pw_i ((4 * l) + (0 + 1)), .ref 161]) rfl (fun _ => rfl) ?_
                            refine pw_getR (b := 161) h37I E (c := 125) (k := 31) (pc' := 116) rfl rfl rfl rfl rfl rfl rfl ?_
                            refine pw_bip E (pc' := 118) rfl rfl (by decide) ?_
                            refine pw_ld E (pc' := 119) (st' := [pw_i (0 + 1), pw_i 16, .ref 161, pw_i ((4 * l) + (0 + 1)), .ref 161]) rfl (fun _ => rfl) ?_
                            refine pw_add E (pc' := 120) rfl rfl ?_
                            refine pw_ald2 h37I E (c := 145) (pc' := 121) rfl rfl rfl (by decide) rfl (by decide) (by omega) (by omega) rfl (fun hf40a hf40b => ?_)
                            refine pw_ast0 h37I E (c := 145) (pc' := 122) rfl rfl rfl (by decide) rfl (by decide) (by omega) (by omega) rfl (by omega) (by omega) (by omega) (by omega) rfl ?_
                            intro h41I h41E
                            generalize h41w : pw_w h37 145 (((4 * l) + (0 + 1)).toNat) (pw_i (pw_g h37 145 (((16 + (0 + 1)) : Int).toNat))) = h41 at h41I h41E ⊢
                            have h41F := h37F.tr (h41E.wk (W' := [125, 127, 128, 129, 145, 146, 147, 1002]) (by first | rfl | simp))
                            refine pw_inc E (pc' := 125) (ls' := [some (.ref 141), some (pw_i l), some (pw_i ((0 + 1) + 1))]) rfl rfl rfl rfl ?_
                            refine pw_goto E (pc' := 98) rfl (by decide) ?_
                            refine pw_ld E (pc' := 99) (st' := [pw_i ((0 + 1) + 1)]) rfl (fun _ => rfl) ?_
                            refine pw_ld E (pc' := 100) (st' := [pw_i 4, pw_i ((0 + 1) + 1)]) rfl (fun _ => rfl) ?_
                            refine pw_if2 E (pc' := 128) rfl (by decide) (by decide) (by decide) (by decide) (by decide) ?_ ?_
                            · intro hc42
                              change (4 : Int) ≤ (0 + 1) + 1 at hc42
                              exfalso; omega
                            · intro hc43
                              change ¬ ((4 : Int) ≤ (0 + 1) + 1) at hc43
                              refine pw_ld E (pc' := 104) (st' := [.ref 141]) rfl (fun _ => rfl) ?_
                              refine pw_getR (b := 161) h41I E (c := 125) (k := 31) (pc' := 107) rfl rfl rfl rfl rfl rfl rfl ?_
                              refine pw_ld E (pc' := 108) (st' := [pw_i 4, .ref 161]) rfl (fun _ => rfl) ?_
                              refine pw_ld E (pc' := 109) (st' := [pw_i l, pw_i 4, .ref 161]) rfl (fun _ => rfl) ?_
                              refine pw_mul E (pc' := 110) rfl rfl ?_
                              refine pw_ld E (pc' := 111) (st' := [pw_i ((0 + 1) + 1), pw_i (4 * l), .ref 161]) rfl (fun _ => rfl) ?_
                              refine pw_add E (pc' := 112) rfl rfl ?_
                              refine pw_ld E (pc' := 113) (st' := [.ref 141, pw_i ((4 * l) + ((0 + 1) + 1)), .ref 161]) rfl (fun _ => rfl) ?_
                              refine pw_getR (b := 161) h41I E (c := 125) (k := 31) (pc' := 116) rfl rfl rfl rfl rfl rfl rfl ?_
                              refine pw_bip E (pc' := 118) rfl rfl (by decide) ?_
                              refine pw_ld E (pc' := 119) (st' := [pw_i ((0 + 1) + 1), pw_i 16, .ref 161, pw_i ((4 * l) + ((0 + 1) + 1)), .ref 161]) rfl (fun _ => rfl) ?_
                              refine pw_add E (pc' := 120) rfl rfl ?_
                              refine pw_ald2 h41I E (c := 145) (pc' := 121) rfl rfl rfl (by decide) rfl (by decide) (by omega) (by omega) rfl (fun hf44a hf44b => ?_)
                              refine pw_ast0 h41I E (c := 145) (pc' := 122) rfl rfl rfl (by decide) rfl (by decide) (by omega) (by omega) rfl (by omega) (by omega) (by omega) (by omega) rfl ?_
                              intro h45I h45E
                              generalize h45w : pw_w h41 145 (((4 * l) + ((0 + 1) + 1)).toNat) (pw_i (pw_g h41 145 (((16 + ((0 + 1) + 1)) : Int).toNat))) = h45 at h45I h45E ⊢
                              have h45F := h41F.tr (h45E.wk (W' := [125, 127, 128, 129, 145, 146, 147, 1002]) (by first | rfl | simp))
                              refine pw_inc E (pc' := 125) (ls' := [some (.ref 141), some (pw_i l), some (pw_i (((0 + 1) + 1) + 1))]) rfl rfl rfl rfl ?_
                              refine pw_goto E (pc' := 98) rfl (by decide) ?_
                              refine pw_ld E (pc' := 99) (st' := [pw_i (((0 + 1) + 1) + 1)]) rfl (fun _ => rfl) ?_
                              refine pw_ld E (pc' := 100) (st' := [pw_i 4, pw_i (((0 + 1) + 1) + 1)]) rfl (fun _ => rfl) ?_
                              refine pw_if2 E (pc' := 128) rfl (by decide) (by decide) (by decide) (by decide) (by decide) ?_ ?_
                              · intro hc46
                                change (4 : Int) ≤ ((0 + 1) + 1) + 1 at hc46
                                exfalso; omega
                              · intro hc47
                                change ¬ ((4 : Int) ≤ ((0 + 1) + 1) + 1) at hc47
                                refine pw_ld E (pc' := 104) (st' := [.ref 141]) rfl (fun _ => rfl) ?_
                                refine pw_getR (b := 161) h45I E (c := 125) (k := 31) (pc' := 107) rfl rfl rfl rfl rfl rfl rfl ?_
                                refine pw_ld E (pc' := 108) (st' := [pw_i 4, .ref 161]) rfl (fun _ => rfl) ?_
                                refine pw_ld E (pc' := 109) (st' := [pw_i l, pw_i 4, .ref 161]) rfl (fun _ => rfl) ?_
                                refine pw_mul E (pc' := 110) rfl rfl ?_
                                refine pw_ld E (pc' := 111) (st' := [pw_i (((0 + 1) + 1) + 1), pw_i (4 * l), .ref 161]) rfl (fun _ => rfl) ?_
                                refine pw_add E (pc' := 112) rfl rfl ?_
                                refine pw_ld E (pc' := 113) (st' := [.ref 141, pw_i ((4 * l) + (((0 + 1) + 1) + 1)), .ref 161]) rfl (fun _ => rfl) ?_
                                refine pw_getR (b := 161) h45I E (c := 125) (k := 31) (pc' := 116) rfl rfl rfl rfl rfl rfl rfl ?_
                                refine pw_bip E (pc' := 118) rfl rfl (by decide) ?_
                                refine pw_ld E (pc' := 119) (st' := [pw_i (((0 + 1) + 1) + 1), pw_i 16, .ref 161, pw_i ((4 * l) + (((0 + 1) + 1) + 1)), .ref 161]) rfl (fun _ => rfl) ?_
                                refine pw_add E (pc' := 120) rfl rfl ?_
                                refine pw_ald2 h45I E (c := 145) (pc' := 121) rfl rfl rfl (by decide) rfl (by decide) (by omega) (by omega) rfl (fun hf48a hf48b => ?_)
                                refine pw_ast0 h45I E (c := 145) (pc' := 122) rfl rfl rfl (by decide) rfl (by decide) (by omega) (by omega) rfl (by omega) (by omega) (by omega) (by omega) rfl ?_
                                intro h49I h49E
                                generalize h49w : pw_w h45 145 (((4 * l) + (((0 + 1) + 1) + 1)).toNat) (pw_i (pw_g h45 145 (((16 + (((0 + 1) + 1) + 1)) : Int).toNat))) = h49 at h49I h49E ⊢
                                have h49F := h45F.tr (h49E.wk (W' := [125, 127, 128, 129, 145, 146, 147, 1002]) (by first | rfl | simp))
                                refine pw_inc E (pc' := 125) (ls' := [some (.ref 141), some (pw_i l), some (pw_i ((((0 + 1) + 1) + 1) + 1))]) rfl rfl rfl rfl ?_
                                refine pw_goto E (pc' := 98) rfl (by decide) ?_
                                refine pw_ld E (pc' := 99) (st' := [pw_i ((((0 + 1) + 1) + 1) + 1)]) rfl (fun _ => rfl) ?_
                                refine pw_ld E (pc' := 100) (st' := [pw_i 4, pw_i ((((0 + 1) + 1) + 1) + 1)]) rfl (fun _ => rfl) ?_
                                refine pw_if2 E (pc' := 128) rfl (by decide) (by decide) (by decide) (by decide) (by decide) ?_ ?_
                                · intro hc50
                                  change (4 : Int) ≤ (((0 + 1) + 1) + 1) + 1 at hc50
                                  refine pw_ld E (pc' := 129) (st' := [.ref 141]) rfl (fun _ => rfl) ?_
                                  refine pw_ld E (pc' := 130) (st' := [pw_i l, .ref 141]) rfl (fun _ => rfl) ?_
                                  have he51 : pw_g h49 125 32 = pw_g h45 125 32 := by rw [← h49w]; exact pw_g_ne (by omega)
                                  have he52 : pw_g h45 125 32 = pw_g h41 125 32 := by rw [← h45w]; exact pw_g_ne (by omega)
                                  have he53 : pw_g h41 125 32 = pw_g h37 125 32 := by rw [← h41w]; exact pw_g_ne (by omega)
                                  have he54 : pw_g h37 125 32 = pw_g gh58 125 32 := by rw [← h37w]; exact pw_g_ne (by omega)
                                  obtain ⟨f55l, f55h, -⟩ := pw_obj (c := 125) h49I rfl
                                  refine pw_call (m' := 258) (As := [.ref 141, pw_i l]) (rest := []) (ls'' := [some (.ref 141), some (pw_i l), none]) (Nat.le_trans (by decide) hd) E rfl (fun _ => pw_iV rfl rfl rfl rfl (pw_cellI f55h rfl)) (rfl : pm_ent 258 = some (2, 3, 12, 4, pmc_258)) rfl rfl (cm_258 (pw_dp hd (by decide)) h49I (l) (by omega) (by omega) (by omega) (by omega)) ?_
                                  rintro h56 v57 ⟨h56I, h56E, hqkeep, rfl⟩
                                  refine ⟨_, rfl, ?_⟩
                                  have h56F := h49F.tr (h56E.wk (W' := [125, 127, 128, 129, 145, 146, 147, 1002]) (by first | rfl | simp))
                                  show pw X d h56 237 133 [some (.ref 141), some (pw_i l), some (pw_i ((((0 + 1) + 1) + 1) + 1))] [] _
                                  refine pw_ld E (pc' := 134) (st' := [pw_i 0]) rfl (fun _ => rfl) ?_
                                  refine pw_iret E rfl ?_
                                  have hcp := pw_cp4 (l := l) (by omega) (by omega) I58 h37I h41I h45I h37w h41w h45w h49w
                                  have hl58 : ∀ j : Nat, pw_g h49 146 j = pw_g gh58 146 j := fun j => ((((by rw [← h49w]; exact pw_g_ne (by omega) : pw_g h49 146 j = pw_g h45 146 j)).trans (by rw [← h45w]; exact pw_g_ne (by omega) : pw_g h45 146 j = pw_g h41 146 j)).trans (by rw [← h41w]; exact pw_g_ne (by omega) : pw_g h41 146 j = pw_g h37 146 j)).trans (by rw [← h37w]; exact pw_g_ne (by omega) : pw_g h37 146 j = pw_g gh58 146 j)
                                  have hl59 : ∀ j : Nat, pw_g h49 147 j = pw_g gh58 147 j := fun j => ((((by rw [← h49w]; exact pw_g_ne (by omega) : pw_g h49 147 j = pw_g h45 147 j)).trans (by rw [← h45w]; exact pw_g_ne (by omega) : pw_g h45 147 j = pw_g h41 147 j)).trans (by rw [← h41w]; exact pw_g_ne (by omega) : pw_g h41 147 j = pw_g h37 147 j)).trans (by rw [← h37w]; exact pw_g_ne (by omega) : pw_g h37 147 j = pw_g gh58 147 j)
                                  have hl60 : ∀ j : Nat, pw_g h56 157 j = pw_g gh58 157 j := fun j => (((((pw_Eg (c := 157) h49I h56E rfl rfl j : pw_g h56 157 j = pw_g h49 157 j)).trans (by rw [← h49w]; exact pw_g_ne (by omega) : pw_g h49 157 j = pw_g h45 157 j)).trans (by rw [← h45w]; exact pw_g_ne (by omega) : pw_g h45 157 j = pw_g h41 157 j)).trans (by rw [← h41w]; exact pw_g_ne (by omega) : pw_g h41 157 j = pw_g h37 157 j)).trans (by rw [← h37w]; exact pw_g_ne (by omega) : pw_g h37 157 j = pw_g gh58 157 j)
                                  have hl61 : ∀ j : Nat, pw_g h56 145 j = pw_g h49 145 j := fun j => (pw_Eg (c := 145) h49I h56E rfl rfl j : pw_g h56 145 j = pw_g h49 145 j)
                                  have b9 : pw_g h49 125 32 = pw_g gh58 125 32 := by rw [← h49w, pw_g_ne (by omega), ← h45w, pw_g_ne (by omega), ← h41w, pw_g_ne (by omega), ← h37w, pw_g_ne (by omega)]
                                  have hkc : pw_KC gh58 h56 l (pw_g gh58 125 32) := by rw [← b9]; exact hqkeep.cg hl58 hl59
                                  exact ⟨h56I, h56F, ⟨(hp0.of hx58_3.1 hx58_3.2.1 hx58_3.2.2).law (by omega) (by omega) (hx58_2 (by omega)) (by omega) (fun k hk => (hl61 _).trans (hcp.1 k hk)) (fun j _ hj => (hl61 _).trans (hcp.2 j hj)) hkc hl60, (((((((pw_Ef h56E (by unfold pw_pf; omega) rfl : pw_g h56 125 2 = pw_g h49 125 2)).trans (by rw [← h49w]; exact pw_g_ne (by omega) : pw_g h49 125 2 = pw_g h45 125 2)).trans (by rw [← h45w]; exact pw_g_ne (by omega) : pw_g h45 125 2 = pw_g h41 125 2)).trans (by rw [← h41w]; exact pw_g_ne (by omega) : pw_g h41 125 2 = pw_g h37 125 2)).trans (by rw [← h37w]; exact pw_g_ne (by omega) : pw_g h37 125 2 = pw_g gh58 125 2)).trans hx58_4)⟩, ⟨_, rfl, by omega, by omega⟩⟩
                                · intro hc62
                                  change ¬ ((4 : Int) ≤ (((0 + 1) + 1) + 1) + 1) at hc62
                                  exfalso; omega
                      · intro hc63
                        change ¬ (pw_g gh58 125 8 ≤ (0 : Int)) at hc63
                        refine pw_ld E (pc' := 92) (st' := [.ref 141]) rfl (fun _ => rfl) ?_
                        refine pw_getI2 I58 E (c := 125) (k := 8) (pc' := 95) rfl rfl rfl rfl rfl rfl (fun hf64a hf64b => ?_)
                        refine pw_iret E rfl ?_
                        exact ⟨I58, E58, ⟨hp0.of hx58_3.1 hx58_3.2.1 hx58_3.2.2, hx58_4⟩, ⟨_, rfl, by omega, by omega⟩⟩
                    · intro hc65
                      change ¬ (pw_g gh58 125 8 ≠ (0 : Int)) at hc65
                      refine pw_ld E (pc' := 66) (st' := [.ref 141]) rfl (fun _ => rfl) ?_
                      refine pw_getR (b := 143) I58 E (c := 125) (k := 4) (pc' := 69) rfl rfl rfl rfl rfl rfl rfl ?_
                      refine pw_ld E (pc' := 70) (st' := [.ref 141, .ref 143]) rfl (fun _ => rfl) ?_
                      refine pw_getI2 I58 E (c := 125) (k := 7) (pc' := 73) rfl rfl rfl rfl rfl rfl (fun hf66a hf66b => ?_)
                      refine pw_ald2 I58 E (c := 127) (pc' := 74) rfl rfl rfl (by decide) rfl (by decide) (by omega) (by omega) rfl (fun hf67a hf67b => ?_)
                      refine pw_if E (pc' := 84) rfl (by decide) (by omega) (by omega) ?_ ?_
                      · intro hc68
                        change pw_g gh58 127 ((pw_g gh58 125 7).toNat) = (0 : Int) at hc68
                        have hA58 : pw_g gh58 125 7 ≤ n ∧ 0 ≤ pw_g gh58 125 8 ∧ 0 ≤ pw_g gh58 125 7 ∧ 0 ≤ pw_g gh58 125 32 := hx58_0.2.2
                        have hn1 : n ≤ 1000 := hx58_0.1
                        refine pw_ld E (pc' := 85) (st' := [.ref 141]) rfl (fun _ => rfl) ?_
                        refine pw_getI2 I58 E (c := 125) (k := 8) (pc' := 88) rfl rfl rfl rfl rfl rfl (fun hf69a hf69b => ?_)
                        refine pw_if E (pc' := 96) rfl (by decide) (by omega) (by omega) ?_ ?_
                        · intro hc70
                          change pw_g gh58 125 8 ≤ (0 : Int) at hc70
                          refine pw_ld E (pc' := 97) (st' := [pw_i 0]) rfl (fun _ => rfl) ?_
                          refine pw_istn E (pc' := 98) (ls' := [some (.ref 141), some (pw_i l), some (pw_i 0)]) rfl rfl rfl rfl ?_
                          refine pw_ld E (pc' := 99) (st' := [pw_i 0]) rfl (fun _ => rfl) ?_
                          refine pw_ld E (pc' := 100) (st' := [pw_i 4, pw_i 0]) rfl (fun _ => rfl) ?_
                          refine pw_if2 E (pc' := 128) rfl (by decide) (by decide) (by decide) (by decide) (by decide) ?_ ?_
                          · intro hc71
                            change (4 : Int) ≤ (0 : Int) at hc71
                            exfalso; omega
                          · intro hc72
                            change ¬ ((4 : Int) ≤ (0 : Int)) at hc72
                            refine pw_ld E (pc' := 104) (st' := [.ref 141]) rfl (fun _ => rfl) ?_
                            refine pw_getR (b := 161) I58 E (c := 125) (k := 31) (pc' := 107) rfl rfl rfl rfl rfl rfl rfl ?_
                            refine pw_ld E (pc' := 108) (st' := [pw_i 4, .ref 161]) rfl (fun _ => rfl) ?_
                            refine pw_ld E (pc' := 109) (st' := [pw_i l, pw_i 4, .ref 161]) rfl (fun _ => rfl) ?_
                            refine pw_mul E (pc' := 110) rfl rfl ?_
                            refine pw_ld E (pc' := 111) (st' := [pw_i 0, pw_i (4 * l), .ref 161]) rfl (fun _ => rfl) ?_
                            refine pw_add E (pc' := 112) rfl rfl ?_
                            refine pw_ld E (pc' := 113) (st' := [.ref 141, pw_i ((4 * l) + 0), .ref 161]) rfl (fun _ => rfl) ?_
                            refine pw_getR (b := 161) I58 E (c := 125) (k := 31) (pc' := 116) rfl rfl rfl rfl rfl rfl rfl ?_
                            refine pw_bip E (pc' := 118) rfl rfl (by decide) ?_
                            refine pw_ld E (pc' := 119) (st' := [pw_i 0, pw_i 16, .ref 161, pw_i ((4 * l) + 0), .ref 161]) rfl (fun _ => rfl) ?_
                            refine pw_add E (pc' := 120) rfl rfl ?_
                            refine pw_ald2 I58 E (c := 145) (pc' := 121) rfl rfl rfl (by decide) rfl (by decide) (by omega) (by omega) rfl (fun hf73a hf73b => ?_)
                            refine pw_ast0 I58 E (c := 145) (pc' := 122) rfl rfl rfl (by decide) rfl (by decide) (by omega) (by omega) rfl (by omega) (by omega) (by omega) (by omega) rfl ?_
                            intro h74I h74E
                            generalize h74w : pw_w gh58 145 (((4 * l) + 0).toNat) (pw_i (pw_g gh58 145 (((16 + 0) : Int).toNat))) = h74 at h74I h74E ⊢
                            have h74F := E58.tr (h74E.wk (W' := [125, 127, 128, 129, 145, 146, 147, 1002]) (by first | rfl | simp))
                            refine pw_inc E (pc' := 125) (ls' := [some (.ref 141), some (pw_i l), some (pw_i (0 + 1))]) rfl rfl rfl rfl ?_
                            refine pw_goto E (pc' := 98) rfl (by decide) ?_
                            refine pw_ld E (pc' := 99) (st' := [pw_i (0 + 1)]) rfl (fun _ => rfl) ?_
                            refine pw_ld E (pc' := 100) (st' := [pw_i 4, pw_i (0 + 1)]) rfl (fun _ => rfl) ?_
                            refine pw_if2 E (pc' := 128) rfl (by decide) (by decide) (by decide) (by decide) (by decide) ?_ ?_
                            · intro hc75
                              change (4 : Int) ≤ 0 + 1 at hc75
                              exfalso; omega
                            · intro hc76
                              change ¬ ((4 : Int) ≤ 0 + 1) at hc76
                              refine pw_ld E (pc' := 104) (st' := [.ref 141]) rfl (fun _ => rfl) ?_
                              refine pw_getR (b := 161) h74I E (c := 125) (k := 31) (pc' := 107) rfl rfl rfl rfl rfl rfl rfl ?_
                              refine pw_ld E (pc' := 108) (st' := [pw_i 4, .ref 161]) rfl (fun _ => rfl) ?_
                              refine pw_ld E (pc' := 109) (st' := [pw_i l, pw_i 4, .ref 161]) rfl (fun _ => rfl) ?_
                              refine pw_mul E (pc' := 110) rfl rfl ?_
                              refine pw_ld E (pc' := 111) (st' := [pw_i (0 + 1), pw_i (4 * l), .ref 161]) rfl (fun _ => rfl) ?_
                              refine pw_add E (pc' := 112) rfl rfl ?_
                              refine pw_ld E (pc' := 113) (st' := [.ref 141, pw_i ((4 * l) + (0 + 1)), .ref 161]) rfl (fun _ => rfl) ?_
                              refine pw_getR (b := 161) h74I E (c := 125) (k := 31) (pc' := 116) rfl rfl rfl rfl rfl rfl rfl ?_
                              refine pw_bip E (pc' := 118) rfl rfl (by decide) ?_
                              refine pw_ld E (pc' := 119) (st' := [pw_i (0 + 1), pw_i 16, .ref 161, pw_i ((4 * l) + (0 + 1)), .ref 161]) rfl (fun _ => rfl) ?_
                              refine pw_add E (pc' := 120) rfl rfl ?_
                              refine pw_ald2 h74I E (c := 145) (pc' := 121) rfl rfl rfl (by decide) rfl (by decide) (by omega) (by omega) rfl (fun hf77a hf77b => ?_)
                              refine pw_ast0 h74I E (c := 145) (pc' := 122) rfl rfl rfl (by decide) rfl (by decide) (by omega) (by omega) rfl (by omega) (by omega) (by omega) (by omega) rfl ?_
                              intro h78I h78E
                              generalize h78w : pw_w h74 145 (((4 * l) + (0 + 1)).toNat) (pw_i (pw_g h74 145 (((16 + (0 + 1)) : Int).toNat))) = h78 at h78I h78E ⊢
                              have h78F := h74F.tr (h78E.wk (W' := [125, 127, 128, 129, 145, 146, 147, 1002]) (by first | rfl | simp))
                              refine pw_inc E (pc' := 125) (ls' := [some (.ref 141), some (pw_i l), some (pw_i ((0 + 1) + 1))]) rfl rfl rfl rfl ?_
                              refine pw_goto E (pc' := 98) rfl (by decide) ?_
                              refine pw_ld E (pc' := 99) (st' := [pw_i ((0 + 1) + 1)]) rfl (fun _ => rfl) ?_
                              refine pw_ld E (pc' := 100) (st' := [pw_i 4, pw_i ((0 + 1) + 1)]) rfl (fun _ => rfl) ?_
                              refine pw_if2 E (pc' := 128) rfl (by decide) (by decide) (by decide) (by decide) (by decide) ?_ ?_
                              · intro hc79
                                change (4 : Int) ≤ (0 + 1) + 1 at hc79
                                exfalso; omega
                              · intro hc80
                                change ¬ ((4 : Int) ≤ (0 + 1) + 1) at hc80
                                refine pw_ld E (pc' := 104) (st' := [.ref 141]) rfl (fun _ => rfl) ?_
                                refine pw_getR (b := 161) h78I E (c := 125) (k := 31) (pc' := 107) rfl rfl rfl rfl rfl rfl rfl ?_
                                refine pw_ld E (pc' := 108) (st' := [pw_i 4, .ref 161]) rfl (fun _ => rfl) ?_
                                refine pw_ld E (pc' := 109) (st' := [pw_i l, pw_i 4, .ref 161]) rfl (fun _ => rfl) ?_
                                refine pw_mul E (pc' := 110) rfl rfl ?_
                                refine pw_ld E (pc' := 111) (st' := [pw_i ((0 + 1) + 1), pw_i (4 * l), .ref 161]) rfl (fun _ => rfl) ?_
                                refine pw_add E (pc' := 112) rfl rfl ?_
                                refine pw_ld E (pc' := 113) (st' := [.ref 141, pw_i ((4 * l) + ((0 + 1) + 1)), .ref 161]) rfl (fun _ => rfl) ?_
                                refine pw_getR (b := 161) h78I E (c := 125) (k := 31) (pc' := 116) rfl rfl rfl rfl rfl rfl rfl ?_
                                refine pw_bip E (pc' := 118) rfl rfl (by decide) ?_
                                refine pw_ld E (pc' := 119) (st' := [pw_i ((0 + 1) + 1), pw_i 16, .ref 161, pw_i ((4 * l) + ((0 + 1) + 1)), .ref 161]) rfl (fun _ => rfl) ?_
                                refine pw_add E (pc' := 120) rfl rfl ?_
                                refine pw_ald2 h78I E (c := 145) (pc' := 121) rfl rfl rfl (by decide) rfl (by decide) (by omega) (by omega) rfl (fun hf81a hf81b => ?_)
                                refine pw_ast0 h78I E (c := 145) (pc' := 122) rfl rfl rfl (by decide) rfl (by decide) (by omega) (by omega) rfl (by omega) (by omega) (by omega) (by omega) rfl ?_
                                intro h82I h82E
                                generalize h82w : pw_w h78 145 (((4 * l) + ((0 + 1) + 1)).toNat) (pw_i (pw_g h78 145 (((16 + ((0 + 1) + 1)) : Int).toNat))) = h82 at h82I h82E ⊢
                                have h82F := h78F.tr (h82E.wk (W' := [125, 127, 128, 129, 145, 146, 147, 1002]) (by first | rfl | simp))
                                refine pw_inc E (pc' := 125) (ls' := [some (.ref 141), some (pw_i l), some (pw_i (((0 + 1) + 1) + 1))]) rfl rfl rfl rfl ?_
                                refine pw_goto E (pc' := 98) rfl (by decide) ?_
                                refine pw_ld E (pc' := 99) (st' := [pw_i (((0 + 1) + 1) + 1)]) rfl (fun _ => rfl) ?_
                                refine pw_ld E (pc' := 100) (st' := [pw_i 4, pw_i (((0 + 1) + 1) + 1)]) rfl (fun _ => rfl) ?_
                                refine pw_if2 E (pc' := 128) rfl (by decide) (by decide) (by decide) (by decide) (by decide) ?_ ?_
                                · intro hc83
                                  change (4 : Int) ≤ ((0 + 1) + 1) + 1 at hc83
                                  exfalso; omega
                                · intro hc84
                                  change ¬ ((4 : Int) ≤ ((0 + 1) + 1) + 1) at hc84
                                  refine pw_ld E (pc' := 104) (st' := [.ref 141]) rfl (fun _ => rfl) ?_
                                  refine pw_getR (b := 161) h82I E (c := 125) (k := 31) (pc' := 107) rfl rfl rfl rfl rfl rfl rfl ?_
                                  refine pw_ld E (pc' := 108) (st' := [pw_i 4, .ref 161]) rfl (fun _ => rfl) ?_
                                  refine pw_ld E (pc' := 109) (st' := [pw_i l, pw_i 4, .ref 161]) rfl (fun _ => rfl) ?_
                                  refine pw_mul E (pc' := 110) rfl rfl ?_
                                  refine pw_ld E (pc' := 111) (st' := [pw_i (((0 + 1) + 1) + 1), pw_i (4 * l), .ref 161]) rfl (fun _ => rfl) ?_
                                  refine pw_add E (pc' := 112) rfl rfl ?_
                                  refine pw_ld E (pc' := 113) (st' := [.ref 141, pw_i ((4 * l) + (((0 + 1) + 1) + 1)), .ref 161]) rfl (fun _ => rfl) ?_
                                  refine pw_getR (b := 161) h82I E (c := 125) (k := 31) (pc' := 116) rfl rfl rfl rfl rfl rfl rfl ?_
                                  refine pw_bip E (pc' := 118) rfl rfl (by decide) ?_
                                  refine pw_ld E (pc' := 119) (st' := [pw_i (((0 + 1) + 1) + 1), pw_i 16, .ref 161, pw_i ((4 * l) + (((0 + 1) + 1) + 1)), .ref 161]) rfl (fun _ => rfl) ?_
                                  refine pw_add E (pc' := 120) rfl rfl ?_
                                  refine pw_ald2 h82I E (c := 145) (pc' := 121) rfl rfl rfl (by decide) rfl (by decide) (by omega) (by omega) rfl (fun hf85a hf85b => ?_)
                                  refine pw_ast0 h82I E (c := 145) (pc' := 122) rfl rfl rfl (by decide) rfl (by decide) (by omega) (by omega) rfl (by omega) (by omega) (by omega) (by omega) rfl ?_
                                  intro h86I h86E
                                  generalize h86w : pw_w h82 145 (((4 * l) + (((0 + 1) + 1) + 1)).toNat) (pw_i (pw_g h82 145 (((16 + (((0 + 1) + 1) + 1)) : Int).toNat))) = h86 at h86I h86E ⊢
                                  have h86F := h82F.tr (h86E.wk (W' := [125, 127, 128, 129, 145, 146, 147, 1002]) (by first | rfl | simp))
                                  refine pw_inc E (pc' := 125) (ls' := [some (.ref 141), some (pw_i l), some (pw_i ((((0 + 1) + 1) + 1) + 1))]) rfl rfl rfl rfl ?_
                                  refine pw_goto E (pc' := 98) rfl (by decide) ?_
                                  refine pw_ld E (pc' := 99) (st' := [pw_i ((((0 + 1) + 1) + 1) + 1)]) rfl (fun _ => rfl) ?_
                                  refine pw_ld E (pc' := 100) (st' := [pw_i 4, pw_i ((((0 + 1) + 1) + 1) + 1)]) rfl (fun _ => rfl) ?_
                                  refine pw_if2 E (pc' := 128) rfl (by decide) (by decide) (by decide) (by decide) (by decide) ?_ ?_
                                  · intro hc87
                                    change (4 : Int) ≤ (((0 + 1) + 1) + 1) + 1 at hc87
                                    refine pw_ld E (pc' := 129) (st' := [.ref 141]) rfl (fun _ => rfl) ?_
                                    refine pw_ld E (pc' := 130) (st' := [pw_i l, .ref 141]) rfl (fun _ => rfl) ?_
                                    have he88 : pw_g h86 125 32 = pw_g h82 125 32 := by rw [← h86w]; exact pw_g_ne (by omega)
                                    have he89 : pw_g h82 125 32 = pw_g h78 125 32 := by rw [← h82w]; exact pw_g_ne (by omega)
                                    have he90 : pw_g h78 125 32 = pw_g h74 125 32 := by rw [← h78w]; exact pw_g_ne (by omega)
                                    have he91 : pw_g h74 125 32 = pw_g gh58 125 32 := by rw [← h74w]; exact pw_g_ne (by omega)
                                    obtain ⟨f92l, f92h, -⟩ := pw_obj (c := 125) h86I rfl
                                    refine pw_call (m' := 258) (As := [.ref 141, pw_i l]) (rest := []) (ls'' := [some (.ref 141), some (pw_i l), none]) (Nat.le_trans (by decide) hd) E rfl (fun _ => pw_iV rfl rfl rfl rfl (pw_cellI f92h rfl)) (rfl : pm_ent 258 = some (2, 3, 12, 4, pmc_258)) rfl rfl (cm_258 (pw_dp hd (by decide)) h86I (l) (by omega) (by omega) (by omega) (by omega)) ?_
                                    rintro h93 v94 ⟨h93I, h93E, hqkeep, rfl⟩
                                    refine ⟨_, rfl, ?_⟩
                                    have h93F := h86F.tr (h93E.wk (W' := [125, 127, 128, 129, 145, 146, 147, 1002]) (by first | rfl | simp))
                                    show pw X d h93 237 133 [some (.ref 141), some (pw_i l), some (pw_i ((((0 + 1) + 1) + 1) + 1))] [] _
                                    refine pw_ld E (pc' := 134) (st' := [pw_i 0]) rfl (fun _ => rfl) ?_
                                    refine pw_iret E rfl ?_
                                    have hcp := pw_cp4 (l := l) (by omega) (by omega) I58 h74I h78I h82I h74w h78w h82w h86w
                                    have hl95 : ∀ j : Nat, pw_g h86 146 j = pw_g gh58 146 j := fun j => ((((by rw [← h86w]; exact pw_g_ne (by omega) : pw_g h86 146 j = pw_g h82 146 j)).trans (by rw [← h82w]; exact pw_g_ne (by omega) : pw_g h82 146 j = pw_g h78 146 j)).trans (by rw [← h78w]; exact pw_g_ne (by omega) : pw_g h78 146 j = pw_g h74 146 j)).trans (by rw [← h74w]; exact pw_g_ne (by omega) : pw_g h74 146 j = pw_g gh58 146 j)
                                    have hl96 : ∀ j : Nat, pw_g h86 147 j = pw_g gh58 147 j := fun j => ((((by rw [← h86w]; exact pw_g_ne (by omega) : pw_g h86 147 j = pw_g h82 147 j)).trans (by rw [← h82w]; exact pw_g_ne (by omega) : pw_g h82 147 j = pw_g h78 147 j)).trans (by rw [← h78w]; exact pw_g_ne (by omega) : pw_g h78 147 j = pw_g h74 147 j)).trans (by rw [← h74w]; exact pw_g_ne (by omega) : pw_g h74 147 j = pw_g gh58 147 j)
                                    have hl97 : ∀ j : Nat, pw_g h93 157 j = pw_g gh58 157 j := fun j => (((((pw_Eg (c := 157) h86I h93E rfl rfl j : pw_g h93 157 j = pw_g h86 157 j)).trans (by rw [← h86w]; exact pw_g_ne (by omega) : pw_g h86 157 j = pw_g h82 157 j)).trans (by rw [← h82w]; exact pw_g_ne (by omega) : pw_g h82 157 j = pw_g h78 157 j)).trans (by rw [← h78w]; exact pw_g_ne (by omega) : pw_g h78 157 j = pw_g h74 157 j)).trans (by rw [← h74w]; exact pw_g_ne (by omega) : pw_g h74 157 j = pw_g gh58 157 j)
                                    have hl98 : ∀ j : Nat, pw_g h93 145 j = pw_g h86 145 j := fun j => (pw_Eg (c := 145) h86I h93E rfl rfl j : pw_g h93 145 j = pw_g h86 145 j)
                                    have b9 : pw_g h86 125 32 = pw_g gh58 125 32 := by rw [← h86w, pw_g_ne (by omega), ← h82w, pw_g_ne (by omega), ← h78w, pw_g_ne (by omega), ← h74w, pw_g_ne (by omega)]
                                    have hkc : pw_KC gh58 h93 l (pw_g gh58 125 32) := by rw [← b9]; exact hqkeep.cg hl95 hl96
                                    exact ⟨h93I, h93F, ⟨(hp0.of hx58_3.1 hx58_3.2.1 hx58_3.2.2).law (by omega) (by omega) (hx58_2 (by omega)) (by omega) (fun k hk => (hl98 _).trans (hcp.1 k hk)) (fun j _ hj => (hl98 _).trans (hcp.2 j hj)) hkc hl97, (((((((pw_Ef h93E (by unfold pw_pf; omega) rfl : pw_g h93 125 2 = pw_g h86 125 2)).trans (by rw [← h86w]; exact pw_g_ne (by omega) : pw_g h86 125 2 = pw_g h82 125 2)).trans (by rw [← h82w]; exact pw_g_ne (by omega) : pw_g h82 125 2 = pw_g h78 125 2)).trans (by rw [← h78w]; exact pw_g_ne (by omega) : pw_g h78 125 2 = pw_g h74 125 2)).trans (by rw [← h74w]; exact pw_g_ne (by omega) : pw_g h74 125 2 = pw_g gh58 125 2)).trans hx58_4)⟩, ⟨_, rfl, by omega, by omega⟩⟩
                                  · intro hc99
                                    change ¬ ((4 : Int) ≤ (((0 + 1) + 1) + 1) + 1) at hc99
                                    exfalso; omega
                        · intro hc100
                          change ¬ (pw_g gh58 125 8 ≤ (0 : Int)) at hc100
                          exfalso; omega
                      · intro hc101
                        change ¬ (pw_g gh58 127 ((pw_g gh58 125 7).toNat) = (0 : Int)) at hc101
                        have hA58 : pw_g gh58 125 7 ≤ n ∧ 0 ≤ pw_g gh58 125 8 ∧ 0 ≤ pw_g gh58 125 7 ∧ 0 ≤ pw_g gh58 125 32 := hx58_0.2.2
                        refine pw_ld E (pc' := 78) (st' := [.ref 141]) rfl (fun _ => rfl) ?_
                        obtain ⟨f102l, f102h, -⟩ := pw_obj (c := 125) I58 rfl
                        refine pw_call (m' := 243) (As := [.ref 141]) (rest := []) (ls'' := [some (.ref 141), none, none]) (Nat.le_trans (by decide) hd) E rfl (fun _ => pw_iV rfl rfl rfl rfl (pw_cellI f102h rfl)) (rfl : pm_ent 243 = some (1, 3, 12, 4, pmc_243)) rfl rfl (cm_243 (pw_dp hd (by decide)) I58 hx58_0 (by omega) hx58_2) ?_
                        rintro h103 v104 ⟨h103I, h103E, ⟨rA, rQ, rL, r5⟩, rfl⟩
                        refine ⟨_, rfl, ?_⟩
                        have h103F := E58.tr (h103E.wk (W' := [125, 127, 128, 129, 145, 146, 147, 1002]) (by first | rfl | simp))
                        have rf : pw_g h103 125 7 ≤ n ∧ 0 ≤ pw_g h103 125 8 ∧ 0 ≤ pw_g h103 125 7 ∧ 0 ≤ pw_g h103 125 32 := rA.2.2
                        have rq : pw_g gh58 125 7 - pw_g gh58 125 32 + 0 ≤ pw_g h103 125 7 - pw_g h103 125 32 ∧ pw_g gh58 125 7 ≤ pw_g h103 125 7 := ⟨rQ.2.2.2.1, rQ.2.1⟩
                        have rp : pw_g h103 125 8 = 0 → pw_g gh58 125 7 < pw_g h103 125 7 := fun q => (rL q).2
                        have rO : pw_O gh58 h103 := pw_O.q (by omega) rQ r5 (pw_Eg (c := 157) I58 h103E rfl rfl)
                        show pw X d h103 237 81 [some (.ref 141), some (pw_i l), some (pw_i ((((0 + 1) + 1) + 1) + 1))] [] _
                        have r2 : pw_g h103 125 2 = pw_g gh58 125 2 := pw_Ef h103E (Or.inl rfl) rfl
                        refine pw_goto E (pc' := 58) rfl (by decide) ?_
                        exact ih58 _ (by omega)  h103 h103I h103F  rA (by omega) (fun q => (rL q).1) (hx58_3.tr rO) (by omega) rfl
                have he105 : pw_g h23 125 7 = pw_g h20 125 7 := by rw [← h23w]; exact pw_g_ne (by omega)
                have he106 : pw_g h20 125 7 = pw_g h17 125 7 := by rw [← h20w]; exact pw_g_ne (by omega)
                have he107 : pw_g h17 125 7 = pw_g h14 125 7 := by rw [← h17w]; exact pw_g_ne (by omega)
                have he108 : pw_g h14 125 7 = pw_g h11 125 7 := by rw [← h14w]; exact pw_g_ne (by omega)
                have he109 : pw_g h11 125 7 = pw_g h10 125 7 := by rw [← h11w]; exact pw_g_ne (by omega)
                have he110 : pw_g h10 125 7 = pw_g h8 125 7 := by rw [← h10w]; exact pw_g_ne (by omega)
                have he111 : pw_g h23 125 8 = pw_g h20 125 8 := by rw [← h23w]; exact pw_g_ne (by omega)
                have he112 : pw_g h20 125 8 = pw_g h17 125 8 := by rw [← h20w]; exact pw_g_ne (by omega)
                have he113 : pw_g h17 125 8 = pw_g h14 125 8 := by rw [← h17w]; exact pw_g_ne (by omega)
                have he114 : pw_g h14 125 8 = pw_g h11 125 8 := by rw [← h14w]; exact pw_g_ne (by omega)
                have he115 : pw_g h11 125 8 = pw_g h10 125 8 := by rw [← h11w]; exact pw_g_ne (by omega)
                have he116 : pw_g h10 125 8 = pw_g h8 125 8 := by rw [← h10w]; exact pw_g_ne (by omega)
                have he117 : pw_g h23 125 32 = pw_g h20 125 32 := by rw [← h23w]; exact pw_g_ne (by omega)
                have he118 : pw_g h20 125 32 = pw_g h17 125 32 := by rw [← h20w]; exact pw_g_ne (by omega)
                have he119 : pw_g h17 125 32 = pw_g h14 125 32 := by rw [← h17w]; exact pw_g_ne (by omega)
                have he120 : pw_g h14 125 32 = pw_g h11 125 32 := by rw [← h14w]; exact pw_g_ne (by omega)
                have he121 : pw_g h11 125 32 = pw_g h10 125 32 := by rw [← h11w]; exact pw_g_ne (by omega)
                have he122 : pw_g h10 125 32 = 0 := by rw [← h10w]; exact pw_g_eq (c := 125) (k := 32) h8I rfl rfl (by omega) (by omega)
                have he123 : pw_g h23 125 2 = pw_g h20 125 2 := by rw [← h23w]; exact pw_g_ne (by omega)
                have he124 : pw_g h20 125 2 = pw_g h17 125 2 := by rw [← h20w]; exact pw_g_ne (by omega)
                have he125 : pw_g h17 125 2 = pw_g h14 125 2 := by rw [← h17w]; exact pw_g_ne (by omega)
                have he126 : pw_g h14 125 2 = pw_g h11 125 2 := by rw [← h14w]; exact pw_g_ne (by omega)
                have he127 : pw_g h11 125 2 = pw_g h10 125 2 := by rw [← h11w]; exact pw_g_ne (by omega)
                have he128 : pw_g h10 125 2 = pw_g h8 125 2 := by rw [← h10w]; exact pw_g_ne (by omega)
                exact L58 _  h23 h23I h23F  bA (by omega) (fun _ => bL) bO (by omega) rfl
              · intro hc129
                change ¬ ((4 : Int) ≤ (((0 + 1) + 1) + 1) + 1) at hc129
                exfalso; omega
    · intro hc130
      change ¬ (x4 ≠ (0 : Int)) at hc130
      exfalso; omega
  · skip
    refine pw_if E (pc' := 21) rfl (by decide) (by omega) (by omega) ?_ ?_
    · intro hc132
      change x4 ≠ (0 : Int) at hc132
      exfalso; omega
    · intro hc133
      change ¬ (x4 ≠ (0 : Int)) at hc133
      refine pw_ld E (pc' := 15) (st' := [.ref 141]) rfl (fun _ => rfl) ?_
      refine pw_ld E (pc' := 16) (st' := [pw_i 0, .ref 141]) rfl (fun _ => rfl) ?_
      refine pw_putP h1I E (k := 2) (pc' := 19) rfl rfl rfl rfl (by omega) (by omega) (by omega) (by omega) rfl rfl ?_
      intro h134I h134E
      generalize h134w : pw_w h1 125 2 (pw_i 0) = h134 at h134I h134E ⊢
      have h134F := h1F.tr (h134E.wk (W' := [125, 127, 128, 129, 145, 146, 147, 1002]) (by first | rfl | simp))
      refine pw_ld E (pc' := 20) (st' := [pw_i ((-1))]) rfl (fun _ => rfl) ?_
      refine pw_iret E rfl ?_
      have hl135 : ∀ j : Nat, pw_g h134 145 j = pw_g h 145 j := fun j => ((by rw [← h134w]; exact pw_g_ne (by omega) : pw_g h134 145 j = pw_g h1 145 j)).trans (by rw [← h1w]; exact pw_g_ne (by omega) : pw_g h1 145 j = pw_g h 145 j)
      have hl136 : ∀ j : Nat, pw_g h134 146 j = pw_g h 146 j := fun j => ((by rw [← h134w]; exact pw_g_ne (by omega) : pw_g h134 146 j = pw_g h1 146 j)).trans (by rw [← h1w]; exact pw_g_ne (by omega) : pw_g h1 146 j = pw_g h 146 j)
      have hl137 : ∀ j : Nat, pw_g h134 147 j = pw_g h 147 j := fun j => ((by rw [← h134w]; exact pw_g_ne (by omega) : pw_g h134 147 j = pw_g h1 147 j)).trans (by rw [← h1w]; exact pw_g_ne (by omega) : pw_g h1 147 j = pw_g h 147 j)
      have hl138 : ∀ j : Nat, pw_g h134 157 j = pw_g h 157 j := fun j => ((by rw [← h134w]; exact pw_g_ne (by omega) : pw_g h134 157 j = pw_g h1 157 j)).trans (by rw [← h1w]; exact pw_g_ne (by omega) : pw_g h1 157 j = pw_g h 157 j)
      exact ⟨h134I, h134F, ⟨hp0.cg hl135 hl136 hl137 hl138, (by rw [← h134w]; exact pw_g_eq (c := 125) (k := 2) h1I rfl rfl (by omega) (by omega))⟩, ⟨_, rfl, by omega, by omega⟩⟩
end
section
/-! texts: the machine that reads tokens, and its runs -/
/-- how tight an operator binds -/
def pt_rk (x : Int) : Int := if x = 1 ∨ x = 2 then 1 else if x = 3 ∨ x = 4 then 2 else if x = 5 ∨ x = 6 then 3 else if x = 7 then 4 else 0
/-- what binds as tight as r, or tighter, goes out -/
def pt_rl (r : Int) : List Int → List Int → List Int × List Int
  | [], c => ([], c)
  | x :: S, c => if r ≤ pt_rk x then pt_rl r S (-x :: c) else (x :: S, c)
/-- a part is whole: so is each not before it -/
def pt_ep : List Int → Int → List Int → List Int × Int × List Int
  | [], d, c => ([], d, c)
  | x :: S, d, c => if x = 8 then pt_ep S (d - 1) (-8 :: c) else (x :: S, d, c)
def pt_tr : List Int → Int
  | [] => 0
  | x :: _ => pt_rk x
def pt_n8 : List Int → Prop
  | [] => True
  | x :: _ => x ≠ 8
/-- which operator a token is; -1: none -/
def pt_opn (K V : Int) : Int := if K = 1 then (if V = 1891 then 1 else if V = 573 then 2 else -1) else if K = 3 then (if V = 60 then 3 else if V = 61 then 4 else if V = 43 then 5 else if V = 45 then 6 else if V = 42 then 7 else -1) else -1
/-- how it stands: 0 a part is to come, 1 an operator; what waits; depth; open brackets; the code, the last first -/
abbrev pt_St := Int × List Int × Int × Int × List Int
def pt_fin (S : List Int) (d o : Int) (c : List Int) : pt_St := (1, (pt_ep S d c).1, (pt_ep S d c).2.1, o, (pt_ep S d c).2.2)
def pt_eo (F : Int → Int) (K V : Int) (S : List Int) (d o : Int) (c : List Int) : Int × pt_St :=
  if ¬ ((K = 1 ∧ (V = 19741 ∨ 0 ≤ F V)) ∨ (K = 3 ∧ V = 40) ∨ K = 2) then (1, (0, S, d, o, c))
  else if 5 ≤ d then (5, (0, S, d, o, c))
  else if K = 1 ∧ V = 19741 then (0, (0, 8 :: S, d + 1, o, c))
  else if K = 3 then (0, (0, 9 :: S, d + 1, o + 1, c))
  else (0, pt_fin S d o ((if K = 2 then V else 10000 + F V) :: c))
def pt_er (K V : Int) (S : List Int) (d o : Int) (c : List Int) : Int × pt_St :=
  if K = 3 ∧ V = 59 then (if 0 < o then (1, (1, S, d, o, c)) else (9, (1, (pt_rl 1 S c).1, d, o, (pt_rl 1 S c).2)))
  else if K = 3 ∧ V = 41 then (if o ≤ 0 then (1, (1, S, d, o, c)) else (0, pt_fin (pt_rl 1 S c).1.tail (d - 1) (o - 1) (pt_rl 1 S c).2))
  else if pt_opn K V = -1 then (1, (1, S, d, o, c))
  else if pt_rk (pt_opn K V) = 2 ∧ pt_tr (pt_rl 3 S c).1 = 2 then (1, (1, S, d, o, c))
  else (0, (0, pt_opn K V :: (pt_rl (pt_rk (pt_opn K V)) S c).1, d, o, (pt_rl (pt_rk (pt_opn K V)) S c).2))
def pt_es (F : Int → Int) (K V : Int) (s : pt_St) : Int × pt_St := if s.1 = 0 then pt_eo F K V s.2.1 s.2.2.1 s.2.2.2.1 s.2.2.2.2 else pt_er K V s.2.1 s.2.2.1 s.2.2.2.1 s.2.2.2.2
theorem pt_es0 {F : Int → Int} {K V d o : Int} {S c : List Int} : pt_es F K V (0, S, d, o, c) = pt_eo F K V S d o c := if_pos rfl
theorem pt_es1 {F : Int → Int} {K V d o : Int} {S c : List Int} : pt_es F K V (1, S, d, o, c) = pt_er K V S d o c := if_neg (show ¬ (1 : Int) = 0 by decide)
/-- so many steps -/
def pt_mr (F : Int → Int) (K V : Nat → Int) : Nat → Nat → pt_St → pt_St → Prop
  | 0, _, s, t => s = t
  | m + 1, i, s, t => (pt_es F (K i) (V i) s).1 = 0 ∧ pt_mr F K V m (i + 1) (pt_es F (K i) (V i) s).2 t
theorem pt_mr.tr {F : Int → Int} {K V : Nat → Int} {m' : Nat} {t u : pt_St} : ∀ {m i : Nat} {s : pt_St}, pt_mr F K V m i s t → pt_mr F K V m' (i + m) t u → pt_mr F K V (m + m') i s u := by
  intro m
  induction m with
  | zero =>
    intro i s h1 h2
    have e : s = t := h1
    rw [e, Nat.zero_add]
    exact h2
  | succ m ih =>
    intro i s h1 h2
    rw [show m + 1 + m' = (m + m') + 1 by omega]
    refine ⟨h1.1, ih h1.2 ?_⟩
    rw [show i + 1 + m = i + (m + 1) by omega]
    exact h2
/-- from token i to token j -/
def pt_MR (F : Int → Int) (K V : Nat → Int) (i j : Int) (s t : pt_St) : Prop := 0 ≤ i ∧ i ≤ j ∧ pt_mr F K V (j - i).toNat i.toNat s t
theorem pt_MR.rf {F : Int → Int} {K V : Nat → Int} {i : Int} {s : pt_St} (h : 0 ≤ i) : pt_MR F K V i i s s := ⟨h, Int.le_refl _, by rw [Int.sub_self]; exact rfl⟩
theorem pt_MR.tr {F : Int → Int} {K V : Nat → Int} {i j k : Int} {s t u : pt_St} (h1 : pt_MR F K V i j s t) (h2 : pt_MR F K V j k t u) : pt_MR F K V i k s u := by
  obtain ⟨a1, a2, a3⟩ := h1
  obtain ⟨b1, b2, b3⟩ := h2
  refine ⟨a1, by omega, ?_⟩
  rw [show (k - i).toNat = (j - i).toNat + (k - j).toNat by omega]
  exact a3.tr (by rw [show i.toNat + (j - i).toNat = j.toNat by omega]; exact b3)
theorem pt_MR.one {F : Int → Int} {K V : Nat → Int} {i : Int} {s t : pt_St} (h : 0 ≤ i) (e : pt_es F (K i.toNat) (V i.toNat) s = (0, t)) : pt_MR F K V i (i + 1) s t := by
  refine ⟨h, by omega, ?_⟩
  rw [show (i + 1 - i).toNat = 0 + 1 by omega]
  refine ⟨by rw [e], ?_⟩
  show (pt_es F (K i.toNat) (V i.toNat) s).2 = t
  rw [e]
/-- a token that is wrong is met -/
def pt_MF (F : Int → Int) (K V P : Nat → Int) (i : Int) (s : pt_St) (f : Int) : Prop := ∃ j t, pt_MR F K V i j s t ∧ j ≤ 1001 ∧ (pt_es F (K j.toNat) (V j.toNat) t).1 ≠ 0 ∧ (pt_es F (K j.toNat) (V j.toNat) t).1 ≠ 9 ∧ f = (pt_es F (K j.toNat) (V j.toNat) t).1 + 16 * P j.toNat
theorem pt_MF.tr {F : Int → Int} {K V P : Nat → Int} {i j f : Int} {s t : pt_St} (h1 : pt_MR F K V i j s t) (h2 : pt_MF F K V P j t f) : pt_MF F K V P i s f := by
  obtain ⟨k, u, a, b⟩ := h2
  exact ⟨k, u, h1.tr a, b⟩
theorem pt_MF.one {F : Int → Int} {K V P : Nat → Int} {i f x : Int} {s t : pt_St} (h : 0 ≤ i) (hb : i ≤ 1001) (e : pt_es F (K i.toNat) (V i.toNat) s = (x, t)) (h0 : x ≠ 0) (h9 : x ≠ 9) (hf : f = x + 16 * P i.toNat) : pt_MF F K V P i s f := ⟨i, s, pt_MR.rf h, hb, by rw [e]; exact h0, by rw [e]; exact h9, by rw [e]; exact hf⟩
/-- ranks -/
theorem pt_rkB (x : Int) : 0 ≤ pt_rk x ∧ pt_rk x ≤ 4 := by
  unfold pt_rk
  split
  · omega
  · split
    · omega
    · split
      · omega
      · split <;> omega
theorem pt_trB (S : List Int) : 0 ≤ pt_tr S ∧ pt_tr S ≤ 4 := by
  cases S with
  | nil => exact ⟨Int.le_refl _, by decide⟩
  | cons x S => exact pt_rkB x
theorem pt_rl_lt {r : Int} {S c : List Int} (h : pt_tr S < r) : pt_rl r S c = (S, c) := by
  cases S with
  | nil => rfl
  | cons x S => exact if_neg (by have : pt_rk x < r := h; omega)
theorem pt_rl_ge {r x : Int} {S c : List Int} (h : r ≤ pt_rk x) : pt_rl r (x :: S) c = pt_rl r S (-x :: c) := if_pos h
theorem pt_rl_rl {r r' : Int} (h : r ≤ r') : ∀ (S c : List Int), pt_rl r (pt_rl r' S c).1 (pt_rl r' S c).2 = pt_rl r S c := by
  intro S
  induction S with
  | nil => intro c; rfl
  | cons x S ih =>
    intro c
    by_cases q : r' ≤ pt_rk x
    · rw [pt_rl_ge q, ih, pt_rl_ge (by omega)]
    · have e : pt_rl r' (x :: S) c = (x :: S, c) := if_neg q
      rw [e]
theorem pt_rl_of {r r' : Int} {S c S' c' : List Int} (h : r ≤ r') (e : pt_rl r' S c = (S', c')) : pt_rl r S c = pt_rl r S' c' := by
  have z := pt_rl_rl h S c
  rw [e] at z
  exact z.symm
theorem pt_ep_no {S : List Int} {d : Int} {c : List Int} (h : pt_n8 S) : pt_ep S d c = (S, d, c) := by
  cases S with
  | nil => rfl
  | cons x S => exact if_neg h
theorem pt_fin_no {S : List Int} {d o : Int} {c : List Int} (h : pt_n8 S) : pt_fin S d o c = (1, S, d, o, c) := by
  unfold pt_fin
  rw [pt_ep_no h]
theorem pt_fin_8 {S : List Int} {d o : Int} {c : List Int} : pt_fin (8 :: S) (d + 1) o c = pt_fin S d o (-8 :: c) := by
  have e : pt_ep (8 :: S) (d + 1) c = pt_ep S (d + 1 - 1) (-8 :: c) := if_pos rfl
  unfold pt_fin
  rw [e, Int.add_sub_cancel]
theorem pt_opnB (K V : Int) : pt_opn K V = -1 ∨ 1 ≤ pt_rk (pt_opn K V) := by
  unfold pt_opn
  repeat' split
  all_goals first | exact Or.inl rfl | exact Or.inr (by decide)
/-- what an operator that comes now would do: none as tight as q but a second test -/
def pt_nx (q K V : Int) (S c : List Int) : Prop := ∀ y : Int, pt_opn K V = y → 1 ≤ pt_rk y → q ≤ pt_rk y → pt_rk y = 2 ∧ pt_tr (pt_rl 3 S c).1 = 2
/-- read so far: a part of rank r over S, its code c' once all that binds so tight is out -/
def pt_GG (r q : Int) (F : Int → Int) (K V : Nat → Int) (i j : Int) (S : List Int) (d o : Int) (c c' : List Int) : Prop := ∃ S1 c1, pt_MR F K V i j (0, S, d, o, c) (1, S1, d, o, c1) ∧ pt_rl r S1 c1 = (S, c') ∧ pt_nx q (K j.toNat) (V j.toNat) S1 c1
theorem pt_GG.pt {F : Int → Int} {K V : Nat → Int} {i j d o : Int} {S c c' : List Int} (h : pt_MR F K V i j (0, S, d, o, c) (pt_fin S d o c')) (hn : pt_n8 S) : pt_GG 5 5 F K V i j S d o c c' := by
  rw [pt_fin_no hn] at h
  exact ⟨S, c', h, pt_rl_lt (by have := pt_trB S; omega), fun y _ _ hy => by have := pt_rkB y; omega⟩
theorem pt_GG.dn {r r' q d o : Int} {F : Int → Int} {K V : Nat → Int} {i j : Int} {S c c' : List Int} (H : pt_GG r q F K V i j S d o c c') (h : r' ≤ r) (hS : pt_tr S < r') : pt_GG r' q F K V i j S d o c c' := by
  obtain ⟨S1, c1, a, b, n⟩ := H
  exact ⟨S1, c1, a, (pt_rl_of h b).trans (pt_rl_lt hS), n⟩
/-- an operator comes, after which another part is read -/
theorem pt_GG.op {r q d o y : Int} {F : Int → Int} {K V : Nat → Int} {i j : Int} {S c c' : List Int} (H : pt_GG r q F K V i j S d o c c') (hy : pt_opn (K j.toNat) (V j.toNat) = y) (h1 : 1 ≤ pt_rk y) (h2 : pt_rk y ≤ r) (hS : pt_tr S < pt_rk y) (h3 : pt_rk y = 2 → r = 3) : pt_MR F K V i (j + 1) (0, S, d, o, c) (0, y :: S, d, o, c') := by
  obtain ⟨S1, c1, a, b, n⟩ := H
  refine a.tr (pt_MR.one (by have := a.1; have := a.2.1; omega) ?_)
  have e1 : pt_rl (pt_rk y) S1 c1 = (S, c') := (pt_rl_of h2 b).trans (pt_rl_lt hS)
  have hne : y ≠ -1 := fun z => by rw [z] at h1; exact absurd h1 (by decide)
  have hk : ¬ (K j.toNat = 3 ∧ V j.toNat = 59) := fun z => by
    rw [z.1, z.2] at hy; exact hne hy.symm
  have hk2 : ¬ (K j.toNat = 3 ∧ V j.toNat = 41) := fun z => by
    rw [z.1, z.2] at hy; exact hne hy.symm
  rw [pt_es1]
  unfold pt_er
  rw [if_neg hk, if_neg hk2, hy, if_neg hne, if_neg ?_, e1]
  intro z
  have r3 := h3 z.1
  rw [r3] at b
  rw [b] at z
  have z2 : pt_tr S = 2 := z.2
  omega
theorem pt_GG.cl {r q d o y : Int} {F : Int → Int} {K V : Nat → Int} {i j k : Int} {S c c' c'' : List Int} (h : pt_MR F K V i j (0, S, d, o, c) (0, y :: S, d, o, c')) (H : pt_GG r q F K V j k (y :: S) d o c' c'') (h1 : pt_rk y ≤ r) (hS : pt_tr S < pt_rk y) : pt_GG (pt_rk y) q F K V i k S d o c (-y :: c'') := by
  obtain ⟨S1, c1, a, b, n⟩ := H
  refine ⟨S1, c1, h.tr a, ?_, n⟩
  rw [pt_rl_of h1 b, pt_rl_ge (Int.le_refl _), pt_rl_lt hS]
theorem pt_GG.nx {r q d o : Int} {F : Int → Int} {K V : Nat → Int} {i j : Int} {S c c' : List Int} (H : pt_GG r q F K V i j S d o c c') (h : pt_rk (pt_opn (K j.toNat) (V j.toNat)) ≠ r) (hq : q = r + 1) : pt_GG r r F K V i j S d o c c' := by
  obtain ⟨S1, c1, a, b, n⟩ := H
  exact ⟨S1, c1, a, b, fun y hy h1 h2 => n y hy h1 (by rw [hy] at h; omega)⟩
/-- a second test can't stand -/
theorem pt_GG.t2 {d o y : Int} {F : Int → Int} {K V : Nat → Int} {i j k : Int} {S c c' c'' : List Int} (h : pt_MR F K V i j (0, S, d, o, c) (0, y :: S, d, o, c')) (H : pt_GG 3 3 F K V j k (y :: S) d o c' c'') (h1 : pt_rk y = 2) (hS : pt_tr S < 2) : pt_GG 2 2 F K V i k S d o c (-y :: c'') := by
  obtain ⟨S1, c1, a, b, n⟩ := H
  refine ⟨S1, c1, h.tr a, ?_, fun z hz z1 z2 => ?_⟩
  · rw [pt_rl_of (by decide : (2 : Int) ≤ 3) b, pt_rl_ge (by omega), pt_rl_lt hS]
  · rcases (by omega : pt_rk z = 2 ∨ 3 ≤ pt_rk z) with q | q
    · refine ⟨q, ?_⟩
      rw [b]
      exact h1
    · exact n z hz z1 q
/-- the bracket closes, or a token stands there that is wrong -/
theorem pt_GG.close {d o : Int} {F : Int → Int} {K V : Nat → Int} {i j : Int} {S c c' : List Int} (H : pt_GG 1 1 F K V i j (9 :: S) (d + 1) (o + 1) c c') (ho : 0 ≤ o) (hk : K j.toNat = 3) (hv : V j.toNat = 41) : pt_MR F K V i (j + 1) (0, 9 :: S, d + 1, o + 1, c) (pt_fin S d o c') := by
  obtain ⟨S1, c1, a, b, n⟩ := H
  refine a.tr (pt_MR.one (by have := a.1; have := a.2.1; omega) ?_)
  rw [pt_es1, hk, hv]
  unfold pt_er
  rw [if_neg (by decide), if_pos ⟨rfl, rfl⟩, if_neg (by omega), b, Int.add_sub_cancel, Int.add_sub_cancel]
  rfl
theorem pt_GG.noclose {d o f : Int} {F : Int → Int} {K V P : Nat → Int} {i j : Int} {S c c' : List Int} (H : pt_GG 1 1 F K V i j S d o c c') (ho : 0 < o) (hj : j ≤ 1001) (hk : ¬ (K j.toNat = 3 ∧ V j.toNat = 41)) (hf : f = 1 + 16 * P j.toNat) : pt_MF F K V P i (0, S, d, o, c) f := by
  obtain ⟨S1, c1, a, b, n⟩ := H
  refine pt_MF.tr a (pt_MF.one (x := 1) (t := (1, S1, d, o, c1)) (by have := a.1; have := a.2.1; omega) hj ?_ (by decide) (by decide) hf)
  rw [pt_es1]
  unfold pt_er
  by_cases q : K j.toNat = 3 ∧ V j.toNat = 59
  · rw [if_pos q, if_pos ho]
  · rw [if_neg q, if_neg hk]
    by_cases z : pt_opn (K j.toNat) (V j.toNat) = -1
    · rw [if_pos z]
    · have b1 := (pt_opnB (K j.toNat) (V j.toNat)).resolve_left z
      rw [if_neg z, if_pos (n _ rfl b1 b1)]
theorem pt_GG.noend {d f : Int} {F : Int → Int} {K V P : Nat → Int} {i j : Int} {S c c' : List Int} (H : pt_GG 1 1 F K V i j S d 0 c c') (hj : j ≤ 1001) (hk : ¬ (K j.toNat = 3 ∧ V j.toNat = 59)) (hf : f = 1 + 16 * P j.toNat) : pt_MF F K V P i (0, S, d, 0, c) f := by
  obtain ⟨S1, c1, a, b, n⟩ := H
  refine pt_MF.tr a (pt_MF.one (x := 1) (t := (1, S1, d, 0, c1)) (by have := a.1; have := a.2.1; omega) hj ?_ (by decide) (by decide) hf)
  rw [pt_es1]
  unfold pt_er
  rw [if_neg hk]
  by_cases q : K j.toNat = 3 ∧ V j.toNat = 41
  · rw [if_pos q, if_pos (Int.le_refl _)]
  · rw [if_neg q]
    by_cases z : pt_opn (K j.toNat) (V j.toNat) = -1
    · rw [if_pos z]
    · have b1 := (pt_opnB (K j.toNat) (V j.toNat)).resolve_left z
      rw [if_neg z, if_pos (n _ rfl b1 b1)]
/-- the line ends -/
theorem pt_GG.end {d : Int} {F : Int → Int} {K V : Nat → Int} {i j : Int} {c c' : List Int} (H : pt_GG 1 1 F K V i j [] d 0 c c') (hk : K j.toNat = 3) (hv : V j.toNat = 59) : ∃ t, pt_MR F K V i j (0, [], d, 0, c) t ∧ pt_es F (K j.toNat) (V j.toNat) t = (9, (1, [], d, 0, c')) := by
  obtain ⟨S1, c1, a, b, n⟩ := H
  refine ⟨_, a, ?_⟩
  rw [pt_es1, hk, hv]
  unfold pt_er
  rw [if_pos ⟨rfl, rfl⟩, if_neg (by decide), b]
end
