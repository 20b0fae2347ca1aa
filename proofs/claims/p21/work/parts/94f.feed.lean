/-! feed exactly (printed by wip/tool/mfeed.py) -/
/-- a byte of eight, as the one and as the other takes it -/
def pw_b97 (w : Int64) (s : Int) : Int := ((Int64.toUInt64 w >>> ((Int32.ofInt s).toInt64.toUInt64 &&& Int64.toUInt64 63)).toInt64 &&& (Int64.ofNat 255)).toInt32.toInt
def pw_b199 (w : Int64) (s : Int) : Int := pw_an ((w >>> ((Int32.ofInt s).toInt64 &&& 63)).toInt32.toInt) 255
theorem pw_an255 (a : Int) : 0 ≤ pw_an a 255 ∧ pw_an a 255 ≤ 255 := by
  unfold pw_an
  obtain ⟨j, hj, e⟩ := pk_andE (Int32.ofInt a) (m := 255) 8 rfl
  have e : Int32.ofInt a &&& Int32.ofInt 255 = Int32.ofNat j := e
  rw [e]
  have h2 := pw_toInt (a := (j : Int)) (by omega) (by omega)
  have h3 : (Int32.ofNat j).toInt = (j : Int) := h2
  rw [h3]
  omega
theorem pf_255 : ∀ i, i < 32 → (255#64).getLsbD i = decide (i < 8) ∧ (255#32).getLsbD i = decide (i < 8) := by decide +kernel
theorem pf_bv (x : BitVec 64) (s : Nat) (hs : s + 8 ≤ 64) : ((x >>> s) &&& 255#64).setWidth 32 = (x.sshiftRight s).setWidth 32 &&& 255#32 := by
  apply BitVec.eq_of_getLsbD_eq
  intro i hi
  obtain ⟨h1, h2⟩ := pf_255 i hi
  rw [BitVec.getLsbD_setWidth, BitVec.getLsbD_and, BitVec.getLsbD_ushiftRight, BitVec.getLsbD_and, BitVec.getLsbD_setWidth, BitVec.getLsbD_sshiftRight, h1, h2]
  by_cases h8 : i < 8
  · rw [if_pos (show s + i < 64 by omega), decide_eq_true h8, decide_eq_true hi, decide_eq_false (show ¬ 64 ≤ i by omega)]
    cases x.getLsbD (s + i) <;> rfl
  · rw [decide_eq_false h8, Bool.and_false, Bool.and_false, Bool.and_false]
set_option maxRecDepth 20000 in
theorem pw_b_eq (w : Int64) : ∀ j : Nat, j < 8 → pw_b97 w (56 - 8 * (j : Int)) = pw_b199 w (56 - 8 * (j : Int)) := by
  intro j hj
  have e1 : ∀ j : Fin 8, ((Int32.ofInt (56 - 8 * (j.val : Int))).toInt64.toUInt64 &&& Int64.toUInt64 63) = UInt64.ofNat (8 * (7 - j.val)) ∧ ((Int32.ofInt (56 - 8 * (j.val : Int))).toInt64 &&& 63) = Int64.ofNat (8 * (7 - j.val)) := by decide +kernel
  have e2 : ∀ j, j < 8 → (UInt64.ofNat (8 * j)).toBitVec % 64 = BitVec.ofNat 64 (8 * j) ∧ (Int64.ofNat (8 * j)).toBitVec.smod 64 = BitVec.ofNat 64 (8 * j) ∧ (BitVec.ofNat 64 (8 * j)).toNat = 8 * j := by decide +kernel
  obtain ⟨q1, q2⟩ := e1 ⟨j, hj⟩
  dsimp only at q1 q2
  obtain ⟨r1, r2, r3⟩ := e2 (7 - j) (by omega)
  unfold pw_b97 pw_b199 pw_an
  rw [q1, q2, Int32.ofInt_toInt]
  congr 1
  apply Int32.toBitVec_inj.mp
  rw [Int32.toBitVec_and, Int64.toBitVec_toInt32, Int64.toBitVec_toInt32, Int64.toBitVec_and, BitVec.signExtend_eq_setWidth_of_le _ (by decide), BitVec.signExtend_eq_setWidth_of_le _ (by decide), Int64.toBitVec_shiftRight, r2]
  rw [show ((w.toUInt64 >>> UInt64.ofNat (8 * (7 - j))).toInt64).toBitVec = w.toBitVec >>> (8 * (7 - j)) from by
    show (w.toUInt64 >>> UInt64.ofNat (8 * (7 - j))).toBitVec = _
    rw [UInt64.toBitVec_shiftRight, r1]
    show w.toBitVec >>> (BitVec.ofNat 64 (8 * (7 - j))) = _
    rw [BitVec.ushiftRight_eq', r3]]
  rw [BitVec.sshiftRight_eq', r3]
  exact pf_bv w.toBitVec (8 * (7 - j)) (by omega)
theorem pw_l2iX {X : List (Nat × List Value)} {d : Nat} {h : pm_H} {m pc pc' len na nl own rt : Nat} {C : pm_T (Instr × Nat)} {ls : pm_L} {r : List Value} {Q : pm_H → (Option Value ⊕ Unit) → Prop} {w : Int64} (he : pm_ent m = some (na, nl, own, rt, C)) (hq : pm_get C pc = some (.l2i, len)) (hc : pc + len = pc') (H : ∀ c : Int, -2147483648 ≤ c → c ≤ 2147483647 → c = w.toInt32.toInt → pw X d h m pc' ls (pw_i c :: r) Q) : pw X d h m pc ls (.long w :: r) Q := by
  subst hc
  have hr := pw_i32r w.toInt32
  have e : pw_i w.toInt32.toInt = .int w.toInt32 := by unfold pw_i; rw [Int32.ofInt_toInt]
  have H := H _ hr.1 hr.2 rfl
  rw [e] at H
  refine pw_ld he hq (st' := .int w.toInt32 :: r) (pc' := pc + len) (fun ih => ?_) H
  show pm_fn (pc + len) (fun q => ih d h m q ls (.int w.toInt32 :: r)) = _
  rw [pm_fn_eq]

set_option maxHeartbeats 4000000 in
theorem cm_99_f {X : List (Nat × List Value)} {d : Nat} {h : pm_H} (hd : 1 ≤ d) (I : pw_I h)  : pw X d h 99 0 [some (.ref 40)] [] (fun h' v => pw_I h' ∧ pw_E [24] h h' ∧ (pw_g h' 24 1 = 0) ∧ (v = .inl none)) := by
  have E : pm_ent 99 = some (1, 1, 9, 4, pmc_99) := rfl
  have E0 : pw_E [24] h h := pw_E.rf _ _
  refine pw_ld E (pc' := 1) (st' := [.ref 40]) rfl (fun _ => rfl) ?_
  refine pw_ld E (pc' := 2) (st' := [pw_i 0, .ref 40]) rfl (fun _ => rfl) ?_
  refine pw_putI I E (c := 24) (k := 1) (pc' := 5) rfl rfl rfl rfl (by omega) (by omega) (by omega) (by omega) rfl rfl ?_
  intro h1I h1E
  generalize h1w : pw_w h 24 1 (pw_i 0) = h1 at h1I h1E ⊢
  have h1F := E0.tr (h1E.wk (W' := [24]) (by first | rfl | simp))
  have he2 : pw_g h1 24 1 = 0 := by rw [← h1w]; exact pw_g_eq (c := 24) (k := 1) I rfl rfl (by omega) (by omega)
  refine pw_vret E rfl ?_
  exact ⟨h1I, h1F, ⟨by omega, rfl⟩⟩
set_option maxHeartbeats 4000000 in
theorem cm_238_f {X : List (Nat × List Value)} {d : Nat} {h : pm_H} (hd : 3 ≤ d) (I : pw_I h)  : pw X d h 238 0 [some (.ref 141), none, none, none, none, none, none] [] (fun h' v => pw_I h' ∧ pw_E [125, 127, 128, 129, 1002] h h' ∧ ((∃ n : Nat, pw_A n h' ∧ pw_g h' 125 7 = 0 ∧ pw_g h' 125 8 = 0 ∧ pw_NV n h') ∧ pw_g h' 125 2 = 0) ∧ (v = .inl none)) := by
  have E : pm_ent 238 = some (1, 7, 12, 4, pmc_238) := rfl
  have E0 : pw_E [125, 127, 128, 129, 1002] h h := pw_E.rf _ _
  refine pw_ld E (pc' := 1) (st' := [.ref 141]) rfl (fun _ => rfl) ?_
  refine pw_ld E (pc' := 2) (st' := [.ref 141, .ref 141]) rfl (fun _ => rfl) ?_
  refine pw_getI2 I E (c := 125) (k := 2) (pc' := 5) rfl rfl rfl rfl rfl rfl (fun hf1a hf1b => ?_)
  refine pw_putI I E (c := 125) (k := 3) (pc' := 8) rfl rfl rfl rfl (by omega) (by omega) (by omega) (by omega) rfl rfl ?_
  intro h2I h2E
  generalize h2w : pw_w h 125 3 (pw_i (pw_g h 125 2)) = h2 at h2I h2E ⊢
  have h2F := E0.tr (h2E.wk (W' := [125, 127, 128, 129, 1002]) (by first | rfl | simp))
  refine pw_ld E (pc' := 9) (st' := [.ref 141]) rfl (fun _ => rfl) ?_
  refine pw_ld E (pc' := 10) (st' := [pw_i 0, .ref 141]) rfl (fun _ => rfl) ?_
  refine pw_putP h2I E (k := 2) (pc' := 13) rfl rfl rfl rfl (by omega) (by omega) (by omega) (by omega) rfl rfl ?_
  intro h3I h3E
  generalize h3w : pw_w h2 125 2 (pw_i 0) = h3 at h3I h3E ⊢
  have h3F := h2F.tr (h3E.wk (W' := [125, 127, 128, 129, 1002]) (by first | rfl | simp))
  refine pw_ld E (pc' := 14) (st' := [pw_i 0]) rfl (fun _ => rfl) ?_
  refine pw_istn E (pc' := 15) (ls' := [some (.ref 141), some (pw_i 0), none, none, none, none, none]) rfl rfl rfl rfl ?_
  refine pw_ld E (pc' := 16) (st' := [pw_i 0]) rfl (fun _ => rfl) ?_
  refine pw_istn E (pc' := 17) (ls' := [some (.ref 141), some (pw_i 0), some (pw_i 0), none, none, none, none]) rfl rfl rfl rfl ?_
  have L17 : ∀ (n17 : Nat) (k17_1 : Int) (k17_2 : Int) (k17_3 : Option Value) (k17_4 : Option Value) (k17_5 : Option Value) (gh17 : pm_H), pw_I gh17 → pw_E [125, 127, 128, 129, 1002] h gh17 → 0 ≤ k17_1 → k17_1 ≤ 1000 → 0 ≤ k17_2 → k17_2 ≤ 1000 → k17_1 ≤ k17_2 → k17_2 ≤ pw_g gh17 125 3 → pw_NV (k17_1).toNat gh17 → pw_g gh17 125 2 = 0 → (1000 - k17_2).toNat = n17 → pw X d gh17 238 17 [some (.ref 141), some (pw_i k17_1), some (pw_i k17_2), k17_3, k17_4, k17_5, none] [] (fun h' v => pw_I h' ∧ pw_E [125, 127, 128, 129, 1002] h h' ∧ ((∃ n : Nat, pw_A n h' ∧ pw_g h' 125 7 = 0 ∧ pw_g h' 125 8 = 0 ∧ pw_NV n h') ∧ pw_g h' 125 2 = 0) ∧ (v = .inl none)) := by
    intro n17
    induction n17 using Nat.strongRecOn with
    | ind n17 ih17 =>
      intro k17_1 k17_2 k17_3 k17_4 k17_5 gh17 I17 E17 k17_1a k17_1b k17_2a k17_2b hx17_0 hx17_1 hx17_2 hx17_3 hm17
      refine pw_ld E (pc' := 18) (st' := [pw_i k17_2]) rfl (fun _ => rfl) ?_
      refine pw_ld E (pc' := 19) (st' := [.ref 141, pw_i k17_2]) rfl (fun _ => rfl) ?_
      refine pw_getI2 I17 E (c := 125) (k := 3) (pc' := 22) rfl rfl rfl rfl rfl rfl (fun hf4a hf4b => ?_)
      refine pw_if2 E (pc' := 279) rfl (by decide) (by omega) (by omega) (by omega) (by omega) ?_ ?_
      · intro hc5
        change pw_g gh17 125 3 ≤ k17_2 at hc5
        refine pw_ld E (pc' := 280) (st' := [.ref 141]) rfl (fun _ => rfl) ?_
        refine pw_getR (b := 143) I17 E (c := 125) (k := 4) (pc' := 283) rfl rfl rfl rfl rfl rfl rfl ?_
        refine pw_ld E (pc' := 284) (st' := [pw_i k17_1, .ref 143]) rfl (fun _ => rfl) ?_
        refine pw_ld E (pc' := 285) (st' := [pw_i 0, pw_i k17_1, .ref 143]) rfl (fun _ => rfl) ?_
        refine pw_ast0 I17 E (c := 127) (pc' := 286) rfl rfl rfl (by decide) rfl (by decide) (by omega) (by omega) rfl (by omega) (by omega) (by omega) (by omega) rfl ?_
        intro h6I h6E
        generalize h6w : pw_w gh17 127 (k17_1.toNat) (pw_i 0) = h6 at h6I h6E ⊢
        have h6F := E17.tr (h6E.wk (W' := [125, 127, 128, 129, 1002]) (by first | rfl | simp))
        refine pw_ld E (pc' := 287) (st' := [.ref 141]) rfl (fun _ => rfl) ?_
        refine pw_getR (b := 144) h6I E (c := 125) (k := 5) (pc' := 290) rfl rfl rfl rfl rfl rfl rfl ?_
        refine pw_ld E (pc' := 291) (st' := [pw_i k17_1, .ref 144]) rfl (fun _ => rfl) ?_
        refine pw_ld E (pc' := 292) (st' := [.ref 141, pw_i k17_1, .ref 144]) rfl (fun _ => rfl) ?_
        have he8 : pw_g h6 125 3 = pw_g gh17 125 3 := by rw [← h6w]; exact pw_g_ne (by omega)
        refine pw_getI2 h6I E (c := 125) (k := 3) (pc' := 295) rfl rfl rfl rfl rfl rfl (fun hf7a hf7b => ?_)
        refine pw_ast0 h6I E (c := 128) (pc' := 296) rfl rfl rfl (by decide) rfl (by decide) (by omega) (by omega) rfl (by omega) (by omega) (by omega) (by omega) rfl ?_
        intro h9I h9E
        generalize h9w : pw_w h6 128 (k17_1.toNat) (pw_i (pw_g h6 125 3)) = h9 at h9I h9E ⊢
        have h9F := h6F.tr (h9E.wk (W' := [125, 127, 128, 129, 1002]) (by first | rfl | simp))
        refine pw_ld E (pc' := 297) (st' := [.ref 141]) rfl (fun _ => rfl) ?_
        refine pw_ld E (pc' := 298) (st' := [pw_i 0, .ref 141]) rfl (fun _ => rfl) ?_
        refine pw_putI h9I E (c := 125) (k := 7) (pc' := 301) rfl rfl rfl rfl (by omega) (by omega) (by omega) (by omega) rfl rfl ?_
        intro h10I h10E
        generalize h10w : pw_w h9 125 7 (pw_i 0) = h10 at h10I h10E ⊢
        have h10F := h9F.tr (h10E.wk (W' := [125, 127, 128, 129, 1002]) (by first | rfl | simp))
        refine pw_ld E (pc' := 302) (st' := [.ref 141]) rfl (fun _ => rfl) ?_
        refine pw_ld E (pc' := 303) (st' := [pw_i 0, .ref 141]) rfl (fun _ => rfl) ?_
        refine pw_putI h10I E (c := 125) (k := 8) (pc' := 306) rfl rfl rfl rfl (by omega) (by omega) (by omega) (by omega) rfl rfl ?_
        intro h11I h11E
        generalize h11w : pw_w h10 125 8 (pw_i 0) = h11 at h11I h11E ⊢
        have h11F := h10F.tr (h11E.wk (W' := [125, 127, 128, 129, 1002]) (by first | rfl | simp))
        refine pw_vret E rfl ?_
        have e7 : pw_g h11 125 7 = 0 := by rw [← h11w, pw_g_ne (by omega), ← h10w]; exact pw_g_eq (c := 125) (k := 7) h9I rfl rfl (by omega) (by omega)
        have e8 : pw_g h11 125 8 = 0 := by rw [← h11w]; exact pw_g_eq (c := 125) (k := 8) h10I rfl rfl (by omega) (by omega)
        have es : pw_g h11 127 (k17_1.toNat) = 0 := by rw [← h11w, pw_g_ne (by omega), ← h10w, pw_g_ne (by omega), ← h9w, pw_g_ne (by omega), ← h6w]; exact pw_g_eqA I17 rfl (by omega) (by omega) (by omega)
        have en : pw_NV (k17_1.toNat) h11 := fun j hj hq => by rw [← h11w, pw_gm_ne (by omega), ← h10w, pw_gm_ne (by omega), ← h9w, pw_gm_ne (by omega), ← h6w, pw_gm_ne (by omega)]; exact hx17_2 j hj (by rw [← hq, ← h11w, pw_g_ne (by omega), ← h10w, pw_g_ne (by omega), ← h9w, pw_g_ne (by omega), ← h6w, pw_g_ne (by omega)])
        have e2 : pw_g h11 125 2 = 0 := by rw [← h11w, pw_g_ne (by omega), ← h10w, pw_g_ne (by omega), ← h9w, pw_g_ne (by omega), ← h6w, pw_g_ne (by omega)]; exact hx17_3
        exact ⟨h11I, h11F, ⟨⟨k17_1.toNat, ⟨by omega, es, by omega, by omega, by omega, (pw_gI (c := 125) (k := 32) h11I rfl rfl).1⟩, e7, e8, en⟩, e2⟩, rfl⟩
      · intro hc12
        change ¬ (pw_g gh17 125 3 ≤ k17_2) at hc12
        refine pw_ld E (pc' := 26) (st' := [.ref 141]) rfl (fun _ => rfl) ?_
        refine pw_getR (b := 142) I17 E (c := 125) (k := 1) (pc' := 29) rfl rfl rfl rfl rfl rfl rfl ?_
        refine pw_ld E (pc' := 30) (st' := [pw_i k17_2, .ref 142]) rfl (fun _ => rfl) ?_
        refine pw_ald2 I17 E (c := 126) (pc' := 31) rfl rfl rfl (by decide) rfl (by decide) (by omega) (by omega) rfl (fun hf13a hf13b => ?_)
        refine pw_istn E (pc' := 32) (ls' := [some (.ref 141), some (pw_i k17_1), some (pw_i k17_2), some (pw_i (pw_g gh17 126 (k17_2.toNat))), k17_4, k17_5, none]) rfl rfl rfl rfl ?_
        refine pw_ld E (pc' := 33) (st' := [pw_i (pw_g gh17 126 (k17_2.toNat))]) rfl (fun _ => rfl) ?_
        refine pw_bip E (pc' := 35) rfl rfl (by decide) ?_
        refine pw_if2 E (pc' := 44) rfl (by decide) (by omega) (by omega) (by decide) (by decide) ?_ ?_
        · intro hc14
          change pw_g gh17 126 (k17_2.toNat) = (10 : Int) at hc14
          refine pw_inc E (pc' := 47) (ls' := [some (.ref 141), some (pw_i k17_1), some (pw_i (k17_2 + 1)), some (pw_i (pw_g gh17 126 (k17_2.toNat))), k17_4, k17_5, none]) rfl rfl rfl rfl ?_
          refine pw_goto E (pc' := 17) rfl (by decide) ?_
          exact ih17 _ (by omega) (k17_1) (k17_2 + 1) (some (pw_i (pw_g gh17 126 (k17_2.toNat)))) k17_4 k17_5 gh17 I17 E17 (by omega) (by omega) (by omega) (by omega) (by omega) (by omega) (by first | exact hx17_2 | exact pw_NV.st hx17_2 (by omega) (by omega) (by assumption) (by assumption) (by assumption) (by assumption) (by assumption) (by omega) (by omega) (by first | exact Or.inl (by decide) | exact Or.inr (by rw [pw_lToInt (by omega) (by omega)]; omega))) (by omega) rfl
        · intro hc15
          change ¬ (pw_g gh17 126 (k17_2.toNat) = (10 : Int)) at hc15
          refine pw_ld E (pc' := 39) (st' := [pw_i (pw_g gh17 126 (k17_2.toNat))]) rfl (fun _ => rfl) ?_
          refine pw_bip E (pc' := 41) rfl rfl (by decide) ?_
          refine pw_if2 E (pc' := 50) rfl (by decide) (by omega) (by omega) (by decide) (by decide) ?_ ?_
          · intro hc16
            change pw_g gh17 126 (k17_2.toNat) ≠ (32 : Int) at hc16
            refine pw_ld E (pc' := 51) (st' := [pw_i k17_2]) rfl (fun _ => rfl) ?_
            refine pw_ist E (pc' := 53) (ls' := [some (.ref 141), some (pw_i k17_1), some (pw_i k17_2), some (pw_i (pw_g gh17 126 (k17_2.toNat))), some (pw_i k17_2), k17_5, none]) rfl rfl rfl rfl ?_
            refine pw_ld E (pc' := 54) (st' := [.long (Int64.ofInt 0)]) rfl (fun _ => rfl) ?_
            refine pw_lst E (pc' := 56) (ls' := [some (.ref 141), some (pw_i k17_1), some (pw_i k17_2), some (pw_i (pw_g gh17 126 (k17_2.toNat))), some (pw_i k17_2), some (.long (Int64.ofInt 0)), none]) rfl rfl rfl rfl ?_
            refine pw_ld E (pc' := 57) (st' := [.ref 141]) rfl (fun _ => rfl) ?_
            refine pw_getR (b := 144) I17 E (c := 125) (k := 5) (pc' := 60) rfl rfl rfl rfl rfl rfl rfl ?_
            refine pw_ld E (pc' := 61) (st' := [pw_i k17_1, .ref 144]) rfl (fun _ => rfl) ?_
            refine pw_ld E (pc' := 62) (st' := [pw_i k17_2, pw_i k17_1, .ref 144]) rfl (fun _ => rfl) ?_
            refine pw_ast0 I17 E (c := 128) (pc' := 63) rfl rfl rfl (by decide) rfl (by decide) (by omega) (by omega) rfl (by omega) (by omega) (by omega) (by omega) rfl ?_
            intro h17I h17E
            generalize h17w : pw_w gh17 128 (k17_1.toNat) (pw_i k17_2) = h17 at h17I h17E ⊢
            have h17F := E17.tr (h17E.wk (W' := [125, 127, 128, 129, 1002]) (by first | rfl | simp))
            have hc0 : pw_g h17 126 (k17_2).toNat = pw_g gh17 126 (k17_2).toNat := by rw [← h17w]; exact pw_g_ne (by omega)
            refine pw_ld E (pc' := 64) (st' := [pw_i (pw_g gh17 126 (k17_2.toNat))]) rfl (fun _ => rfl) ?_
            refine pw_call (m' := 239) (As := [pw_i (pw_g gh17 126 (k17_2.toNat))]) (rest := []) (ls'' := [some (pw_i (pw_g gh17 126 (k17_2.toNat)))]) (Nat.le_trans (by decide) hd) E rfl (fun _ => pw_iS rfl rfl rfl) (rfl : pm_ent 239 = some (1, 1, 12, 1, pmc_239)) rfl rfl (cm_239_r (pw_dp hd (by decide)) h17I (pw_g gh17 126 (k17_2.toNat)) (by omega) (by omega)) ?_
            rintro u19 v18 ⟨rfl, x20, rfl, hx20a, hx20b, hx20r⟩
            refine ⟨_, rfl, ?_⟩
            show pw X d h17 238 67 [some (.ref 141), some (pw_i k17_1), some (pw_i k17_2), some (pw_i (pw_g gh17 126 (k17_2.toNat))), some (pw_i k17_2), some (.long (Int64.ofInt 0)), none] [pw_i x20] _
            change (x20 = 1 ∧ 97 ≤ (pw_g gh17 126 (k17_2.toNat)) ∧ (pw_g gh17 126 (k17_2.toNat)) ≤ 122) ∨ (x20 = 0 ∧ ¬ (97 ≤ (pw_g gh17 126 (k17_2.toNat)) ∧ (pw_g gh17 126 (k17_2.toNat)) ≤ 122)) at hx20r
            rcases (by omega : x20 = 1 ∨ x20 = 0) with hb21 | hb21
            · skip
              refine pw_if E (pc' := 152) rfl (by decide) (by omega) (by omega) ?_ ?_
              · intro hc22
                change x20 = (0 : Int) at hc22
                exfalso; omega
              · intro hc23
                change ¬ (x20 = (0 : Int)) at hc23
                have L70 : ∀ (n70 : Nat) (k70_2 : Int) (k70_5 : Int64), 0 ≤ k70_2 → k70_2 ≤ 1000 → k17_2 < k70_2 ∨ (k70_2 = k17_2 ∧ 97 ≤ pw_g h17 126 (k70_2).toNat ∧ pw_g h17 126 (k70_2).toNat ≤ 122) → k17_2 < pw_g h17 125 3 → k70_2 ≤ pw_g h17 125 3 → k17_2 ≤ k70_2 → (1000 - k70_2).toNat = n70 → pw X d h17 238 70 [some (.ref 141), some (pw_i k17_1), some (pw_i k70_2), some (pw_i (pw_g gh17 126 (k17_2.toNat))), some (pw_i k17_2), some (.long k70_5), none] [] (fun h' v => pw_I h' ∧ pw_E [125, 127, 128, 129, 1002] h h' ∧ ((∃ n : Nat, pw_A n h' ∧ pw_g h' 125 7 = 0 ∧ pw_g h' 125 8 = 0 ∧ pw_NV n h') ∧ pw_g h' 125 2 = 0) ∧ (v = .inl none)) := by
                  intro n70
                  induction n70 using Nat.strongRecOn with
                  | ind n70 ih70 =>
                    intro k70_2 k70_5 k70_2a k70_2b hx70_0 hx70_1 hx70_2 hx70_3 hm70
                    refine pw_ld E (pc' := 71) (st' := [pw_i k70_2]) rfl (fun _ => rfl) ?_
                    refine pw_ld E (pc' := 72) (st' := [.ref 141, pw_i k70_2]) rfl (fun _ => rfl) ?_
                    refine pw_getI2 h17I E (c := 125) (k := 3) (pc' := 75) rfl rfl rfl rfl rfl rfl (fun hf24a hf24b => ?_)
                    refine pw_if2 E (pc' := 129) rfl (by decide) (by omega) (by omega) (by omega) (by omega) ?_ ?_
                    · intro hc25
                      change pw_g h17 125 3 ≤ k70_2 at hc25
                      refine pw_ld E (pc' := 130) (st' := [.ref 141]) rfl (fun _ => rfl) ?_
                      refine pw_getR (b := 143) h17I E (c := 125) (k := 4) (pc' := 133) rfl rfl rfl rfl rfl rfl rfl ?_
                      refine pw_ld E (pc' := 134) (st' := [pw_i k17_1, .ref 143]) rfl (fun _ => rfl) ?_
                      refine pw_ld E (pc' := 135) (st' := [pw_i k70_2, pw_i k17_1, .ref 143]) rfl (fun _ => rfl) ?_
                      refine pw_ld E (pc' := 137) (st' := [pw_i k17_2, pw_i k70_2, pw_i k17_1, .ref 143]) rfl (fun _ => rfl) ?_
                      refine pw_sub E (pc' := 138) rfl rfl ?_
                      refine pw_bip E (pc' := 140) rfl rfl (by decide) ?_
                      refine pw_if2 E (pc' := 147) rfl (by decide) (by omega) (by omega) (by decide) (by decide) ?_ ?_
                      · intro hc26
                        change k70_2 - k17_2 ≤ (8 : Int) at hc26
                        refine pw_ld E (pc' := 148) (st' := [pw_i 1, pw_i k17_1, .ref 143]) rfl (fun _ => rfl) ?_
                        refine pw_ast0 h17I E (c := 127) (pc' := 149) rfl rfl rfl (by decide) rfl (by decide) (by omega) (by omega) rfl (by omega) (by omega) (by omega) (by omega) rfl ?_
                        intro h27I h27E
                        generalize h27w : pw_w h17 127 (k17_1.toNat) (pw_i 1) = h27 at h27I h27E ⊢
                        have h27F := h17F.tr (h27E.wk (W' := [125, 127, 128, 129, 1002]) (by first | rfl | simp))
                        refine pw_goto E (pc' := 265) rfl (by decide) ?_
                        refine pw_ld E (pc' := 266) (st' := [.ref 141]) rfl (fun _ => rfl) ?_
                        refine pw_getR (b := 145) h27I E (c := 125) (k := 6) (pc' := 269) rfl rfl rfl rfl rfl rfl rfl ?_
                        refine pw_ld E (pc' := 270) (st' := [pw_i k17_1, .ref 145]) rfl (fun _ => rfl) ?_
                        refine pw_ld E (pc' := 272) (st' := [.long k70_5, pw_i k17_1, .ref 145]) rfl (fun _ => rfl) ?_
                        refine pw_last h27I E (c := 129) (pc' := 273) rfl rfl rfl (by decide) (by omega) (by omega) rfl ?_
                        intro h28I h28E
                        generalize h28w : pw_w h27 129 (k17_1.toNat) (.long k70_5) = h28 at h28I h28E ⊢
                        have h28F := h27F.tr (h28E.wk (W' := [125, 127, 128, 129, 1002]) (by first | rfl | simp))
                        refine pw_inc E (pc' := 276) (ls' := [some (.ref 141), some (pw_i (k17_1 + 1)), some (pw_i k70_2), some (pw_i (pw_g gh17 126 (k17_2.toNat))), some (pw_i k17_2), some (.long k70_5), none]) rfl rfl rfl rfl ?_
                        refine pw_goto E (pc' := 17) rfl (by decide) ?_
                        have he29 : pw_g h28 125 3 = pw_g h27 125 3 := by rw [← h28w]; exact pw_g_ne (by omega)
                        have he30 : pw_g h27 125 3 = pw_g h17 125 3 := by rw [← h27w]; exact pw_g_ne (by omega)
                        have he31 : pw_g h28 125 2 = pw_g h27 125 2 := by rw [← h28w]; exact pw_g_ne (by omega)
                        have he32 : pw_g h27 125 2 = pw_g h17 125 2 := by rw [← h27w]; exact pw_g_ne (by omega)
                        have he33 : pw_g h17 125 2 = pw_g gh17 125 2 := by rw [← h17w]; exact pw_g_ne (by omega)
                        exact ih17 _ (by omega) (k17_1 + 1) (k70_2) (some (pw_i (pw_g gh17 126 (k17_2.toNat)))) (some (pw_i k17_2)) (some (.long k70_5)) h28 h28I h28F (by omega) (by omega) (by omega) (by omega) (by omega) (by omega) (by first | exact hx17_2 | exact pw_NV.st hx17_2 (by omega) (by omega) (by assumption) (by assumption) (by assumption) (by assumption) (by assumption) (by omega) (by omega) (by first | exact Or.inl (by decide) | exact Or.inr (by rw [pw_lToInt (by omega) (by omega)]; omega))) (by omega) rfl
                      · intro hc34
                        change ¬ (k70_2 - k17_2 ≤ (8 : Int)) at hc34
                        refine pw_ld E (pc' := 144) (st' := [pw_i 4, pw_i k17_1, .ref 143]) rfl (fun _ => rfl) ?_
                        refine pw_goto E (pc' := 148) rfl (by decide) ?_
                        refine pw_ast0 h17I E (c := 127) (pc' := 149) rfl rfl rfl (by decide) rfl (by decide) (by omega) (by omega) rfl (by omega) (by omega) (by omega) (by omega) rfl ?_
                        intro h35I h35E
                        generalize h35w : pw_w h17 127 (k17_1.toNat) (pw_i 4) = h35 at h35I h35E ⊢
                        have h35F := h17F.tr (h35E.wk (W' := [125, 127, 128, 129, 1002]) (by first | rfl | simp))
                        refine pw_goto E (pc' := 265) rfl (by decide) ?_
                        refine pw_ld E (pc' := 266) (st' := [.ref 141]) rfl (fun _ => rfl) ?_
                        refine pw_getR (b := 145) h35I E (c := 125) (k := 6) (pc' := 269) rfl rfl rfl rfl rfl rfl rfl ?_
                        refine pw_ld E (pc' := 270) (st' := [pw_i k17_1, .ref 145]) rfl (fun _ => rfl) ?_
                        refine pw_ld E (pc' := 272) (st' := [.long k70_5, pw_i k17_1, .ref 145]) rfl (fun _ => rfl) ?_
                        refine pw_last h35I E (c := 129) (pc' := 273) rfl rfl rfl (by decide) (by omega) (by omega) rfl ?_
                        intro h36I h36E
                        generalize h36w : pw_w h35 129 (k17_1.toNat) (.long k70_5) = h36 at h36I h36E ⊢
                        have h36F := h35F.tr (h36E.wk (W' := [125, 127, 128, 129, 1002]) (by first | rfl | simp))
                        refine pw_inc E (pc' := 276) (ls' := [some (.ref 141), some (pw_i (k17_1 + 1)), some (pw_i k70_2), some (pw_i (pw_g gh17 126 (k17_2.toNat))), some (pw_i k17_2), some (.long k70_5), none]) rfl rfl rfl rfl ?_
                        refine pw_goto E (pc' := 17) rfl (by decide) ?_
                        have he37 : pw_g h36 125 3 = pw_g h35 125 3 := by rw [← h36w]; exact pw_g_ne (by omega)
                        have he38 : pw_g h35 125 3 = pw_g h17 125 3 := by rw [← h35w]; exact pw_g_ne (by omega)
                        have he39 : pw_g h36 125 2 = pw_g h35 125 2 := by rw [← h36w]; exact pw_g_ne (by omega)
                        have he40 : pw_g h35 125 2 = pw_g h17 125 2 := by rw [← h35w]; exact pw_g_ne (by omega)
                        have he41 : pw_g h17 125 2 = pw_g gh17 125 2 := by rw [← h17w]; exact pw_g_ne (by omega)
                        exact ih17 _ (by omega) (k17_1 + 1) (k70_2) (some (pw_i (pw_g gh17 126 (k17_2.toNat)))) (some (pw_i k17_2)) (some (.long k70_5)) h36 h36I h36F (by omega) (by omega) (by omega) (by omega) (by omega) (by omega) (by first | exact hx17_2 | exact pw_NV.st hx17_2 (by omega) (by omega) (by assumption) (by assumption) (by assumption) (by assumption) (by assumption) (by omega) (by omega) (by first | exact Or.inl (by decide) | exact Or.inr (by rw [pw_lToInt (by omega) (by omega)]; omega))) (by omega) rfl
                    · intro hc42
                      change ¬ (pw_g h17 125 3 ≤ k70_2) at hc42
                      refine pw_ld E (pc' := 79) (st' := [.ref 141]) rfl (fun _ => rfl) ?_
                      refine pw_getR (b := 142) h17I E (c := 125) (k := 1) (pc' := 82) rfl rfl rfl rfl rfl rfl rfl ?_
                      refine pw_ld E (pc' := 83) (st' := [pw_i k70_2, .ref 142]) rfl (fun _ => rfl) ?_
                      refine pw_ald2 h17I E (c := 126) (pc' := 84) rfl rfl rfl (by decide) rfl (by decide) (by omega) (by omega) rfl (fun hf43a hf43b => ?_)
                      refine pw_call (m' := 239) (As := [pw_i (pw_g h17 126 (k70_2.toNat))]) (rest := []) (ls'' := [some (pw_i (pw_g h17 126 (k70_2.toNat)))]) (Nat.le_trans (by decide) hd) E rfl (fun _ => pw_iS rfl rfl rfl) (rfl : pm_ent 239 = some (1, 1, 12, 1, pmc_239)) rfl rfl (cm_239_r (pw_dp hd (by decide)) h17I (pw_g h17 126 (k70_2.toNat)) (by omega) (by omega)) ?_
                      rintro u45 v44 ⟨rfl, x46, rfl, hx46a, hx46b, hx46r⟩
                      refine ⟨_, rfl, ?_⟩
                      show pw X d h17 238 87 [some (.ref 141), some (pw_i k17_1), some (pw_i k70_2), some (pw_i (pw_g gh17 126 (k17_2.toNat))), some (pw_i k17_2), some (.long k70_5), none] [pw_i x46] _
                      change (x46 = 1 ∧ 97 ≤ (pw_g h17 126 (k70_2.toNat)) ∧ (pw_g h17 126 (k70_2.toNat)) ≤ 122) ∨ (x46 = 0 ∧ ¬ (97 ≤ (pw_g h17 126 (k70_2.toNat)) ∧ (pw_g h17 126 (k70_2.toNat)) ≤ 122)) at hx46r
                      rcases (by omega : x46 = 1 ∨ x46 = 0) with hb47 | hb47
                      · skip
                        refine pw_if E (pc' := 129) rfl (by decide) (by omega) (by omega) ?_ ?_
                        · intro hc48
                          change x46 = (0 : Int) at hc48
                          exfalso; omega
                        · intro hc49
                          change ¬ (x46 = (0 : Int)) at hc49
                          refine pw_ld E (pc' := 91) (st' := [pw_i k70_2]) rfl (fun _ => rfl) ?_
                          refine pw_ld E (pc' := 93) (st' := [pw_i k17_2, pw_i k70_2]) rfl (fun _ => rfl) ?_
                          refine pw_sub E (pc' := 94) rfl rfl ?_
                          refine pw_bip E (pc' := 96) rfl rfl (by decide) ?_
                          refine pw_if2 E (pc' := 119) rfl (by decide) (by omega) (by omega) (by decide) (by decide) ?_ ?_
                          · intro hc50
                            change (8 : Int) ≤ k70_2 - k17_2 at hc50
                            refine pw_ld E (pc' := 121) (st' := [.long k70_5]) rfl (fun _ => rfl) ?_
                            refine pw_lst E (pc' := 123) (ls' := [some (.ref 141), some (pw_i k17_1), some (pw_i k70_2), some (pw_i (pw_g gh17 126 (k17_2.toNat))), some (pw_i k17_2), some (.long k70_5), none]) rfl rfl rfl rfl ?_
                            refine pw_inc E (pc' := 126) (ls' := [some (.ref 141), some (pw_i k17_1), some (pw_i (k70_2 + 1)), some (pw_i (pw_g gh17 126 (k17_2.toNat))), some (pw_i k17_2), some (.long k70_5), none]) rfl rfl rfl rfl ?_
                            refine pw_goto E (pc' := 70) rfl (by decide) ?_
                            exact ih70 _ (by omega) (k70_2 + 1) (k70_5)  (by omega) (by omega) (by omega) (by omega) (by omega) (by omega) rfl
                          · intro hc51
                            change ¬ ((8 : Int) ≤ k70_2 - k17_2) at hc51
                            refine pw_ld E (pc' := 102) (st' := [.long (Int64.ofInt 37)]) rfl (fun _ => rfl) ?_
                            refine pw_ld E (pc' := 104) (st' := [.long k70_5, .long (Int64.ofInt 37)]) rfl (fun _ => rfl) ?_
                            refine pw_ld E (pc' := 105) (st' := [.long ((Int64.ofInt 37) * k70_5)]) rfl (fun _ => rfl) ?_
                            refine pw_ld E (pc' := 106) (st' := [.ref 141, .long ((Int64.ofInt 37) * k70_5)]) rfl (fun _ => rfl) ?_
                            refine pw_getR (b := 142) h17I E (c := 125) (k := 1) (pc' := 109) rfl rfl rfl rfl rfl rfl rfl ?_
                            refine pw_ld E (pc' := 110) (st' := [pw_i k70_2, .ref 142, .long ((Int64.ofInt 37) * k70_5)]) rfl (fun _ => rfl) ?_
                            refine pw_ald2 h17I E (c := 126) (pc' := 111) rfl rfl rfl (by decide) rfl (by decide) (by omega) (by omega) rfl (fun hf52a hf52b => ?_)
                            refine pw_call (m' := 240) (As := [pw_i (pw_g h17 126 (k70_2.toNat))]) (rest := [.long ((Int64.ofInt 37) * k70_5)]) (ls'' := [some (pw_i (pw_g h17 126 (k70_2.toNat)))]) (Nat.le_trans (by decide) hd) E rfl (fun _ => pw_iS rfl rfl rfl) (rfl : pm_ent 240 = some (1, 1, 12, 0, pmc_240)) rfl rfl (cm_240 (pw_dp hd (by decide)) h17I (pw_g h17 126 (k70_2.toNat)) (by omega) (by omega)) ?_
                            rintro u54 v53 ⟨rfl, x55, rfl, hx55a, hx55b⟩
                            refine ⟨_, rfl, ?_⟩
                            show pw X d h17 238 114 [some (.ref 141), some (pw_i k17_1), some (pw_i k70_2), some (pw_i (pw_g gh17 126 (k17_2.toNat))), some (pw_i k17_2), some (.long k70_5), none] [pw_i x55, .long ((Int64.ofInt 37) * k70_5)] _
                            refine pw_i2l E (pc' := 115) rfl rfl (by omega) (by omega) ?_
                            refine pw_ld E (pc' := 116) (st' := [.long (((Int64.ofInt 37) * k70_5) + (Int64.ofInt x55))]) rfl (fun _ => rfl) ?_
                            refine pw_goto E (pc' := 121) rfl (by decide) ?_
                            refine pw_lst E (pc' := 123) (ls' := [some (.ref 141), some (pw_i k17_1), some (pw_i k70_2), some (pw_i (pw_g gh17 126 (k17_2.toNat))), some (pw_i k17_2), some (.long (((Int64.ofInt 37) * k70_5) + (Int64.ofInt x55))), none]) rfl rfl rfl rfl ?_
                            refine pw_inc E (pc' := 126) (ls' := [some (.ref 141), some (pw_i k17_1), some (pw_i (k70_2 + 1)), some (pw_i (pw_g gh17 126 (k17_2.toNat))), some (pw_i k17_2), some (.long (((Int64.ofInt 37) * k70_5) + (Int64.ofInt x55))), none]) rfl rfl rfl rfl ?_
                            refine pw_goto E (pc' := 70) rfl (by decide) ?_
                            exact ih70 _ (by omega) (k70_2 + 1) (((Int64.ofInt 37) * k70_5) + (Int64.ofInt x55))  (by omega) (by omega) (by omega) (by omega) (by omega) (by omega) rfl
                      · skip
                        refine pw_if E (pc' := 129) rfl (by decide) (by omega) (by omega) ?_ ?_
                        · intro hc57
                          change x46 = (0 : Int) at hc57
                          refine pw_ld E (pc' := 130) (st' := [.ref 141]) rfl (fun _ => rfl) ?_
                          refine pw_getR (b := 143) h17I E (c := 125) (k := 4) (pc' := 133) rfl rfl rfl rfl rfl rfl rfl ?_
                          refine pw_ld E (pc' := 134) (st' := [pw_i k17_1, .ref 143]) rfl (fun _ => rfl) ?_
                          refine pw_ld E (pc' := 135) (st' := [pw_i k70_2, pw_i k17_1, .ref 143]) rfl (fun _ => rfl) ?_
                          refine pw_ld E (pc' := 137) (st' := [pw_i k17_2, pw_i k70_2, pw_i k17_1, .ref 143]) rfl (fun _ => rfl) ?_
                          refine pw_sub E (pc' := 138) rfl rfl ?_
                          refine pw_bip E (pc' := 140) rfl rfl (by decide) ?_
                          refine pw_if2 E (pc' := 147) rfl (by decide) (by omega) (by omega) (by decide) (by decide) ?_ ?_
                          · intro hc58
                            change k70_2 - k17_2 ≤ (8 : Int) at hc58
                            refine pw_ld E (pc' := 148) (st' := [pw_i 1, pw_i k17_1, .ref 143]) rfl (fun _ => rfl) ?_
                            refine pw_ast0 h17I E (c := 127) (pc' := 149) rfl rfl rfl (by decide) rfl (by decide) (by omega) (by omega) rfl (by omega) (by omega) (by omega) (by omega) rfl ?_
                            intro h59I h59E
                            generalize h59w : pw_w h17 127 (k17_1.toNat) (pw_i 1) = h59 at h59I h59E ⊢
                            have h59F := h17F.tr (h59E.wk (W' := [125, 127, 128, 129, 1002]) (by first | rfl | simp))
                            refine pw_goto E (pc' := 265) rfl (by decide) ?_
                            refine pw_ld E (pc' := 266) (st' := [.ref 141]) rfl (fun _ => rfl) ?_
                            refine pw_getR (b := 145) h59I E (c := 125) (k := 6) (pc' := 269) rfl rfl rfl rfl rfl rfl rfl ?_
                            refine pw_ld E (pc' := 270) (st' := [pw_i k17_1, .ref 145]) rfl (fun _ => rfl) ?_
                            refine pw_ld E (pc' := 272) (st' := [.long k70_5, pw_i k17_1, .ref 145]) rfl (fun _ => rfl) ?_
                            refine pw_last h59I E (c := 129) (pc' := 273) rfl rfl rfl (by decide) (by omega) (by omega) rfl ?_
                            intro h60I h60E
                            generalize h60w : pw_w h59 129 (k17_1.toNat) (.long k70_5) = h60 at h60I h60E ⊢
                            have h60F := h59F.tr (h60E.wk (W' := [125, 127, 128, 129, 1002]) (by first | rfl | simp))
                            refine pw_inc E (pc' := 276) (ls' := [some (.ref 141), some (pw_i (k17_1 + 1)), some (pw_i k70_2), some (pw_i (pw_g gh17 126 (k17_2.toNat))), some (pw_i k17_2), some (.long k70_5), none]) rfl rfl rfl rfl ?_
                            refine pw_goto E (pc' := 17) rfl (by decide) ?_
                            have he61 : pw_g h60 125 3 = pw_g h59 125 3 := by rw [← h60w]; exact pw_g_ne (by omega)
                            have he62 : pw_g h59 125 3 = pw_g h17 125 3 := by rw [← h59w]; exact pw_g_ne (by omega)
                            have he63 : pw_g h60 125 2 = pw_g h59 125 2 := by rw [← h60w]; exact pw_g_ne (by omega)
                            have he64 : pw_g h59 125 2 = pw_g h17 125 2 := by rw [← h59w]; exact pw_g_ne (by omega)
                            have he65 : pw_g h17 125 2 = pw_g gh17 125 2 := by rw [← h17w]; exact pw_g_ne (by omega)
                            exact ih17 _ (by omega) (k17_1 + 1) (k70_2) (some (pw_i (pw_g gh17 126 (k17_2.toNat)))) (some (pw_i k17_2)) (some (.long k70_5)) h60 h60I h60F (by omega) (by omega) (by omega) (by omega) (by omega) (by omega) (by first | exact hx17_2 | exact pw_NV.st hx17_2 (by omega) (by omega) (by assumption) (by assumption) (by assumption) (by assumption) (by assumption) (by omega) (by omega) (by first | exact Or.inl (by decide) | exact Or.inr (by rw [pw_lToInt (by omega) (by omega)]; omega))) (by omega) rfl
                          · intro hc66
                            change ¬ (k70_2 - k17_2 ≤ (8 : Int)) at hc66
                            refine pw_ld E (pc' := 144) (st' := [pw_i 4, pw_i k17_1, .ref 143]) rfl (fun _ => rfl) ?_
                            refine pw_goto E (pc' := 148) rfl (by decide) ?_
                            refine pw_ast0 h17I E (c := 127) (pc' := 149) rfl rfl rfl (by decide) rfl (by decide) (by omega) (by omega) rfl (by omega) (by omega) (by omega) (by omega) rfl ?_
                            intro h67I h67E
                            generalize h67w : pw_w h17 127 (k17_1.toNat) (pw_i 4) = h67 at h67I h67E ⊢
                            have h67F := h17F.tr (h67E.wk (W' := [125, 127, 128, 129, 1002]) (by first | rfl | simp))
                            refine pw_goto E (pc' := 265) rfl (by decide) ?_
                            refine pw_ld E (pc' := 266) (st' := [.ref 141]) rfl (fun _ => rfl) ?_
                            refine pw_getR (b := 145) h67I E (c := 125) (k := 6) (pc' := 269) rfl rfl rfl rfl rfl rfl rfl ?_
                            refine pw_ld E (pc' := 270) (st' := [pw_i k17_1, .ref 145]) rfl (fun _ => rfl) ?_
                            refine pw_ld E (pc' := 272) (st' := [.long k70_5, pw_i k17_1, .ref 145]) rfl (fun _ => rfl) ?_
                            refine pw_last h67I E (c := 129) (pc' := 273) rfl rfl rfl (by decide) (by omega) (by omega) rfl ?_
                            intro h68I h68E
                            generalize h68w : pw_w h67 129 (k17_1.toNat) (.long k70_5) = h68 at h68I h68E ⊢
                            have h68F := h67F.tr (h68E.wk (W' := [125, 127, 128, 129, 1002]) (by first | rfl | simp))
                            refine pw_inc E (pc' := 276) (ls' := [some (.ref 141), some (pw_i (k17_1 + 1)), some (pw_i k70_2), some (pw_i (pw_g gh17 126 (k17_2.toNat))), some (pw_i k17_2), some (.long k70_5), none]) rfl rfl rfl rfl ?_
                            refine pw_goto E (pc' := 17) rfl (by decide) ?_
                            have he69 : pw_g h68 125 3 = pw_g h67 125 3 := by rw [← h68w]; exact pw_g_ne (by omega)
                            have he70 : pw_g h67 125 3 = pw_g h17 125 3 := by rw [← h67w]; exact pw_g_ne (by omega)
                            have he71 : pw_g h68 125 2 = pw_g h67 125 2 := by rw [← h68w]; exact pw_g_ne (by omega)
                            have he72 : pw_g h67 125 2 = pw_g h17 125 2 := by rw [← h67w]; exact pw_g_ne (by omega)
                            have he73 : pw_g h17 125 2 = pw_g gh17 125 2 := by rw [← h17w]; exact pw_g_ne (by omega)
                            exact ih17 _ (by omega) (k17_1 + 1) (k70_2) (some (pw_i (pw_g gh17 126 (k17_2.toNat)))) (some (pw_i k17_2)) (some (.long k70_5)) h68 h68I h68F (by omega) (by omega) (by omega) (by omega) (by omega) (by omega) (by first | exact hx17_2 | exact pw_NV.st hx17_2 (by omega) (by omega) (by assumption) (by assumption) (by assumption) (by assumption) (by assumption) (by omega) (by omega) (by first | exact Or.inl (by decide) | exact Or.inr (by rw [pw_lToInt (by omega) (by omega)]; omega))) (by omega) rfl
                        · intro hc74
                          change ¬ (x46 = (0 : Int)) at hc74
                          exfalso; omega
                have he75 : pw_g h17 125 3 = pw_g gh17 125 3 := by rw [← h17w]; exact pw_g_ne (by omega)
                exact L70 _ (k17_2) (Int64.ofInt 0)  (by omega) (by omega) (by omega) (by omega) (by omega) (by omega) rfl
            · skip
              refine pw_if E (pc' := 152) rfl (by decide) (by omega) (by omega) ?_ ?_
              · intro hc77
                change x20 = (0 : Int) at hc77
                refine pw_ld E (pc' := 153) (st' := [pw_i (pw_g gh17 126 (k17_2.toNat))]) rfl (fun _ => rfl) ?_
                refine pw_call (m' := 241) (As := [pw_i (pw_g gh17 126 (k17_2.toNat))]) (rest := []) (ls'' := [some (pw_i (pw_g gh17 126 (k17_2.toNat)))]) (Nat.le_trans (by decide) hd) E rfl (fun _ => pw_iS rfl rfl rfl) (rfl : pm_ent 241 = some (1, 1, 12, 1, pmc_241)) rfl rfl (cm_241_r (pw_dp hd (by decide)) h17I (pw_g gh17 126 (k17_2.toNat)) (by omega) (by omega)) ?_
                rintro u79 v78 ⟨rfl, x80, rfl, hx80a, hx80b, hx80r⟩
                refine ⟨_, rfl, ?_⟩
                show pw X d h17 238 156 [some (.ref 141), some (pw_i k17_1), some (pw_i k17_2), some (pw_i (pw_g gh17 126 (k17_2.toNat))), some (pw_i k17_2), some (.long (Int64.ofInt 0)), none] [pw_i x80] _
                change (x80 = 1 ∧ 48 ≤ (pw_g gh17 126 (k17_2.toNat)) ∧ (pw_g gh17 126 (k17_2.toNat)) ≤ 57) ∨ (x80 = 0 ∧ ¬ (48 ≤ (pw_g gh17 126 (k17_2.toNat)) ∧ (pw_g gh17 126 (k17_2.toNat)) ≤ 57)) at hx80r
                rcases (by omega : x80 = 1 ∨ x80 = 0) with hb81 | hb81
                · skip
                  refine pw_if E (pc' := 240) rfl (by decide) (by omega) (by omega) ?_ ?_
                  · intro hc82
                    change x80 = (0 : Int) at hc82
                    exfalso; omega
                  · intro hc83
                    change ¬ (x80 = (0 : Int)) at hc83
                    have L159 : ∀ (n159 : Nat) (k159_2 : Int) (k159_5 : Int), 0 ≤ k159_2 → k159_2 ≤ 1000 → 0 ≤ k159_5 → k159_5 ≤ 9999 → k17_2 < k159_2 ∨ (k159_2 = k17_2 ∧ 48 ≤ pw_g h17 126 (k159_2).toNat ∧ pw_g h17 126 (k159_2).toNat ≤ 57) → k17_2 < pw_g h17 125 3 → k159_2 ≤ pw_g h17 125 3 → k17_2 ≤ k159_2 → (k159_2 = k17_2 ∧ k159_5 = 0) ∨ (k159_2 = k17_2 + 1 ∧ k159_5 ≤ 9) ∨ (k159_2 = k17_2 + 2 ∧ k159_5 ≤ 99) ∨ (k159_2 = k17_2 + 3 ∧ k159_5 ≤ 999) ∨ k17_2 + 4 ≤ k159_2 → (1000 - k159_2).toNat = n159 → pw X d h17 238 159 [some (.ref 141), some (pw_i k17_1), some (pw_i k159_2), some (pw_i (pw_g gh17 126 (k17_2.toNat))), some (pw_i k17_2), some (.long (Int64.ofInt k159_5)), none] [] (fun h' v => pw_I h' ∧ pw_E [125, 127, 128, 129, 1002] h h' ∧ ((∃ n : Nat, pw_A n h' ∧ pw_g h' 125 7 = 0 ∧ pw_g h' 125 8 = 0 ∧ pw_NV n h') ∧ pw_g h' 125 2 = 0) ∧ (v = .inl none)) := by
                      intro n159
                      induction n159 using Nat.strongRecOn with
                      | ind n159 ih159 =>
                        intro k159_2 k159_5 k159_2a k159_2b k159_5a k159_5b hx159_0 hx159_1 hx159_2 hx159_3 hx159_4 hm159
                        refine pw_ld E (pc' := 160) (st' := [pw_i k159_2]) rfl (fun _ => rfl) ?_
                        refine pw_ld E (pc' := 161) (st' := [.ref 141, pw_i k159_2]) rfl (fun _ => rfl) ?_
                        refine pw_getI2 h17I E (c := 125) (k := 3) (pc' := 164) rfl rfl rfl rfl rfl rfl (fun hf84a hf84b => ?_)
                        refine pw_if2 E (pc' := 218) rfl (by decide) (by omega) (by omega) (by omega) (by omega) ?_ ?_
                        · intro hc85
                          change pw_g h17 125 3 ≤ k159_2 at hc85
                          refine pw_ld E (pc' := 219) (st' := [.ref 141]) rfl (fun _ => rfl) ?_
                          refine pw_getR (b := 143) h17I E (c := 125) (k := 4) (pc' := 222) rfl rfl rfl rfl rfl rfl rfl ?_
                          refine pw_ld E (pc' := 223) (st' := [pw_i k17_1, .ref 143]) rfl (fun _ => rfl) ?_
                          refine pw_ld E (pc' := 224) (st' := [pw_i k159_2, pw_i k17_1, .ref 143]) rfl (fun _ => rfl) ?_
                          refine pw_ld E (pc' := 226) (st' := [pw_i k17_2, pw_i k159_2, pw_i k17_1, .ref 143]) rfl (fun _ => rfl) ?_
                          refine pw_sub E (pc' := 227) rfl rfl ?_
                          refine pw_ld E (pc' := 228) (st' := [pw_i 4, pw_i (k159_2 - k17_2), pw_i k17_1, .ref 143]) rfl (fun _ => rfl) ?_
                          refine pw_if2 E (pc' := 235) rfl (by decide) (by omega) (by omega) (by decide) (by decide) ?_ ?_
                          · intro hc86
                            change k159_2 - k17_2 ≤ (4 : Int) at hc86
                            refine pw_ld E (pc' := 236) (st' := [pw_i 2, pw_i k17_1, .ref 143]) rfl (fun _ => rfl) ?_
                            refine pw_ast0 h17I E (c := 127) (pc' := 237) rfl rfl rfl (by decide) rfl (by decide) (by omega) (by omega) rfl (by omega) (by omega) (by omega) (by omega) rfl ?_
                            intro h87I h87E
                            generalize h87w : pw_w h17 127 (k17_1.toNat) (pw_i 2) = h87 at h87I h87E ⊢
                            have h87F := h17F.tr (h87E.wk (W' := [125, 127, 128, 129, 1002]) (by first | rfl | simp))
                            refine pw_goto E (pc' := 265) rfl (by decide) ?_
                            refine pw_ld E (pc' := 266) (st' := [.ref 141]) rfl (fun _ => rfl) ?_
                            refine pw_getR (b := 145) h87I E (c := 125) (k := 6) (pc' := 269) rfl rfl rfl rfl rfl rfl rfl ?_
                            refine pw_ld E (pc' := 270) (st' := [pw_i k17_1, .ref 145]) rfl (fun _ => rfl) ?_
                            refine pw_ld E (pc' := 272) (st' := [.long (Int64.ofInt k159_5), pw_i k17_1, .ref 145]) rfl (fun _ => rfl) ?_
                            refine pw_last h87I E (c := 129) (pc' := 273) rfl rfl rfl (by decide) (by omega) (by omega) rfl ?_
                            intro h88I h88E
                            generalize h88w : pw_w h87 129 (k17_1.toNat) (.long (Int64.ofInt k159_5)) = h88 at h88I h88E ⊢
                            have h88F := h87F.tr (h88E.wk (W' := [125, 127, 128, 129, 1002]) (by first | rfl | simp))
                            refine pw_inc E (pc' := 276) (ls' := [some (.ref 141), some (pw_i (k17_1 + 1)), some (pw_i k159_2), some (pw_i (pw_g gh17 126 (k17_2.toNat))), some (pw_i k17_2), some (.long (Int64.ofInt k159_5)), none]) rfl rfl rfl rfl ?_
                            refine pw_goto E (pc' := 17) rfl (by decide) ?_
                            have he89 : pw_g h88 125 3 = pw_g h87 125 3 := by rw [← h88w]; exact pw_g_ne (by omega)
                            have he90 : pw_g h87 125 3 = pw_g h17 125 3 := by rw [← h87w]; exact pw_g_ne (by omega)
                            have he91 : pw_g h88 125 2 = pw_g h87 125 2 := by rw [← h88w]; exact pw_g_ne (by omega)
                            have he92 : pw_g h87 125 2 = pw_g h17 125 2 := by rw [← h87w]; exact pw_g_ne (by omega)
                            have he93 : pw_g h17 125 2 = pw_g gh17 125 2 := by rw [← h17w]; exact pw_g_ne (by omega)
                            exact ih17 _ (by omega) (k17_1 + 1) (k159_2) (some (pw_i (pw_g gh17 126 (k17_2.toNat)))) (some (pw_i k17_2)) (some (.long (Int64.ofInt k159_5))) h88 h88I h88F (by omega) (by omega) (by omega) (by omega) (by omega) (by omega) (by first | exact hx17_2 | exact pw_NV.st hx17_2 (by omega) (by omega) (by assumption) (by assumption) (by assumption) (by assumption) (by assumption) (by omega) (by omega) (by first | exact Or.inl (by decide) | exact Or.inr (by rw [pw_lToInt (by omega) (by omega)]; omega))) (by omega) rfl
                          · intro hc94
                            change ¬ (k159_2 - k17_2 ≤ (4 : Int)) at hc94
                            refine pw_ld E (pc' := 232) (st' := [pw_i 4, pw_i k17_1, .ref 143]) rfl (fun _ => rfl) ?_
                            refine pw_goto E (pc' := 236) rfl (by decide) ?_
                            refine pw_ast0 h17I E (c := 127) (pc' := 237) rfl rfl rfl (by decide) rfl (by decide) (by omega) (by omega) rfl (by omega) (by omega) (by omega) (by omega) rfl ?_
                            intro h95I h95E
                            generalize h95w : pw_w h17 127 (k17_1.toNat) (pw_i 4) = h95 at h95I h95E ⊢
                            have h95F := h17F.tr (h95E.wk (W' := [125, 127, 128, 129, 1002]) (by first | rfl | simp))
                            refine pw_goto E (pc' := 265) rfl (by decide) ?_
                            refine pw_ld E (pc' := 266) (st' := [.ref 141]) rfl (fun _ => rfl) ?_
                            refine pw_getR (b := 145) h95I E (c := 125) (k := 6) (pc' := 269) rfl rfl rfl rfl rfl rfl rfl ?_
                            refine pw_ld E (pc' := 270) (st' := [pw_i k17_1, .ref 145]) rfl (fun _ => rfl) ?_
                            refine pw_ld E (pc' := 272) (st' := [.long (Int64.ofInt k159_5), pw_i k17_1, .ref 145]) rfl (fun _ => rfl) ?_
                            refine pw_last h95I E (c := 129) (pc' := 273) rfl rfl rfl (by decide) (by omega) (by omega) rfl ?_
                            intro h96I h96E
                            generalize h96w : pw_w h95 129 (k17_1.toNat) (.long (Int64.ofInt k159_5)) = h96 at h96I h96E ⊢
                            have h96F := h95F.tr (h96E.wk (W' := [125, 127, 128, 129, 1002]) (by first | rfl | simp))
                            refine pw_inc E (pc' := 276) (ls' := [some (.ref 141), some (pw_i (k17_1 + 1)), some (pw_i k159_2), some (pw_i (pw_g gh17 126 (k17_2.toNat))), some (pw_i k17_2), some (.long (Int64.ofInt k159_5)), none]) rfl rfl rfl rfl ?_
                            refine pw_goto E (pc' := 17) rfl (by decide) ?_
                            have he97 : pw_g h96 125 3 = pw_g h95 125 3 := by rw [← h96w]; exact pw_g_ne (by omega)
                            have he98 : pw_g h95 125 3 = pw_g h17 125 3 := by rw [← h95w]; exact pw_g_ne (by omega)
                            have he99 : pw_g h96 125 2 = pw_g h95 125 2 := by rw [← h96w]; exact pw_g_ne (by omega)
                            have he100 : pw_g h95 125 2 = pw_g h17 125 2 := by rw [← h95w]; exact pw_g_ne (by omega)
                            have he101 : pw_g h17 125 2 = pw_g gh17 125 2 := by rw [← h17w]; exact pw_g_ne (by omega)
                            exact ih17 _ (by omega) (k17_1 + 1) (k159_2) (some (pw_i (pw_g gh17 126 (k17_2.toNat)))) (some (pw_i k17_2)) (some (.long (Int64.ofInt k159_5))) h96 h96I h96F (by omega) (by omega) (by omega) (by omega) (by omega) (by omega) (by first | exact hx17_2 | exact pw_NV.st hx17_2 (by omega) (by omega) (by assumption) (by assumption) (by assumption) (by assumption) (by assumption) (by omega) (by omega) (by first | exact Or.inl (by decide) | exact Or.inr (by rw [pw_lToInt (by omega) (by omega)]; omega))) (by omega) rfl
                        · intro hc102
                          change ¬ (pw_g h17 125 3 ≤ k159_2) at hc102
                          refine pw_ld E (pc' := 168) (st' := [.ref 141]) rfl (fun _ => rfl) ?_
                          refine pw_getR (b := 142) h17I E (c := 125) (k := 1) (pc' := 171) rfl rfl rfl rfl rfl rfl rfl ?_
                          refine pw_ld E (pc' := 172) (st' := [pw_i k159_2, .ref 142]) rfl (fun _ => rfl) ?_
                          refine pw_ald2 h17I E (c := 126) (pc' := 173) rfl rfl rfl (by decide) rfl (by decide) (by omega) (by omega) rfl (fun hf103a hf103b => ?_)
                          refine pw_call (m' := 241) (As := [pw_i (pw_g h17 126 (k159_2.toNat))]) (rest := []) (ls'' := [some (pw_i (pw_g h17 126 (k159_2.toNat)))]) (Nat.le_trans (by decide) hd) E rfl (fun _ => pw_iS rfl rfl rfl) (rfl : pm_ent 241 = some (1, 1, 12, 1, pmc_241)) rfl rfl (cm_241_r (pw_dp hd (by decide)) h17I (pw_g h17 126 (k159_2.toNat)) (by omega) (by omega)) ?_
                          rintro u105 v104 ⟨rfl, x106, rfl, hx106a, hx106b, hx106r⟩
                          refine ⟨_, rfl, ?_⟩
                          show pw X d h17 238 176 [some (.ref 141), some (pw_i k17_1), some (pw_i k159_2), some (pw_i (pw_g gh17 126 (k17_2.toNat))), some (pw_i k17_2), some (.long (Int64.ofInt k159_5)), none] [pw_i x106] _
                          change (x106 = 1 ∧ 48 ≤ (pw_g h17 126 (k159_2.toNat)) ∧ (pw_g h17 126 (k159_2.toNat)) ≤ 57) ∨ (x106 = 0 ∧ ¬ (48 ≤ (pw_g h17 126 (k159_2.toNat)) ∧ (pw_g h17 126 (k159_2.toNat)) ≤ 57)) at hx106r
                          rcases (by omega : x106 = 1 ∨ x106 = 0) with hb107 | hb107
                          · skip
                            refine pw_if E (pc' := 218) rfl (by decide) (by omega) (by omega) ?_ ?_
                            · intro hc108
                              change x106 = (0 : Int) at hc108
                              exfalso; omega
                            · intro hc109
                              change ¬ (x106 = (0 : Int)) at hc109
                              refine pw_ld E (pc' := 180) (st' := [pw_i k159_2]) rfl (fun _ => rfl) ?_
                              refine pw_ld E (pc' := 182) (st' := [pw_i k17_2, pw_i k159_2]) rfl (fun _ => rfl) ?_
                              refine pw_sub E (pc' := 183) rfl rfl ?_
                              refine pw_ld E (pc' := 184) (st' := [pw_i 4, pw_i (k159_2 - k17_2)]) rfl (fun _ => rfl) ?_
                              refine pw_if2 E (pc' := 208) rfl (by decide) (by omega) (by omega) (by decide) (by decide) ?_ ?_
                              · intro hc110
                                change (4 : Int) ≤ k159_2 - k17_2 at hc110
                                refine pw_ld E (pc' := 210) (st' := [.long (Int64.ofInt k159_5)]) rfl (fun _ => rfl) ?_
                                refine pw_lst E (pc' := 212) (ls' := [some (.ref 141), some (pw_i k17_1), some (pw_i k159_2), some (pw_i (pw_g gh17 126 (k17_2.toNat))), some (pw_i k17_2), some (.long (Int64.ofInt k159_5)), none]) rfl rfl rfl rfl ?_
                                refine pw_inc E (pc' := 215) (ls' := [some (.ref 141), some (pw_i k17_1), some (pw_i (k159_2 + 1)), some (pw_i (pw_g gh17 126 (k17_2.toNat))), some (pw_i k17_2), some (.long (Int64.ofInt k159_5)), none]) rfl rfl rfl rfl ?_
                                refine pw_goto E (pc' := 159) rfl (by decide) ?_
                                exact ih159 _ (by omega) (k159_2 + 1) (k159_5)  (by omega) (by omega) (by omega) (by omega) (by omega) (by omega) (by omega) (by omega) (by omega) rfl
                              · intro hc111
                                change ¬ ((4 : Int) ≤ k159_2 - k17_2) at hc111
                                refine pw_ld E (pc' := 190) (st' := [.long (Int64.ofInt 10)]) rfl (fun _ => rfl) ?_
                                refine pw_ld E (pc' := 192) (st' := [.long (Int64.ofInt k159_5), .long (Int64.ofInt 10)]) rfl (fun _ => rfl) ?_
                                refine pw_lmul E (pc' := 193) rfl rfl ?_
                                refine pw_ld E (pc' := 194) (st' := [.ref 141, .long (Int64.ofInt (10 * k159_5))]) rfl (fun _ => rfl) ?_
                                refine pw_getR (b := 142) h17I E (c := 125) (k := 1) (pc' := 197) rfl rfl rfl rfl rfl rfl rfl ?_
                                refine pw_ld E (pc' := 198) (st' := [pw_i k159_2, .ref 142, .long (Int64.ofInt (10 * k159_5))]) rfl (fun _ => rfl) ?_
                                refine pw_ald2 h17I E (c := 126) (pc' := 199) rfl rfl rfl (by decide) rfl (by decide) (by omega) (by omega) rfl (fun hf112a hf112b => ?_)
                                refine pw_i2l E (pc' := 200) rfl rfl (by omega) (by omega) ?_
                                refine pw_ladd E (pc' := 201) rfl rfl ?_
                                refine pw_ld E (pc' := 204) (st' := [.long (Int64.ofInt 48), .long (Int64.ofInt ((10 * k159_5) + (pw_g h17 126 (k159_2.toNat))))]) rfl (fun _ => rfl) ?_
                                refine pw_lsub E (pc' := 205) rfl rfl ?_
                                refine pw_goto E (pc' := 210) rfl (by decide) ?_
                                refine pw_lst E (pc' := 212) (ls' := [some (.ref 141), some (pw_i k17_1), some (pw_i k159_2), some (pw_i (pw_g gh17 126 (k17_2.toNat))), some (pw_i k17_2), some (.long (Int64.ofInt (((10 * k159_5) + (pw_g h17 126 (k159_2.toNat))) - 48))), none]) rfl rfl rfl rfl ?_
                                refine pw_inc E (pc' := 215) (ls' := [some (.ref 141), some (pw_i k17_1), some (pw_i (k159_2 + 1)), some (pw_i (pw_g gh17 126 (k17_2.toNat))), some (pw_i k17_2), some (.long (Int64.ofInt (((10 * k159_5) + (pw_g h17 126 (k159_2.toNat))) - 48))), none]) rfl rfl rfl rfl ?_
                                refine pw_goto E (pc' := 159) rfl (by decide) ?_
                                exact ih159 _ (by omega) (k159_2 + 1) (((10 * k159_5) + (pw_g h17 126 (k159_2.toNat))) - 48)  (by omega) (by omega) (by omega) (by omega) (by omega) (by omega) (by omega) (by omega) (by omega) rfl
                          · skip
                            refine pw_if E (pc' := 218) rfl (by decide) (by omega) (by omega) ?_ ?_
                            · intro hc114
                              change x106 = (0 : Int) at hc114
                              refine pw_ld E (pc' := 219) (st' := [.ref 141]) rfl (fun _ => rfl) ?_
                              refine pw_getR (b := 143) h17I E (c := 125) (k := 4) (pc' := 222) rfl rfl rfl rfl rfl rfl rfl ?_
                              refine pw_ld E (pc' := 223) (st' := [pw_i k17_1, .ref 143]) rfl (fun _ => rfl) ?_
                              refine pw_ld E (pc' := 224) (st' := [pw_i k159_2, pw_i k17_1, .ref 143]) rfl (fun _ => rfl) ?_
                              refine pw_ld E (pc' := 226) (st' := [pw_i k17_2, pw_i k159_2, pw_i k17_1, .ref 143]) rfl (fun _ => rfl) ?_
                              refine pw_sub E (pc' := 227) rfl rfl ?_
                              refine pw_ld E (pc' := 228) (st' := [pw_i 4, pw_i (k159_2 - k17_2), pw_i k17_1, .ref 143]) rfl (fun _ => rfl) ?_
                              refine pw_if2 E (pc' := 235) rfl (by decide) (by omega) (by omega) (by decide) (by decide) ?_ ?_
                              · intro hc115
                                change k159_2 - k17_2 ≤ (4 : Int) at hc115
                                refine pw_ld E (pc' := 236) (st' := [pw_i 2, pw_i k17_1, .ref 143]) rfl (fun _ => rfl) ?_
                                refine pw_ast0 h17I E (c := 127) (pc' := 237) rfl rfl rfl (by decide) rfl (by decide) (by omega) (by omega) rfl (by omega) (by omega) (by omega) (by omega) rfl ?_
                                intro h116I h116E
                                generalize h116w : pw_w h17 127 (k17_1.toNat) (pw_i 2) = h116 at h116I h116E ⊢
                                have h116F := h17F.tr (h116E.wk (W' := [125, 127, 128, 129, 1002]) (by first | rfl | simp))
                                refine pw_goto E (pc' := 265) rfl (by decide) ?_
                                refine pw_ld E (pc' := 266) (st' := [.ref 141]) rfl (fun _ => rfl) ?_
                                refine pw_getR (b := 145) h116I E (c := 125) (k := 6) (pc' := 269) rfl rfl rfl rfl rfl rfl rfl ?_
                                refine pw_ld E (pc' := 270) (st' := [pw_i k17_1, .ref 145]) rfl (fun _ => rfl) ?_
                                refine pw_ld E (pc' := 272) (st' := [.long (Int64.ofInt k159_5), pw_i k17_1, .ref 145]) rfl (fun _ => rfl) ?_
                                refine pw_last h116I E (c := 129) (pc' := 273) rfl rfl rfl (by decide) (by omega) (by omega) rfl ?_
                                intro h117I h117E
                                generalize h117w : pw_w h116 129 (k17_1.toNat) (.long (Int64.ofInt k159_5)) = h117 at h117I h117E ⊢
                                have h117F := h116F.tr (h117E.wk (W' := [125, 127, 128, 129, 1002]) (by first | rfl | simp))
                                refine pw_inc E (pc' := 276) (ls' := [some (.ref 141), some (pw_i (k17_1 + 1)), some (pw_i k159_2), some (pw_i (pw_g gh17 126 (k17_2.toNat))), some (pw_i k17_2), some (.long (Int64.ofInt k159_5)), none]) rfl rfl rfl rfl ?_
                                refine pw_goto E (pc' := 17) rfl (by decide) ?_
                                have he118 : pw_g h117 125 3 = pw_g h116 125 3 := by rw [← h117w]; exact pw_g_ne (by omega)
                                have he119 : pw_g h116 125 3 = pw_g h17 125 3 := by rw [← h116w]; exact pw_g_ne (by omega)
                                have he120 : pw_g h117 125 2 = pw_g h116 125 2 := by rw [← h117w]; exact pw_g_ne (by omega)
                                have he121 : pw_g h116 125 2 = pw_g h17 125 2 := by rw [← h116w]; exact pw_g_ne (by omega)
                                have he122 : pw_g h17 125 2 = pw_g gh17 125 2 := by rw [← h17w]; exact pw_g_ne (by omega)
                                exact ih17 _ (by omega) (k17_1 + 1) (k159_2) (some (pw_i (pw_g gh17 126 (k17_2.toNat)))) (some (pw_i k17_2)) (some (.long (Int64.ofInt k159_5))) h117 h117I h117F (by omega) (by omega) (by omega) (by omega) (by omega) (by omega) (by first | exact hx17_2 | exact pw_NV.st hx17_2 (by omega) (by omega) (by assumption) (by assumption) (by assumption) (by assumption) (by assumption) (by omega) (by omega) (by first | exact Or.inl (by decide) | exact Or.inr (by rw [pw_lToInt (by omega) (by omega)]; omega))) (by omega) rfl
                              · intro hc123
                                change ¬ (k159_2 - k17_2 ≤ (4 : Int)) at hc123
                                refine pw_ld E (pc' := 232) (st' := [pw_i 4, pw_i k17_1, .ref 143]) rfl (fun _ => rfl) ?_
                                refine pw_goto E (pc' := 236) rfl (by decide) ?_
                                refine pw_ast0 h17I E (c := 127) (pc' := 237) rfl rfl rfl (by decide) rfl (by decide) (by omega) (by omega) rfl (by omega) (by omega) (by omega) (by omega) rfl ?_
                                intro h124I h124E
                                generalize h124w : pw_w h17 127 (k17_1.toNat) (pw_i 4) = h124 at h124I h124E ⊢
                                have h124F := h17F.tr (h124E.wk (W' := [125, 127, 128, 129, 1002]) (by first | rfl | simp))
                                refine pw_goto E (pc' := 265) rfl (by decide) ?_
                                refine pw_ld E (pc' := 266) (st' := [.ref 141]) rfl (fun _ => rfl) ?_
                                refine pw_getR (b := 145) h124I E (c := 125) (k := 6) (pc' := 269) rfl rfl rfl rfl rfl rfl rfl ?_
                                refine pw_ld E (pc' := 270) (st' := [pw_i k17_1, .ref 145]) rfl (fun _ => rfl) ?_
                                refine pw_ld E (pc' := 272) (st' := [.long (Int64.ofInt k159_5), pw_i k17_1, .ref 145]) rfl (fun _ => rfl) ?_
                                refine pw_last h124I E (c := 129) (pc' := 273) rfl rfl rfl (by decide) (by omega) (by omega) rfl ?_
                                intro h125I h125E
                                generalize h125w : pw_w h124 129 (k17_1.toNat) (.long (Int64.ofInt k159_5)) = h125 at h125I h125E ⊢
                                have h125F := h124F.tr (h125E.wk (W' := [125, 127, 128, 129, 1002]) (by first | rfl | simp))
                                refine pw_inc E (pc' := 276) (ls' := [some (.ref 141), some (pw_i (k17_1 + 1)), some (pw_i k159_2), some (pw_i (pw_g gh17 126 (k17_2.toNat))), some (pw_i k17_2), some (.long (Int64.ofInt k159_5)), none]) rfl rfl rfl rfl ?_
                                refine pw_goto E (pc' := 17) rfl (by decide) ?_
                                have he126 : pw_g h125 125 3 = pw_g h124 125 3 := by rw [← h125w]; exact pw_g_ne (by omega)
                                have he127 : pw_g h124 125 3 = pw_g h17 125 3 := by rw [← h124w]; exact pw_g_ne (by omega)
                                have he128 : pw_g h125 125 2 = pw_g h124 125 2 := by rw [← h125w]; exact pw_g_ne (by omega)
                                have he129 : pw_g h124 125 2 = pw_g h17 125 2 := by rw [← h124w]; exact pw_g_ne (by omega)
                                have he130 : pw_g h17 125 2 = pw_g gh17 125 2 := by rw [← h17w]; exact pw_g_ne (by omega)
                                exact ih17 _ (by omega) (k17_1 + 1) (k159_2) (some (pw_i (pw_g gh17 126 (k17_2.toNat)))) (some (pw_i k17_2)) (some (.long (Int64.ofInt k159_5))) h125 h125I h125F (by omega) (by omega) (by omega) (by omega) (by omega) (by omega) (by first | exact hx17_2 | exact pw_NV.st hx17_2 (by omega) (by omega) (by assumption) (by assumption) (by assumption) (by assumption) (by assumption) (by omega) (by omega) (by first | exact Or.inl (by decide) | exact Or.inr (by rw [pw_lToInt (by omega) (by omega)]; omega))) (by omega) rfl
                            · intro hc131
                              change ¬ (x106 = (0 : Int)) at hc131
                              exfalso; omega
                    have he132 : pw_g h17 125 3 = pw_g gh17 125 3 := by rw [← h17w]; exact pw_g_ne (by omega)
                    exact L159 _ (k17_2) (0)  (by omega) (by omega) (by omega) (by omega) (by omega) (by omega) (by omega) (by omega) (by omega) rfl
                · skip
                  refine pw_if E (pc' := 240) rfl (by decide) (by omega) (by omega) ?_ ?_
                  · intro hc134
                    change x80 = (0 : Int) at hc134
                    refine pw_ld E (pc' := 241) (st' := [pw_i (pw_g gh17 126 (k17_2.toNat))]) rfl (fun _ => rfl) ?_
                    refine pw_i2l E (pc' := 242) rfl rfl (by omega) (by omega) ?_
                    refine pw_lst E (pc' := 244) (ls' := [some (.ref 141), some (pw_i k17_1), some (pw_i k17_2), some (pw_i (pw_g gh17 126 (k17_2.toNat))), some (pw_i k17_2), some (.long (Int64.ofInt (pw_g gh17 126 (k17_2.toNat)))), none]) rfl rfl rfl rfl ?_
                    refine pw_ld E (pc' := 245) (st' := [.ref 141]) rfl (fun _ => rfl) ?_
                    refine pw_getR (b := 143) h17I E (c := 125) (k := 4) (pc' := 248) rfl rfl rfl rfl rfl rfl rfl ?_
                    refine pw_ld E (pc' := 249) (st' := [pw_i k17_1, .ref 143]) rfl (fun _ => rfl) ?_
                    refine pw_ld E (pc' := 250) (st' := [pw_i (pw_g gh17 126 (k17_2.toNat)), pw_i k17_1, .ref 143]) rfl (fun _ => rfl) ?_
                    refine pw_call (m' := 242) (As := [pw_i (pw_g gh17 126 (k17_2.toNat))]) (rest := [pw_i k17_1, .ref 143]) (ls'' := [some (pw_i (pw_g gh17 126 (k17_2.toNat)))]) (Nat.le_trans (by decide) hd) E rfl (fun _ => pw_iS rfl rfl rfl) (rfl : pm_ent 242 = some (1, 1, 12, 1, pmc_242)) rfl rfl (cm_242 (pw_dp hd (by decide)) h17I (pw_g gh17 126 (k17_2.toNat)) (by omega) (by omega)) ?_
                    rintro u136 v135 ⟨rfl, x137, rfl, hx137a, hx137b⟩
                    refine ⟨_, rfl, ?_⟩
                    show pw X d h17 238 253 [some (.ref 141), some (pw_i k17_1), some (pw_i k17_2), some (pw_i (pw_g gh17 126 (k17_2.toNat))), some (pw_i k17_2), some (.long (Int64.ofInt (pw_g gh17 126 (k17_2.toNat)))), none] [pw_i x137, pw_i k17_1, .ref 143] _
                    refine pw_if E (pc' := 260) rfl (by decide) (by omega) (by omega) ?_ ?_
                    · intro hc138
                      change x137 = (0 : Int) at hc138
                      refine pw_ld E (pc' := 261) (st' := [pw_i 4, pw_i k17_1, .ref 143]) rfl (fun _ => rfl) ?_
                      refine pw_ast0 h17I E (c := 127) (pc' := 262) rfl rfl rfl (by decide) rfl (by decide) (by omega) (by omega) rfl (by omega) (by omega) (by omega) (by omega) rfl ?_
                      intro h139I h139E
                      generalize h139w : pw_w h17 127 (k17_1.toNat) (pw_i 4) = h139 at h139I h139E ⊢
                      have h139F := h17F.tr (h139E.wk (W' := [125, 127, 128, 129, 1002]) (by first | rfl | simp))
                      refine pw_inc E (pc' := 265) (ls' := [some (.ref 141), some (pw_i k17_1), some (pw_i (k17_2 + 1)), some (pw_i (pw_g gh17 126 (k17_2.toNat))), some (pw_i k17_2), some (.long (Int64.ofInt (pw_g gh17 126 (k17_2.toNat)))), none]) rfl rfl rfl rfl ?_
                      refine pw_ld E (pc' := 266) (st' := [.ref 141]) rfl (fun _ => rfl) ?_
                      refine pw_getR (b := 145) h139I E (c := 125) (k := 6) (pc' := 269) rfl rfl rfl rfl rfl rfl rfl ?_
                      refine pw_ld E (pc' := 270) (st' := [pw_i k17_1, .ref 145]) rfl (fun _ => rfl) ?_
                      refine pw_ld E (pc' := 272) (st' := [.long (Int64.ofInt (pw_g gh17 126 (k17_2.toNat))), pw_i k17_1, .ref 145]) rfl (fun _ => rfl) ?_
                      refine pw_last h139I E (c := 129) (pc' := 273) rfl rfl rfl (by decide) (by omega) (by omega) rfl ?_
                      intro h140I h140E
                      generalize h140w : pw_w h139 129 (k17_1.toNat) (.long (Int64.ofInt (pw_g gh17 126 (k17_2.toNat)))) = h140 at h140I h140E ⊢
                      have h140F := h139F.tr (h140E.wk (W' := [125, 127, 128, 129, 1002]) (by first | rfl | simp))
                      refine pw_inc E (pc' := 276) (ls' := [some (.ref 141), some (pw_i (k17_1 + 1)), some (pw_i (k17_2 + 1)), some (pw_i (pw_g gh17 126 (k17_2.toNat))), some (pw_i k17_2), some (.long (Int64.ofInt (pw_g gh17 126 (k17_2.toNat)))), none]) rfl rfl rfl rfl ?_
                      refine pw_goto E (pc' := 17) rfl (by decide) ?_
                      have he141 : pw_g h140 125 3 = pw_g h139 125 3 := by rw [← h140w]; exact pw_g_ne (by omega)
                      have he142 : pw_g h139 125 3 = pw_g h17 125 3 := by rw [← h139w]; exact pw_g_ne (by omega)
                      have he143 : pw_g h17 125 3 = pw_g gh17 125 3 := by rw [← h17w]; exact pw_g_ne (by omega)
                      have he144 : pw_g h140 125 2 = pw_g h139 125 2 := by rw [← h140w]; exact pw_g_ne (by omega)
                      have he145 : pw_g h139 125 2 = pw_g h17 125 2 := by rw [← h139w]; exact pw_g_ne (by omega)
                      have he146 : pw_g h17 125 2 = pw_g gh17 125 2 := by rw [← h17w]; exact pw_g_ne (by omega)
                      exact ih17 _ (by omega) (k17_1 + 1) (k17_2 + 1) (some (pw_i (pw_g gh17 126 (k17_2.toNat)))) (some (pw_i k17_2)) (some (.long (Int64.ofInt (pw_g gh17 126 (k17_2.toNat))))) h140 h140I h140F (by omega) (by omega) (by omega) (by omega) (by omega) (by omega) (by first | exact hx17_2 | exact pw_NV.st hx17_2 (by omega) (by omega) (by assumption) (by assumption) (by assumption) (by assumption) (by assumption) (by omega) (by omega) (by first | exact Or.inl (by decide) | exact Or.inr (by rw [pw_lToInt (by omega) (by omega)]; omega))) (by omega) rfl
                    · intro hc147
                      change ¬ (x137 = (0 : Int)) at hc147
                      refine pw_ld E (pc' := 257) (st' := [pw_i 3, pw_i k17_1, .ref 143]) rfl (fun _ => rfl) ?_
                      refine pw_goto E (pc' := 261) rfl (by decide) ?_
                      refine pw_ast0 h17I E (c := 127) (pc' := 262) rfl rfl rfl (by decide) rfl (by decide) (by omega) (by omega) rfl (by omega) (by omega) (by omega) (by omega) rfl ?_
                      intro h148I h148E
                      generalize h148w : pw_w h17 127 (k17_1.toNat) (pw_i 3) = h148 at h148I h148E ⊢
                      have h148F := h17F.tr (h148E.wk (W' := [125, 127, 128, 129, 1002]) (by first | rfl | simp))
                      refine pw_inc E (pc' := 265) (ls' := [some (.ref 141), some (pw_i k17_1), some (pw_i (k17_2 + 1)), some (pw_i (pw_g gh17 126 (k17_2.toNat))), some (pw_i k17_2), some (.long (Int64.ofInt (pw_g gh17 126 (k17_2.toNat)))), none]) rfl rfl rfl rfl ?_
                      refine pw_ld E (pc' := 266) (st' := [.ref 141]) rfl (fun _ => rfl) ?_
                      refine pw_getR (b := 145) h148I E (c := 125) (k := 6) (pc' := 269) rfl rfl rfl rfl rfl rfl rfl ?_
                      refine pw_ld E (pc' := 270) (st' := [pw_i k17_1, .ref 145]) rfl (fun _ => rfl) ?_
                      refine pw_ld E (pc' := 272) (st' := [.long (Int64.ofInt (pw_g gh17 126 (k17_2.toNat))), pw_i k17_1, .ref 145]) rfl (fun _ => rfl) ?_
                      refine pw_last h148I E (c := 129) (pc' := 273) rfl rfl rfl (by decide) (by omega) (by omega) rfl ?_
                      intro h149I h149E
                      generalize h149w : pw_w h148 129 (k17_1.toNat) (.long (Int64.ofInt (pw_g gh17 126 (k17_2.toNat)))) = h149 at h149I h149E ⊢
                      have h149F := h148F.tr (h149E.wk (W' := [125, 127, 128, 129, 1002]) (by first | rfl | simp))
                      refine pw_inc E (pc' := 276) (ls' := [some (.ref 141), some (pw_i (k17_1 + 1)), some (pw_i (k17_2 + 1)), some (pw_i (pw_g gh17 126 (k17_2.toNat))), some (pw_i k17_2), some (.long (Int64.ofInt (pw_g gh17 126 (k17_2.toNat)))), none]) rfl rfl rfl rfl ?_
                      refine pw_goto E (pc' := 17) rfl (by decide) ?_
                      have he150 : pw_g h149 125 3 = pw_g h148 125 3 := by rw [← h149w]; exact pw_g_ne (by omega)
                      have he151 : pw_g h148 125 3 = pw_g h17 125 3 := by rw [← h148w]; exact pw_g_ne (by omega)
                      have he152 : pw_g h17 125 3 = pw_g gh17 125 3 := by rw [← h17w]; exact pw_g_ne (by omega)
                      have he153 : pw_g h149 125 2 = pw_g h148 125 2 := by rw [← h149w]; exact pw_g_ne (by omega)
                      have he154 : pw_g h148 125 2 = pw_g h17 125 2 := by rw [← h148w]; exact pw_g_ne (by omega)
                      have he155 : pw_g h17 125 2 = pw_g gh17 125 2 := by rw [← h17w]; exact pw_g_ne (by omega)
                      exact ih17 _ (by omega) (k17_1 + 1) (k17_2 + 1) (some (pw_i (pw_g gh17 126 (k17_2.toNat)))) (some (pw_i k17_2)) (some (.long (Int64.ofInt (pw_g gh17 126 (k17_2.toNat))))) h149 h149I h149F (by omega) (by omega) (by omega) (by omega) (by omega) (by omega) (by first | exact hx17_2 | exact pw_NV.st hx17_2 (by omega) (by omega) (by assumption) (by assumption) (by assumption) (by assumption) (by assumption) (by omega) (by omega) (by first | exact Or.inl (by decide) | exact Or.inr (by rw [pw_lToInt (by omega) (by omega)]; omega))) (by omega) rfl
                  · intro hc156
                    change ¬ (x80 = (0 : Int)) at hc156
                    exfalso; omega
              · intro hc157
                change ¬ (x20 = (0 : Int)) at hc157
                exfalso; omega
          · intro hc158
            change ¬ (pw_g gh17 126 (k17_2.toNat) ≠ (32 : Int)) at hc158
            refine pw_inc E (pc' := 47) (ls' := [some (.ref 141), some (pw_i k17_1), some (pw_i (k17_2 + 1)), some (pw_i (pw_g gh17 126 (k17_2.toNat))), k17_4, k17_5, none]) rfl rfl rfl rfl ?_
            refine pw_goto E (pc' := 17) rfl (by decide) ?_
            exact ih17 _ (by omega) (k17_1) (k17_2 + 1) (some (pw_i (pw_g gh17 126 (k17_2.toNat)))) k17_4 k17_5 gh17 I17 E17 (by omega) (by omega) (by omega) (by omega) (by omega) (by omega) (by first | exact hx17_2 | exact pw_NV.st hx17_2 (by omega) (by omega) (by assumption) (by assumption) (by assumption) (by assumption) (by assumption) (by omega) (by omega) (by first | exact Or.inl (by decide) | exact Or.inr (by rw [pw_lToInt (by omega) (by omega)]; omega))) (by omega) rfl
  have he159 : pw_g h3 125 3 = pw_g h2 125 3 := by rw [← h3w]; exact pw_g_ne (by omega)
  have he160 : pw_g h2 125 3 = pw_g h 125 2 := by rw [← h2w]; exact pw_g_eq (c := 125) (k := 3) I rfl rfl (by omega) (by omega)
  have he161 : pw_g h3 125 2 = 0 := by rw [← h3w]; exact pw_g_eq (c := 125) (k := 2) h2I rfl rfl (by omega) (by omega)
  exact L17 _ (0) (0) (none) (none) (none) h3 h3I h3F (by omega) (by omega) (by omega) (by omega) (by omega) (by omega) (fun j hj => absurd hj (by omega)) (by omega) rfl
set_option maxHeartbeats 4000000 in
theorem cm_277_f {X : List (Nat × List Value)} {d : Nat} {h : pm_H} (hd : 34 ≤ d) (I : pw_I h) (ix : Int) (hix1 : (-2147483648) ≤ ix) (hix2 : ix ≤ 2147483647) (hp0 : pw_K h) : pw X d h 277 0 [some (.ref 141), some (pw_i ix), none] [] (fun h' v => pw_I h' ∧ pw_E [125, 127, 128, 129, 146, 147, 157, 158, 159, 160, 161, 1002] h h' ∧ (pw_K h' ∧ pw_g h' 125 2 = 0) ∧ (∃ a : Int, v = .inl (some (pw_i a)) ∧ (-2147483648) ≤ a ∧ a ≤ 2147483647)) := by
  have E : pm_ent 277 = some (2, 3, 12, 0, pmc_277) := rfl
  have E0 : pw_E [125, 127, 128, 129, 146, 147, 157, 158, 159, 160, 161, 1002] h h := pw_E.rf _ _
  refine pw_ld E (pc' := 1) (st' := [.ref 141]) rfl (fun _ => rfl) ?_
  refine pw_ld E (pc' := 2) (st' := [pw_i 0, .ref 141]) rfl (fun _ => rfl) ?_
  refine pw_putI I E (c := 125) (k := 0) (pc' := 5) rfl rfl rfl rfl (by omega) (by omega) (by omega) (by omega) rfl rfl ?_
  intro h1I h1E
  generalize h1w : pw_w h 125 0 (pw_i 0) = h1 at h1I h1E ⊢
  have h1F := E0.tr (h1E.wk (W' := [125, 127, 128, 129, 146, 147, 157, 158, 159, 160, 161, 1002]) (by first | rfl | simp))
  refine pw_ld E (pc' := 6) (st' := [pw_i ix]) rfl (fun _ => rfl) ?_
  refine pw_call (m' := 278) (As := [pw_i ix]) (rest := []) (ls'' := [some (pw_i ix)]) (Nat.le_trans (by decide) hd) E rfl (fun _ => pw_iS rfl rfl rfl) (rfl : pm_ent 278 = some (1, 1, 12, 1, pmc_278)) rfl rfl (cm_278 (pw_dp hd (by decide)) h1I (ix) (by omega) (by omega)) ?_
  rintro u3 v2 ⟨rfl, x4, rfl, hx4a, hx4b, hx4r⟩
  refine ⟨_, rfl, ?_⟩
  show pw X d h1 277 9 [some (.ref 141), some (pw_i ix), none] [pw_i x4] _
  change (x4 = 1 ∧ 0 ≤ ix ∧ ix ≤ 3) ∨ (x4 = 0 ∧ ¬ (0 ≤ ix ∧ ix ≤ 3)) at hx4r
  rcases (by omega : x4 = 1 ∨ x4 = 0) with hb5 | hb5
  · skip
    refine pw_if E (pc' := 19) rfl (by decide) (by omega) (by omega) ?_ ?_
    · intro hc6
      change x4 ≠ (0 : Int) at hc6
      refine pw_ld E (pc' := 20) (st' := [.ref 141]) rfl (fun _ => rfl) ?_
      obtain ⟨f7l, f7h, -⟩ := pw_obj (c := 125) h1I rfl
      refine pw_call (m' := 238) (As := [.ref 141]) (rest := []) (ls'' := [some (.ref 141), none, none, none, none, none, none]) (Nat.le_trans (by decide) hd) E rfl (fun _ => pw_iV rfl rfl rfl rfl (pw_cellI f7h rfl)) (rfl : pm_ent 238 = some (1, 7, 12, 4, pmc_238)) rfl rfl (cm_238_f (pw_dp hd (by decide)) h1I ) ?_
      rintro h8 v9 ⟨h8I, h8E, hqcut, rfl⟩
      refine ⟨_, rfl, ?_⟩
      have h8F := h1F.tr (h8E.wk (W' := [125, 127, 128, 129, 146, 147, 157, 158, 159, 160, 161, 1002]) (by first | rfl | simp))
      show pw X d h8 277 23 [some (.ref 141), some (pw_i ix), none] [] _
      obtain ⟨⟨n, hA0, hz7, hz8, hV0⟩, hz2⟩ := hqcut
      refine pw_ld E (pc' := 24) (st' := [.ref 141]) rfl (fun _ => rfl) ?_
      refine pw_ld E (pc' := 25) (st' := [pw_i 0, .ref 141]) rfl (fun _ => rfl) ?_
      refine pw_putI h8I E (c := 125) (k := 32) (pc' := 28) rfl rfl rfl rfl (by omega) (by omega) (by omega) (by omega) rfl rfl ?_
      intro h10I h10E
      generalize h10w : pw_w h8 125 32 (pw_i 0) = h10 at h10I h10E ⊢
      have h10F := h8F.tr (h10E.wk (W' := [125, 127, 128, 129, 146, 147, 157, 158, 159, 160, 161, 1002]) (by first | rfl | simp))
      refine pw_ld E (pc' := 29) (st' := [.ref 141]) rfl (fun _ => rfl) ?_
      refine pw_ld E (pc' := 30) (st' := [pw_i 1, .ref 141]) rfl (fun _ => rfl) ?_
      refine pw_putZ h10I E (c := 125) (k := 45) (pc' := 33) rfl rfl rfl rfl (by omega) (by omega) (by omega) rfl rfl ?_
      intro h11I h11E
      generalize h11w : pw_w h10 125 45 (pw_i 1) = h11 at h11I h11E ⊢
      have h11F := h10F.tr (h11E.wk (W' := [125, 127, 128, 129, 146, 147, 157, 158, 159, 160, 161, 1002]) (by first | rfl | simp))
      refine pw_ld E (pc' := 34) (st' := [pw_i 0]) rfl (fun _ => rfl) ?_
      refine pw_istn E (pc' := 35) (ls' := [some (.ref 141), some (pw_i ix), some (pw_i 0)]) rfl rfl rfl rfl ?_
      refine pw_ld E (pc' := 36) (st' := [pw_i 0]) rfl (fun _ => rfl) ?_
      refine pw_ld E (pc' := 37) (st' := [pw_i 4, pw_i 0]) rfl (fun _ => rfl) ?_
      refine pw_if2 E (pc' := 53) rfl (by decide) (by decide) (by decide) (by decide) (by decide) ?_ ?_
      · intro hc12
        change (4 : Int) ≤ (0 : Int) at hc12
        exfalso; omega
      · intro hc13
        change ¬ ((4 : Int) ≤ (0 : Int)) at hc13
        refine pw_ld E (pc' := 41) (st' := [.ref 141]) rfl (fun _ => rfl) ?_
        refine pw_getR (b := 177) h11I E (c := 125) (k := 50) (pc' := 44) rfl rfl rfl rfl rfl rfl rfl ?_
        refine pw_ld E (pc' := 45) (st' := [pw_i 0, .ref 177]) rfl (fun _ => rfl) ?_
        refine pw_ld E (pc' := 46) (st' := [pw_i ((-1)), pw_i 0, .ref 177]) rfl (fun _ => rfl) ?_
        refine pw_ast0 h11I E (c := 161) (pc' := 47) rfl rfl rfl (by decide) rfl (by decide) (by omega) (by omega) rfl (by omega) (by omega) (by omega) (by omega) rfl ?_
        intro h14I h14E
        generalize h14w : pw_w h11 161 (Int.toNat 0) (pw_i ((-1))) = h14 at h14I h14E ⊢
        have h14F := h11F.tr (h14E.wk (W' := [125, 127, 128, 129, 146, 147, 157, 158, 159, 160, 161, 1002]) (by first | rfl | simp))
        refine pw_inc E (pc' := 50) (ls' := [some (.ref 141), some (pw_i ix), some (pw_i (0 + 1))]) rfl rfl rfl rfl ?_
        refine pw_goto E (pc' := 35) rfl (by decide) ?_
        refine pw_ld E (pc' := 36) (st' := [pw_i (0 + 1)]) rfl (fun _ => rfl) ?_
        refine pw_ld E (pc' := 37) (st' := [pw_i 4, pw_i (0 + 1)]) rfl (fun _ => rfl) ?_
        refine pw_if2 E (pc' := 53) rfl (by decide) (by decide) (by decide) (by decide) (by decide) ?_ ?_
        · intro hc15
          change (4 : Int) ≤ 0 + 1 at hc15
          exfalso; omega
        · intro hc16
          change ¬ ((4 : Int) ≤ 0 + 1) at hc16
          refine pw_ld E (pc' := 41) (st' := [.ref 141]) rfl (fun _ => rfl) ?_
          refine pw_getR (b := 177) h14I E (c := 125) (k := 50) (pc' := 44) rfl rfl rfl rfl rfl rfl rfl ?_
          refine pw_ld E (pc' := 45) (st' := [pw_i (0 + 1), .ref 177]) rfl (fun _ => rfl) ?_
          refine pw_ld E (pc' := 46) (st' := [pw_i ((-1)), pw_i (0 + 1), .ref 177]) rfl (fun _ => rfl) ?_
          refine pw_ast0 h14I E (c := 161) (pc' := 47) rfl rfl rfl (by decide) rfl (by decide) (by omega) (by omega) rfl (by omega) (by omega) (by omega) (by omega) rfl ?_
          intro h17I h17E
          generalize h17w : pw_w h14 161 (((0 + 1) : Int).toNat) (pw_i ((-1))) = h17 at h17I h17E ⊢
          have h17F := h14F.tr (h17E.wk (W' := [125, 127, 128, 129, 146, 147, 157, 158, 159, 160, 161, 1002]) (by first | rfl | simp))
          refine pw_inc E (pc' := 50) (ls' := [some (.ref 141), some (pw_i ix), some (pw_i ((0 + 1) + 1))]) rfl rfl rfl rfl ?_
          refine pw_goto E (pc' := 35) rfl (by decide) ?_
          refine pw_ld E (pc' := 36) (st' := [pw_i ((0 + 1) + 1)]) rfl (fun _ => rfl) ?_
          refine pw_ld E (pc' := 37) (st' := [pw_i 4, pw_i ((0 + 1) + 1)]) rfl (fun _ => rfl) ?_
          refine pw_if2 E (pc' := 53) rfl (by decide) (by decide) (by decide) (by decide) (by decide) ?_ ?_
          · intro hc18
            change (4 : Int) ≤ (0 + 1) + 1 at hc18
            exfalso; omega
          · intro hc19
            change ¬ ((4 : Int) ≤ (0 + 1) + 1) at hc19
            refine pw_ld E (pc' := 41) (st' := [.ref 141]) rfl (fun _ => rfl) ?_
            refine pw_getR (b := 177) h17I E (c := 125) (k := 50) (pc' := 44) rfl rfl rfl rfl rfl rfl rfl ?_
            refine pw_ld E (pc' := 45) (st' := [pw_i ((0 + 1) + 1), .ref 177]) rfl (fun _ => rfl) ?_
            refine pw_ld E (pc' := 46) (st' := [pw_i ((-1)), pw_i ((0 + 1) + 1), .ref 177]) rfl (fun _ => rfl) ?_
            refine pw_ast0 h17I E (c := 161) (pc' := 47) rfl rfl rfl (by decide) rfl (by decide) (by omega) (by omega) rfl (by omega) (by omega) (by omega) (by omega) rfl ?_
            intro h20I h20E
            generalize h20w : pw_w h17 161 ((((0 + 1) + 1) : Int).toNat) (pw_i ((-1))) = h20 at h20I h20E ⊢
            have h20F := h17F.tr (h20E.wk (W' := [125, 127, 128, 129, 146, 147, 157, 158, 159, 160, 161, 1002]) (by first | rfl | simp))
            refine pw_inc E (pc' := 50) (ls' := [some (.ref 141), some (pw_i ix), some (pw_i (((0 + 1) + 1) + 1))]) rfl rfl rfl rfl ?_
            refine pw_goto E (pc' := 35) rfl (by decide) ?_
            refine pw_ld E (pc' := 36) (st' := [pw_i (((0 + 1) + 1) + 1)]) rfl (fun _ => rfl) ?_
            refine pw_ld E (pc' := 37) (st' := [pw_i 4, pw_i (((0 + 1) + 1) + 1)]) rfl (fun _ => rfl) ?_
            refine pw_if2 E (pc' := 53) rfl (by decide) (by decide) (by decide) (by decide) (by decide) ?_ ?_
            · intro hc21
              change (4 : Int) ≤ ((0 + 1) + 1) + 1 at hc21
              exfalso; omega
            · intro hc22
              change ¬ ((4 : Int) ≤ ((0 + 1) + 1) + 1) at hc22
              refine pw_ld E (pc' := 41) (st' := [.ref 141]) rfl (fun _ => rfl) ?_
              refine pw_getR (b := 177) h20I E (c := 125) (k := 50) (pc' := 44) rfl rfl rfl rfl rfl rfl rfl ?_
              refine pw_ld E (pc' := 45) (st' := [pw_i (((0 + 1) + 1) + 1), .ref 177]) rfl (fun _ => rfl) ?_
              refine pw_ld E (pc' := 46) (st' := [pw_i ((-1)), pw_i (((0 + 1) + 1) + 1), .ref 177]) rfl (fun _ => rfl) ?_
              refine pw_ast0 h20I E (c := 161) (pc' := 47) rfl rfl rfl (by decide) rfl (by decide) (by omega) (by omega) rfl (by omega) (by omega) (by omega) (by omega) rfl ?_
              intro h23I h23E
              generalize h23w : pw_w h20 161 (((((0 + 1) + 1) + 1) : Int).toNat) (pw_i ((-1))) = h23 at h23I h23E ⊢
              have h23F := h20F.tr (h23E.wk (W' := [125, 127, 128, 129, 146, 147, 157, 158, 159, 160, 161, 1002]) (by first | rfl | simp))
              refine pw_inc E (pc' := 50) (ls' := [some (.ref 141), some (pw_i ix), some (pw_i ((((0 + 1) + 1) + 1) + 1))]) rfl rfl rfl rfl ?_
              refine pw_goto E (pc' := 35) rfl (by decide) ?_
              refine pw_ld E (pc' := 36) (st' := [pw_i ((((0 + 1) + 1) + 1) + 1)]) rfl (fun _ => rfl) ?_
              refine pw_ld E (pc' := 37) (st' := [pw_i 4, pw_i ((((0 + 1) + 1) + 1) + 1)]) rfl (fun _ => rfl) ?_
              refine pw_if2 E (pc' := 53) rfl (by decide) (by decide) (by decide) (by decide) (by decide) ?_ ?_
              · intro hc24
                change (4 : Int) ≤ (((0 + 1) + 1) + 1) + 1 at hc24
                have b7 : pw_g h23 125 7 = pw_g h8 125 7 := by rw [← h23w, pw_g_ne (by omega), ← h20w, pw_g_ne (by omega), ← h17w, pw_g_ne (by omega), ← h14w, pw_g_ne (by omega), ← h11w, pw_g_ne (by omega), ← h10w, pw_g_ne (by omega)]
                have b8 : pw_g h23 125 8 = pw_g h8 125 8 := by rw [← h23w, pw_g_ne (by omega), ← h20w, pw_g_ne (by omega), ← h17w, pw_g_ne (by omega), ← h14w, pw_g_ne (by omega), ← h11w, pw_g_ne (by omega), ← h10w, pw_g_ne (by omega)]
                have b9 : pw_g h23 125 32 = pw_g h10 125 32 := by rw [← h23w, pw_g_ne (by omega), ← h20w, pw_g_ne (by omega), ← h17w, pw_g_ne (by omega), ← h14w, pw_g_ne (by omega), ← h11w, pw_g_ne (by omega)]
                have bc : pw_g h10 125 32 = 0 := by rw [← h10w]; exact pw_g_eq (c := 125) (k := 32) h8I rfl rfl (by omega) (by omega)
                have hl25 : ∀ j : Nat, pw_g h23 127 j = pw_g h8 127 j := fun j => ((((((by rw [← h23w]; exact pw_g_ne (by omega) : pw_g h23 127 j = pw_g h20 127 j)).trans (by rw [← h20w]; exact pw_g_ne (by omega) : pw_g h20 127 j = pw_g h17 127 j)).trans (by rw [← h17w]; exact pw_g_ne (by omega) : pw_g h17 127 j = pw_g h14 127 j)).trans (by rw [← h14w]; exact pw_g_ne (by omega) : pw_g h14 127 j = pw_g h11 127 j)).trans (by rw [← h11w]; exact pw_g_ne (by omega) : pw_g h11 127 j = pw_g h10 127 j)).trans (by rw [← h10w]; exact pw_g_ne (by omega) : pw_g h10 127 j = pw_g h8 127 j)
                have bA : pw_A n h23 := ⟨hA0.1, by rw [hl25]; exact hA0.2.1, by omega, by omega, by omega, by omega⟩
                have bV : pw_NV n h23 := fun j hj hq => by rw [← h23w, pw_gm_ne (by omega), ← h20w, pw_gm_ne (by omega), ← h17w, pw_gm_ne (by omega), ← h14w, pw_gm_ne (by omega), ← h11w, pw_gm_ne (by omega), ← h10w, pw_gm_ne (by omega)]; exact hV0 j hj (by rw [← hl25]; exact hq)
                have bl0 : pw_g h23 161 0 = -1 := by rw [← h23w, pw_g_ne (by decide), ← h20w, pw_g_ne (by decide), ← h17w, pw_g_ne (by decide), ← h14w]; exact pw_g_eqA h11I rfl (by decide) (by decide) (by decide)
                have bl1 : pw_g h23 161 1 = -1 := by rw [← h23w, pw_g_ne (by decide), ← h20w, pw_g_ne (by decide), ← h17w]; exact pw_g_eqA h14I rfl (by decide) (by decide) (by decide)
                have bl2 : pw_g h23 161 2 = -1 := by rw [← h23w, pw_g_ne (by decide), ← h20w]; exact pw_g_eqA h17I rfl (by decide) (by decide) (by decide)
                have bl3 : pw_g h23 161 3 = -1 := by rw [← h23w]; exact pw_g_eqA h20I rfl (by decide) (by decide) (by decide)
                have bL : pw_Lw h23 := ⟨Or.inl (by omega), by omega, by omega, by omega⟩
                have hl26 : ∀ j : Nat, pw_g h23 145 j = pw_g h 145 j := fun j => ((((((((by rw [← h23w]; exact pw_g_ne (by omega) : pw_g h23 145 j = pw_g h20 145 j)).trans (by rw [← h20w]; exact pw_g_ne (by omega) : pw_g h20 145 j = pw_g h17 145 j)).trans (by rw [← h17w]; exact pw_g_ne (by omega) : pw_g h17 145 j = pw_g h14 145 j)).trans (by rw [← h14w]; exact pw_g_ne (by omega) : pw_g h14 145 j = pw_g h11 145 j)).trans (by rw [← h11w]; exact pw_g_ne (by omega) : pw_g h11 145 j = pw_g h10 145 j)).trans (by rw [← h10w]; exact pw_g_ne (by omega) : pw_g h10 145 j = pw_g h8 145 j)).trans (pw_Eg (c := 145) h1I h8E rfl rfl j : pw_g h8 145 j = pw_g h1 145 j)).trans (by rw [← h1w]; exact pw_g_ne (by omega) : pw_g h1 145 j = pw_g h 145 j)
                have hl27 : ∀ j : Nat, pw_g h23 146 j = pw_g h 146 j := fun j => ((((((((by rw [← h23w]; exact pw_g_ne (by omega) : pw_g h23 146 j = pw_g h20 146 j)).trans (by rw [← h20w]; exact pw_g_ne (by omega) : pw_g h20 146 j = pw_g h17 146 j)).trans (by rw [← h17w]; exact pw_g_ne (by omega) : pw_g h17 146 j = pw_g h14 146 j)).trans (by rw [← h14w]; exact pw_g_ne (by omega) : pw_g h14 146 j = pw_g h11 146 j)).trans (by rw [← h11w]; exact pw_g_ne (by omega) : pw_g h11 146 j = pw_g h10 146 j)).trans (by rw [← h10w]; exact pw_g_ne (by omega) : pw_g h10 146 j = pw_g h8 146 j)).trans (pw_Eg (c := 146) h1I h8E rfl rfl j : pw_g h8 146 j = pw_g h1 146 j)).trans (by rw [← h1w]; exact pw_g_ne (by omega) : pw_g h1 146 j = pw_g h 146 j)
                have hl28 : ∀ j : Nat, pw_g h23 147 j = pw_g h 147 j := fun j => ((((((((by rw [← h23w]; exact pw_g_ne (by omega) : pw_g h23 147 j = pw_g h20 147 j)).trans (by rw [← h20w]; exact pw_g_ne (by omega) : pw_g h20 147 j = pw_g h17 147 j)).trans (by rw [← h17w]; exact pw_g_ne (by omega) : pw_g h17 147 j = pw_g h14 147 j)).trans (by rw [← h14w]; exact pw_g_ne (by omega) : pw_g h14 147 j = pw_g h11 147 j)).trans (by rw [← h11w]; exact pw_g_ne (by omega) : pw_g h11 147 j = pw_g h10 147 j)).trans (by rw [← h10w]; exact pw_g_ne (by omega) : pw_g h10 147 j = pw_g h8 147 j)).trans (pw_Eg (c := 147) h1I h8E rfl rfl j : pw_g h8 147 j = pw_g h1 147 j)).trans (by rw [← h1w]; exact pw_g_ne (by omega) : pw_g h1 147 j = pw_g h 147 j)
                have hl29 : ∀ j : Nat, pw_g h23 157 j = pw_g h 157 j := fun j => ((((((((by rw [← h23w]; exact pw_g_ne (by omega) : pw_g h23 157 j = pw_g h20 157 j)).trans (by rw [← h20w]; exact pw_g_ne (by omega) : pw_g h20 157 j = pw_g h17 157 j)).trans (by rw [← h17w]; exact pw_g_ne (by omega) : pw_g h17 157 j = pw_g h14 157 j)).trans (by rw [← h14w]; exact pw_g_ne (by omega) : pw_g h14 157 j = pw_g h11 157 j)).trans (by rw [← h11w]; exact pw_g_ne (by omega) : pw_g h11 157 j = pw_g h10 157 j)).trans (by rw [← h10w]; exact pw_g_ne (by omega) : pw_g h10 157 j = pw_g h8 157 j)).trans (pw_Eg (c := 157) h1I h8E rfl rfl j : pw_g h8 157 j = pw_g h1 157 j)).trans (by rw [← h1w]; exact pw_g_ne (by omega) : pw_g h1 157 j = pw_g h 157 j)
                have bO : pw_O h h23 := ⟨fun j _ => hl26 j, fun j _ => ⟨hl27 j, hl28 j⟩, hl29⟩
                have L53 : ∀ (n53 : Nat)  (gh53 : pm_H), pw_I gh53 → pw_E [125, 127, 128, 129, 146, 147, 157, 158, 159, 160, 161, 1002] h gh53 → pw_A n gh53 → pw_g gh53 125 32 ≤ pw_g gh53 125 7 → (pw_g gh53 125 8 = 0 → pw_Lw gh53) → pw_O h gh53 → pw_NV n gh53 → pw_g gh53 125 2 = 0 → ((n : Int) - pw_g gh53 125 7 + 1 - min (pw_g gh53 125 8) 1).toNat = n53 → pw X d gh53 277 53 [some (.ref 141), some (pw_i ix), some (pw_i ((((0 + 1) + 1) + 1) + 1))] [] (fun h' v => pw_I h' ∧ pw_E [125, 127, 128, 129, 146, 147, 157, 158, 159, 160, 161, 1002] h h' ∧ (pw_K h' ∧ pw_g h' 125 2 = 0) ∧ (∃ a : Int, v = .inl (some (pw_i a)) ∧ (-2147483648) ≤ a ∧ a ≤ 2147483647)) := by
                  intro n53
                  induction n53 using Nat.strongRecOn with
                  | ind n53 ih53 =>
                    intro  gh53 I53 E53 hx53_0 hx53_1 hx53_2 hx53_3 hx53_4 hx53_5 hm53
                    refine pw_ld E (pc' := 54) (st' := [.ref 141]) rfl (fun _ => rfl) ?_
                    refine pw_getI2 I53 E (c := 125) (k := 8) (pc' := 57) rfl rfl rfl rfl rfl rfl (fun hf30a hf30b => ?_)
                    refine pw_if E (pc' := 79) rfl (by decide) (by omega) (by omega) ?_ ?_
                    · intro hc31
                      change pw_g gh53 125 8 ≠ (0 : Int) at hc31
                      have hA53 : pw_g gh53 125 7 ≤ n ∧ 0 ≤ pw_g gh53 125 8 ∧ 0 ≤ pw_g gh53 125 7 ∧ 0 ≤ pw_g gh53 125 32 := hx53_0.2.2
                      have hn1 : n ≤ 1000 := hx53_0.1
                      refine pw_ld E (pc' := 80) (st' := [.ref 141]) rfl (fun _ => rfl) ?_
                      refine pw_getI2 I53 E (c := 125) (k := 8) (pc' := 83) rfl rfl rfl rfl rfl rfl (fun hf32a hf32b => ?_)
                      refine pw_if E (pc' := 91) rfl (by decide) (by omega) (by omega) ?_ ?_
                      · intro hc33
                        change pw_g gh53 125 8 ≤ (0 : Int) at hc33
                        refine pw_ld E (pc' := 92) (st' := [.ref 141]) rfl (fun _ => rfl) ?_
                        refine pw_ld E (pc' := 93) (st' := [pw_i 5, .ref 141]) rfl (fun _ => rfl) ?_
                        refine pw_ld E (pc' := 94) (st' := [pw_i ix, pw_i 5, .ref 141]) rfl (fun _ => rfl) ?_
                        refine pw_add E (pc' := 95) rfl rfl ?_
                        obtain ⟨f34l, f34h, -⟩ := pw_obj (c := 125) I53 rfl
                        refine pw_call (m' := 258) (As := [.ref 141, pw_i (5 + ix)]) (rest := []) (ls'' := [some (.ref 141), some (pw_i (5 + ix)), none]) (Nat.le_trans (by decide) hd) E rfl (fun _ => pw_iV rfl rfl rfl rfl (pw_cellI f34h rfl)) (rfl : pm_ent 258 = some (2, 3, 12, 4, pmc_258)) rfl rfl (cm_258 (pw_dp hd (by decide)) I53 (5 + ix) (by omega) (by omega) (by omega) (by omega)) ?_
                        rintro h35 v36 ⟨h35I, h35E, hqkeep, rfl⟩
                        refine ⟨_, rfl, ?_⟩
                        have h35F := E53.tr (h35E.wk (W' := [125, 127, 128, 129, 146, 147, 157, 158, 159, 160, 161, 1002]) (by first | rfl | simp))
                        show pw X d h35 277 98 [some (.ref 141), some (pw_i ix), some (pw_i ((((0 + 1) + 1) + 1) + 1))] [] _
                        refine pw_ld E (pc' := 99) (st' := [.ref 141]) rfl (fun _ => rfl) ?_
                        refine pw_getR (b := 173) h35I E (c := 125) (k := 46) (pc' := 102) rfl rfl rfl rfl rfl rfl rfl ?_
                        refine pw_ld E (pc' := 103) (st' := [pw_i ix, .ref 173]) rfl (fun _ => rfl) ?_
                        refine pw_ld E (pc' := 104) (st' := [.ref 141, pw_i ix, .ref 173]) rfl (fun _ => rfl) ?_
                        refine pw_getR (b := 177) h35I E (c := 125) (k := 50) (pc' := 107) rfl rfl rfl rfl rfl rfl rfl ?_
                        refine pw_ld E (pc' := 108) (st' := [pw_i 0, .ref 177, pw_i ix, .ref 173]) rfl (fun _ => rfl) ?_
                        refine pw_ald2 h35I E (c := 161) (pc' := 109) rfl rfl rfl (by decide) rfl (by decide) (by omega) (by omega) rfl (fun hf37a hf37b => ?_)
                        refine pw_ast0 h35I E (c := 157) (pc' := 110) rfl rfl rfl (by decide) rfl (by decide) (by omega) (by omega) rfl (by omega) (by omega) (by omega) (by omega) rfl ?_
                        intro h38I h38E
                        generalize h38w : pw_w h35 157 (ix.toNat) (pw_i (pw_g h35 161 (Int.toNat 0))) = h38 at h38I h38E ⊢
                        have h38F := h35F.tr (h38E.wk (W' := [125, 127, 128, 129, 146, 147, 157, 158, 159, 160, 161, 1002]) (by first | rfl | simp))
                        have hl39 : ∀ j : Nat, pw_g h38 161 j = pw_g gh53 161 j := fun j => ((by rw [← h38w]; exact pw_g_ne (by omega) : pw_g h38 161 j = pw_g h35 161 j)).trans (pw_Eg (c := 161) I53 h35E rfl rfl j : pw_g h35 161 j = pw_g gh53 161 j)
                        have hr40 : pw_g h38 161 (Int.toNat 1) ≤ 11 := by rw [hl39]; exact (hx53_2 (by omega)).2.1
                        refine pw_ld E (pc' := 111) (st' := [.ref 141]) rfl (fun _ => rfl) ?_
                        refine pw_getR (b := 174) h38I E (c := 125) (k := 47) (pc' := 114) rfl rfl rfl rfl rfl rfl rfl ?_
                        refine pw_ld E (pc' := 115) (st' := [pw_i ix, .ref 174]) rfl (fun _ => rfl) ?_
                        refine pw_ld E (pc' := 116) (st' := [.ref 141, pw_i ix, .ref 174]) rfl (fun _ => rfl) ?_
                        refine pw_getR (b := 177) h38I E (c := 125) (k := 50) (pc' := 119) rfl rfl rfl rfl rfl rfl rfl ?_
                        refine pw_ld E (pc' := 120) (st' := [pw_i 1, .ref 177, pw_i ix, .ref 174]) rfl (fun _ => rfl) ?_
                        refine pw_ald2 h38I E (c := 161) (pc' := 121) rfl rfl rfl (by decide) rfl (by decide) (by omega) (by omega) rfl (fun hf41a hf41b => ?_)
                        refine pw_if E (pc' := 128) rfl (by decide) (by omega) (by omega) ?_ ?_
                        · intro hc42
                          change (0 : Int) ≤ pw_g h38 161 (Int.toNat 1) at hc42
                          refine pw_ld E (pc' := 129) (st' := [.ref 141, pw_i ix, .ref 174]) rfl (fun _ => rfl) ?_
                          refine pw_getR (b := 177) h38I E (c := 125) (k := 50) (pc' := 132) rfl rfl rfl rfl rfl rfl rfl ?_
                          refine pw_ld E (pc' := 133) (st' := [pw_i 1, .ref 177, pw_i ix, .ref 174]) rfl (fun _ => rfl) ?_
                          refine pw_ald2 h38I E (c := 161) (pc' := 134) rfl rfl rfl (by decide) rfl (by decide) (by omega) (by omega) rfl (fun hf43a hf43b => ?_)
                          refine pw_ast0 h38I E (c := 158) (pc' := 135) rfl rfl rfl (by decide) rfl (by decide) (by omega) (by omega) rfl (by omega) (by omega) (by omega) (by omega) rfl ?_
                          intro h44I h44E
                          generalize h44w : pw_w h38 158 (ix.toNat) (pw_i (pw_g h38 161 (Int.toNat 1))) = h44 at h44I h44E ⊢
                          have h44F := h38F.tr (h44E.wk (W' := [125, 127, 128, 129, 146, 147, 157, 158, 159, 160, 161, 1002]) (by first | rfl | simp))
                          have hl45 : ∀ j : Nat, pw_g h44 161 j = pw_g gh53 161 j := fun j => (((by rw [← h44w]; exact pw_g_ne (by omega) : pw_g h44 161 j = pw_g h38 161 j)).trans (by rw [← h38w]; exact pw_g_ne (by omega) : pw_g h38 161 j = pw_g h35 161 j)).trans (pw_Eg (c := 161) I53 h35E rfl rfl j : pw_g h35 161 j = pw_g gh53 161 j)
                          have hr46 : pw_g h44 161 (Int.toNat 2) ≤ 11 := by rw [hl45]; exact (hx53_2 (by omega)).2.2.1
                          refine pw_ld E (pc' := 136) (st' := [.ref 141]) rfl (fun _ => rfl) ?_
                          refine pw_getR (b := 175) h44I E (c := 125) (k := 48) (pc' := 139) rfl rfl rfl rfl rfl rfl rfl ?_
                          refine pw_ld E (pc' := 140) (st' := [pw_i ix, .ref 175]) rfl (fun _ => rfl) ?_
                          refine pw_ld E (pc' := 141) (st' := [.ref 141, pw_i ix, .ref 175]) rfl (fun _ => rfl) ?_
                          refine pw_getR (b := 177) h44I E (c := 125) (k := 50) (pc' := 144) rfl rfl rfl rfl rfl rfl rfl ?_
                          refine pw_ld E (pc' := 145) (st' := [pw_i 2, .ref 177, pw_i ix, .ref 175]) rfl (fun _ => rfl) ?_
                          refine pw_ald2 h44I E (c := 161) (pc' := 146) rfl rfl rfl (by decide) rfl (by decide) (by omega) (by omega) rfl (fun hf47a hf47b => ?_)
                          refine pw_if E (pc' := 154) rfl (by decide) (by omega) (by omega) ?_ ?_
                          · intro hc48
                            change (0 : Int) ≤ pw_g h44 161 (Int.toNat 2) at hc48
                            refine pw_ld E (pc' := 155) (st' := [.ref 141, pw_i ix, .ref 175]) rfl (fun _ => rfl) ?_
                            refine pw_getR (b := 177) h44I E (c := 125) (k := 50) (pc' := 158) rfl rfl rfl rfl rfl rfl rfl ?_
                            refine pw_ld E (pc' := 159) (st' := [pw_i 2, .ref 177, pw_i ix, .ref 175]) rfl (fun _ => rfl) ?_
                            refine pw_ald2 h44I E (c := 161) (pc' := 160) rfl rfl rfl (by decide) rfl (by decide) (by omega) (by omega) rfl (fun hf49a hf49b => ?_)
                            refine pw_ast0 h44I E (c := 159) (pc' := 161) rfl rfl rfl (by decide) rfl (by decide) (by omega) (by omega) rfl (by omega) (by omega) (by omega) (by omega) rfl ?_
                            intro h50I h50E
                            generalize h50w : pw_w h44 159 (ix.toNat) (pw_i (pw_g h44 161 (Int.toNat 2))) = h50 at h50I h50E ⊢
                            have h50F := h44F.tr (h50E.wk (W' := [125, 127, 128, 129, 146, 147, 157, 158, 159, 160, 161, 1002]) (by first | rfl | simp))
                            have hl51 : ∀ j : Nat, pw_g h50 161 j = pw_g gh53 161 j := fun j => ((((by rw [← h50w]; exact pw_g_ne (by omega) : pw_g h50 161 j = pw_g h44 161 j)).trans (by rw [← h44w]; exact pw_g_ne (by omega) : pw_g h44 161 j = pw_g h38 161 j)).trans (by rw [← h38w]; exact pw_g_ne (by omega) : pw_g h38 161 j = pw_g h35 161 j)).trans (pw_Eg (c := 161) I53 h35E rfl rfl j : pw_g h35 161 j = pw_g gh53 161 j)
                            have hr52 : pw_g h50 161 (Int.toNat 3) ≤ 10 := by rw [hl51]; exact (hx53_2 (by omega)).2.2.2
                            refine pw_ld E (pc' := 162) (st' := [.ref 141]) rfl (fun _ => rfl) ?_
                            refine pw_getR (b := 176) h50I E (c := 125) (k := 49) (pc' := 165) rfl rfl rfl rfl rfl rfl rfl ?_
                            refine pw_ld E (pc' := 166) (st' := [pw_i ix, .ref 176]) rfl (fun _ => rfl) ?_
                            refine pw_ld E (pc' := 167) (st' := [.ref 141, pw_i ix, .ref 176]) rfl (fun _ => rfl) ?_
                            refine pw_getR (b := 177) h50I E (c := 125) (k := 50) (pc' := 170) rfl rfl rfl rfl rfl rfl rfl ?_
                            refine pw_ld E (pc' := 171) (st' := [pw_i 3, .ref 177, pw_i ix, .ref 176]) rfl (fun _ => rfl) ?_
                            refine pw_ald2 h50I E (c := 161) (pc' := 172) rfl rfl rfl (by decide) rfl (by decide) (by omega) (by omega) rfl (fun hf53a hf53b => ?_)
                            refine pw_ast0 h50I E (c := 160) (pc' := 173) rfl rfl rfl (by decide) rfl (by decide) (by omega) (by omega) rfl (by omega) (by omega) (by omega) (by omega) rfl ?_
                            intro h54I h54E
                            generalize h54w : pw_w h50 160 (ix.toNat) (pw_i (pw_g h50 161 (Int.toNat 3))) = h54 at h54I h54E ⊢
                            have h54F := h50F.tr (h54E.wk (W' := [125, 127, 128, 129, 146, 147, 157, 158, 159, 160, 161, 1002]) (by first | rfl | simp))
                            refine pw_ld E (pc' := 174) (st' := [pw_i 0]) rfl (fun _ => rfl) ?_
                            refine pw_iret E rfl ?_
                            have hl55 : ∀ j : Nat, pw_g h35 161 j = pw_g gh53 161 j := fun j => (pw_Eg (c := 161) I53 h35E rfl rfl j : pw_g h35 161 j = pw_g gh53 161 j)
                            have hl56 : ∀ j : Nat, pw_g h54 145 j = pw_g gh53 145 j := fun j => (((((by rw [← h54w]; exact pw_g_ne (by omega) : pw_g h54 145 j = pw_g h50 145 j)).trans (by rw [← h50w]; exact pw_g_ne (by omega) : pw_g h50 145 j = pw_g h44 145 j)).trans (by rw [← h44w]; exact pw_g_ne (by omega) : pw_g h44 145 j = pw_g h38 145 j)).trans (by rw [← h38w]; exact pw_g_ne (by omega) : pw_g h38 145 j = pw_g h35 145 j)).trans (pw_Eg (c := 145) I53 h35E rfl rfl j : pw_g h35 145 j = pw_g gh53 145 j)
                            have hl57 : ∀ j : Nat, pw_g h54 146 j = pw_g h35 146 j := fun j => ((((by rw [← h54w]; exact pw_g_ne (by omega) : pw_g h54 146 j = pw_g h50 146 j)).trans (by rw [← h50w]; exact pw_g_ne (by omega) : pw_g h50 146 j = pw_g h44 146 j)).trans (by rw [← h44w]; exact pw_g_ne (by omega) : pw_g h44 146 j = pw_g h38 146 j)).trans (by rw [← h38w]; exact pw_g_ne (by omega) : pw_g h38 146 j = pw_g h35 146 j)
                            have hl58 : ∀ j : Nat, pw_g h54 147 j = pw_g h35 147 j := fun j => ((((by rw [← h54w]; exact pw_g_ne (by omega) : pw_g h54 147 j = pw_g h50 147 j)).trans (by rw [← h50w]; exact pw_g_ne (by omega) : pw_g h50 147 j = pw_g h44 147 j)).trans (by rw [← h44w]; exact pw_g_ne (by omega) : pw_g h44 147 j = pw_g h38 147 j)).trans (by rw [← h38w]; exact pw_g_ne (by omega) : pw_g h38 147 j = pw_g h35 147 j)
                            have hl59 : ∀ j : Nat, pw_g h54 157 j = pw_g h38 157 j := fun j => (((by rw [← h54w]; exact pw_g_ne (by omega) : pw_g h54 157 j = pw_g h50 157 j)).trans (by rw [← h50w]; exact pw_g_ne (by omega) : pw_g h50 157 j = pw_g h44 157 j)).trans (by rw [← h44w]; exact pw_g_ne (by omega) : pw_g h44 157 j = pw_g h38 157 j)
                            have hl60 : ∀ j : Nat, pw_g h35 157 j = pw_g gh53 157 j := fun j => (pw_Eg (c := 157) I53 h35E rfl rfl j : pw_g h35 157 j = pw_g gh53 157 j)
                            have hw0 : pw_g h38 157 (ix.toNat) = pw_g h35 161 (Int.toNat 0) := by rw [← h38w]; exact pw_g_eqA h35I rfl (by omega) (by omega) (by omega)
                            have hw1 : ∀ j : Nat, j ≠ ix.toNat → pw_g h38 157 j = pw_g h35 157 j := fun j hj => by rw [← h38w]; exact pw_g_ne (fun q => hj q.2.symm)
                            have hkc : pw_KC gh53 h54 (5 + ix) (pw_g gh53 125 32) := ⟨fun j hj => ⟨(hl57 _).trans (hqkeep.1 j hj).1, (hl58 _).trans (hqkeep.1 j hj).2⟩, fun j hj => ⟨(hl57 _).trans (hqkeep.2 j hj).1, (hl58 _).trans (hqkeep.2 j hj).2⟩⟩
                            exact ⟨h54I, h54F, ⟨(hp0.of hx53_3.1 hx53_3.2.1 hx53_3.2.2).wri (L := pw_g gh53 161 0) (by omega) (by omega) (hx53_2 (by omega)).1 (by omega) ((hl59 _).trans (hw0.trans (hl55 0))) (fun j hj => (hl59 j).trans ((hw1 j hj).trans (hl60 j))) hkc hl56, (((((((by rw [← h54w]; exact pw_g_ne (by omega) : pw_g h54 125 2 = pw_g h50 125 2)).trans (by rw [← h50w]; exact pw_g_ne (by omega) : pw_g h50 125 2 = pw_g h44 125 2)).trans (by rw [← h44w]; exact pw_g_ne (by omega) : pw_g h44 125 2 = pw_g h38 125 2)).trans (by rw [← h38w]; exact pw_g_ne (by omega) : pw_g h38 125 2 = pw_g h35 125 2)).trans (pw_Ef h35E (by unfold pw_pf; omega) rfl : pw_g h35 125 2 = pw_g gh53 125 2)).trans hx53_5)⟩, ⟨_, rfl, by omega, by omega⟩⟩
                          · intro hc61
                            change ¬ ((0 : Int) ≤ pw_g h44 161 (Int.toNat 2)) at hc61
                            refine pw_bip E (pc' := 151) rfl rfl (by decide) ?_
                            refine pw_goto E (pc' := 160) rfl (by decide) ?_
                            refine pw_ast0 h44I E (c := 159) (pc' := 161) rfl rfl rfl (by decide) rfl (by decide) (by omega) (by omega) rfl (by omega) (by omega) (by omega) (by omega) rfl ?_
                            intro h62I h62E
                            generalize h62w : pw_w h44 159 (ix.toNat) (pw_i 11) = h62 at h62I h62E ⊢
                            have h62F := h44F.tr (h62E.wk (W' := [125, 127, 128, 129, 146, 147, 157, 158, 159, 160, 161, 1002]) (by first | rfl | simp))
                            have hl63 : ∀ j : Nat, pw_g h62 161 j = pw_g gh53 161 j := fun j => ((((by rw [← h62w]; exact pw_g_ne (by omega) : pw_g h62 161 j = pw_g h44 161 j)).trans (by rw [← h44w]; exact pw_g_ne (by omega) : pw_g h44 161 j = pw_g h38 161 j)).trans (by rw [← h38w]; exact pw_g_ne (by omega) : pw_g h38 161 j = pw_g h35 161 j)).trans (pw_Eg (c := 161) I53 h35E rfl rfl j : pw_g h35 161 j = pw_g gh53 161 j)
                            have hr64 : pw_g h62 161 (Int.toNat 3) ≤ 10 := by rw [hl63]; exact (hx53_2 (by omega)).2.2.2
                            refine pw_ld E (pc' := 162) (st' := [.ref 141]) rfl (fun _ => rfl) ?_
                            refine pw_getR (b := 176) h62I E (c := 125) (k := 49) (pc' := 165) rfl rfl rfl rfl rfl rfl rfl ?_
                            refine pw_ld E (pc' := 166) (st' := [pw_i ix, .ref 176]) rfl (fun _ => rfl) ?_
                            refine pw_ld E (pc' := 167) (st' := [.ref 141, pw_i ix, .ref 176]) rfl (fun _ => rfl) ?_
                            refine pw_getR (b := 177) h62I E (c := 125) (k := 50) (pc' := 170) rfl rfl rfl rfl rfl rfl rfl ?_
                            refine pw_ld E (pc' := 171) (st' := [pw_i 3, .ref 177, pw_i ix, .ref 176]) rfl (fun _ => rfl) ?_
                            refine pw_ald2 h62I E (c := 161) (pc' := 172) rfl rfl rfl (by decide) rfl (by decide) (by omega) (by omega) rfl (fun hf65a hf65b => ?_)
                            refine pw_ast0 h62I E (c := 160) (pc' := 173) rfl rfl rfl (by decide) rfl (by decide) (by omega) (by omega) rfl (by omega) (by omega) (by omega) (by omega) rfl ?_
                            intro h66I h66E
                            generalize h66w : pw_w h62 160 (ix.toNat) (pw_i (pw_g h62 161 (Int.toNat 3))) = h66 at h66I h66E ⊢
                            have h66F := h62F.tr (h66E.wk (W' := [125, 127, 128, 129, 146, 147, 157, 158, 159, 160, 161, 1002]) (by first | rfl | simp))
                            refine pw_ld E (pc' := 174) (st' := [pw_i 0]) rfl (fun _ => rfl) ?_
                            refine pw_iret E rfl ?_
                            have hl67 : ∀ j : Nat, pw_g h35 161 j = pw_g gh53 161 j := fun j => (pw_Eg (c := 161) I53 h35E rfl rfl j : pw_g h35 161 j = pw_g gh53 161 j)
                            have hl68 : ∀ j : Nat, pw_g h66 145 j = pw_g gh53 145 j := fun j => (((((by rw [← h66w]; exact pw_g_ne (by omega) : pw_g h66 145 j = pw_g h62 145 j)).trans (by rw [← h62w]; exact pw_g_ne (by omega) : pw_g h62 145 j = pw_g h44 145 j)).trans (by rw [← h44w]; exact pw_g_ne (by omega) : pw_g h44 145 j = pw_g h38 145 j)).trans (by rw [← h38w]; exact pw_g_ne (by omega) : pw_g h38 145 j = pw_g h35 145 j)).trans (pw_Eg (c := 145) I53 h35E rfl rfl j : pw_g h35 145 j = pw_g gh53 145 j)
                            have hl69 : ∀ j : Nat, pw_g h66 146 j = pw_g h35 146 j := fun j => ((((by rw [← h66w]; exact pw_g_ne (by omega) : pw_g h66 146 j = pw_g h62 146 j)).trans (by rw [← h62w]; exact pw_g_ne (by omega) : pw_g h62 146 j = pw_g h44 146 j)).trans (by rw [← h44w]; exact pw_g_ne (by omega) : pw_g h44 146 j = pw_g h38 146 j)).trans (by rw [← h38w]; exact pw_g_ne (by omega) : pw_g h38 146 j = pw_g h35 146 j)
                            have hl70 : ∀ j : Nat, pw_g h66 147 j = pw_g h35 147 j := fun j => ((((by rw [← h66w]; exact pw_g_ne (by omega) : pw_g h66 147 j = pw_g h62 147 j)).trans (by rw [← h62w]; exact pw_g_ne (by omega) : pw_g h62 147 j = pw_g h44 147 j)).trans (by rw [← h44w]; exact pw_g_ne (by omega) : pw_g h44 147 j = pw_g h38 147 j)).trans (by rw [← h38w]; exact pw_g_ne (by omega) : pw_g h38 147 j = pw_g h35 147 j)
                            have hl71 : ∀ j : Nat, pw_g h66 157 j = pw_g h38 157 j := fun j => (((by rw [← h66w]; exact pw_g_ne (by omega) : pw_g h66 157 j = pw_g h62 157 j)).trans (by rw [← h62w]; exact pw_g_ne (by omega) : pw_g h62 157 j = pw_g h44 157 j)).trans (by rw [← h44w]; exact pw_g_ne (by omega) : pw_g h44 157 j = pw_g h38 157 j)
                            have hl72 : ∀ j : Nat, pw_g h35 157 j = pw_g gh53 157 j := fun j => (pw_Eg (c := 157) I53 h35E rfl rfl j : pw_g h35 157 j = pw_g gh53 157 j)
                            have hw0 : pw_g h38 157 (ix.toNat) = pw_g h35 161 (Int.toNat 0) := by rw [← h38w]; exact pw_g_eqA h35I rfl (by omega) (by omega) (by omega)
                            have hw1 : ∀ j : Nat, j ≠ ix.toNat → pw_g h38 157 j = pw_g h35 157 j := fun j hj => by rw [← h38w]; exact pw_g_ne (fun q => hj q.2.symm)
                            have hkc : pw_KC gh53 h66 (5 + ix) (pw_g gh53 125 32) := ⟨fun j hj => ⟨(hl69 _).trans (hqkeep.1 j hj).1, (hl70 _).trans (hqkeep.1 j hj).2⟩, fun j hj => ⟨(hl69 _).trans (hqkeep.2 j hj).1, (hl70 _).trans (hqkeep.2 j hj).2⟩⟩
                            exact ⟨h66I, h66F, ⟨(hp0.of hx53_3.1 hx53_3.2.1 hx53_3.2.2).wri (L := pw_g gh53 161 0) (by omega) (by omega) (hx53_2 (by omega)).1 (by omega) ((hl71 _).trans (hw0.trans (hl67 0))) (fun j hj => (hl71 j).trans ((hw1 j hj).trans (hl72 j))) hkc hl68, (((((((by rw [← h66w]; exact pw_g_ne (by omega) : pw_g h66 125 2 = pw_g h62 125 2)).trans (by rw [← h62w]; exact pw_g_ne (by omega) : pw_g h62 125 2 = pw_g h44 125 2)).trans (by rw [← h44w]; exact pw_g_ne (by omega) : pw_g h44 125 2 = pw_g h38 125 2)).trans (by rw [← h38w]; exact pw_g_ne (by omega) : pw_g h38 125 2 = pw_g h35 125 2)).trans (pw_Ef h35E (by unfold pw_pf; omega) rfl : pw_g h35 125 2 = pw_g gh53 125 2)).trans hx53_5)⟩, ⟨_, rfl, by omega, by omega⟩⟩
                        · intro hc73
                          change ¬ ((0 : Int) ≤ pw_g h38 161 (Int.toNat 1)) at hc73
                          refine pw_ld E (pc' := 125) (st' := [pw_i 0, pw_i ix, .ref 174]) rfl (fun _ => rfl) ?_
                          refine pw_goto E (pc' := 134) rfl (by decide) ?_
                          refine pw_ast0 h38I E (c := 158) (pc' := 135) rfl rfl rfl (by decide) rfl (by decide) (by omega) (by omega) rfl (by omega) (by omega) (by omega) (by omega) rfl ?_
                          intro h74I h74E
                          generalize h74w : pw_w h38 158 (ix.toNat) (pw_i 0) = h74 at h74I h74E ⊢
                          have h74F := h38F.tr (h74E.wk (W' := [125, 127, 128, 129, 146, 147, 157, 158, 159, 160, 161, 1002]) (by first | rfl | simp))
                          have hl75 : ∀ j : Nat, pw_g h74 161 j = pw_g gh53 161 j := fun j => (((by rw [← h74w]; exact pw_g_ne (by omega) : pw_g h74 161 j = pw_g h38 161 j)).trans (by rw [← h38w]; exact pw_g_ne (by omega) : pw_g h38 161 j = pw_g h35 161 j)).trans (pw_Eg (c := 161) I53 h35E rfl rfl j : pw_g h35 161 j = pw_g gh53 161 j)
                          have hr76 : pw_g h74 161 (Int.toNat 2) ≤ 11 := by rw [hl75]; exact (hx53_2 (by omega)).2.2.1
                          refine pw_ld E (pc' := 136) (st' := [.ref 141]) rfl (fun _ => rfl) ?_
                          refine pw_getR (b := 175) h74I E (c := 125) (k := 48) (pc' := 139) rfl rfl rfl rfl rfl rfl rfl ?_
                          refine pw_ld E (pc' := 140) (st' := [pw_i ix, .ref 175]) rfl (fun _ => rfl) ?_
                          refine pw_ld E (pc' := 141) (st' := [.ref 141, pw_i ix, .ref 175]) rfl (fun _ => rfl) ?_
                          refine pw_getR (b := 177) h74I E (c := 125) (k := 50) (pc' := 144) rfl rfl rfl rfl rfl rfl rfl ?_
                          refine pw_ld E (pc' := 145) (st' := [pw_i 2, .ref 177, pw_i ix, .ref 175]) rfl (fun _ => rfl) ?_
                          refine pw_ald2 h74I E (c := 161) (pc' := 146) rfl rfl rfl (by decide) rfl (by decide) (by omega) (by omega) rfl (fun hf77a hf77b => ?_)
                          refine pw_if E (pc' := 154) rfl (by decide) (by omega) (by omega) ?_ ?_
                          · intro hc78
                            change (0 : Int) ≤ pw_g h74 161 (Int.toNat 2) at hc78
                            refine pw_ld E (pc' := 155) (st' := [.ref 141, pw_i ix, .ref 175]) rfl (fun _ => rfl) ?_
                            refine pw_getR (b := 177) h74I E (c := 125) (k := 50) (pc' := 158) rfl rfl rfl rfl rfl rfl rfl ?_
                            refine pw_ld E (pc' := 159) (st' := [pw_i 2, .ref 177, pw_i ix, .ref 175]) rfl (fun _ => rfl) ?_
                            refine pw_ald2 h74I E (c := 161) (pc' := 160) rfl rfl rfl (by decide) rfl (by decide) (by omega) (by omega) rfl (fun hf79a hf79b => ?_)
                            refine pw_ast0 h74I E (c := 159) (pc' := 161) rfl rfl rfl (by decide) rfl (by decide) (by omega) (by omega) rfl (by omega) (by omega) (by omega) (by omega) rfl ?_
                            intro h80I h80E
                            generalize h80w : pw_w h74 159 (ix.toNat) (pw_i (pw_g h74 161 (Int.toNat 2))) = h80 at h80I h80E ⊢
                            have h80F := h74F.tr (h80E.wk (W' := [125, 127, 128, 129, 146, 147, 157, 158, 159, 160, 161, 1002]) (by first | rfl | simp))
                            have hl81 : ∀ j : Nat, pw_g h80 161 j = pw_g gh53 161 j := fun j => ((((by rw [← h80w]; exact pw_g_ne (by omega) : pw_g h80 161 j = pw_g h74 161 j)).trans (by rw [← h74w]; exact pw_g_ne (by omega) : pw_g h74 161 j = pw_g h38 161 j)).trans (by rw [← h38w]; exact pw_g_ne (by omega) : pw_g h38 161 j = pw_g h35 161 j)).trans (pw_Eg (c := 161) I53 h35E rfl rfl j : pw_g h35 161 j = pw_g gh53 161 j)
                            have hr82 : pw_g h80 161 (Int.toNat 3) ≤ 10 := by rw [hl81]; exact (hx53_2 (by omega)).2.2.2
                            refine pw_ld E (pc' := 162) (st' := [.ref 141]) rfl (fun _ => rfl) ?_
                            refine pw_getR (b := 176) h80I E (c := 125) (k := 49) (pc' := 165) rfl rfl rfl rfl rfl rfl rfl ?_
                            refine pw_ld E (pc' := 166) (st' := [pw_i ix, .ref 176]) rfl (fun _ => rfl) ?_
                            refine pw_ld E (pc' := 167) (st' := [.ref 141, pw_i ix, .ref 176]) rfl (fun _ => rfl) ?_
                            refine pw_getR (b := 177) h80I E (c := 125) (k := 50) (pc' := 170) rfl rfl rfl rfl rfl rfl rfl ?_
                            refine pw_ld E (pc' := 171) (st' := [pw_i 3, .ref 177, pw_i ix, .ref 176]) rfl (fun _ => rfl) ?_
                            refine pw_ald2 h80I E (c := 161) (pc' := 172) rfl rfl rfl (by decide) rfl (by decide) (by omega) (by omega) rfl (fun hf83a hf83b => ?_)
                            refine pw_ast0 h80I E (c := 160) (pc' := 173) rfl rfl rfl (by decide) rfl (by decide) (by omega) (by omega) rfl (by omega) (by omega) (by omega) (by omega) rfl ?_
                            intro h84I h84E
                            generalize h84w : pw_w h80 160 (ix.toNat) (pw_i (pw_g h80 161 (Int.toNat 3))) = h84 at h84I h84E ⊢
                            have h84F := h80F.tr (h84E.wk (W' := [125, 127, 128, 129, 146, 147, 157, 158, 159, 160, 161, 1002]) (by first | rfl | simp))
                            refine pw_ld E (pc' := 174) (st' := [pw_i 0]) rfl (fun _ => rfl) ?_
                            refine pw_iret E rfl ?_
                            have hl85 : ∀ j : Nat, pw_g h35 161 j = pw_g gh53 161 j := fun j => (pw_Eg (c := 161) I53 h35E rfl rfl j : pw_g h35 161 j = pw_g gh53 161 j)
                            have hl86 : ∀ j : Nat, pw_g h84 145 j = pw_g gh53 145 j := fun j => (((((by rw [← h84w]; exact pw_g_ne (by omega) : pw_g h84 145 j = pw_g h80 145 j)).trans (by rw [← h80w]; exact pw_g_ne (by omega) : pw_g h80 145 j = pw_g h74 145 j)).trans (by rw [← h74w]; exact pw_g_ne (by omega) : pw_g h74 145 j = pw_g h38 145 j)).trans (by rw [← h38w]; exact pw_g_ne (by omega) : pw_g h38 145 j = pw_g h35 145 j)).trans (pw_Eg (c := 145) I53 h35E rfl rfl j : pw_g h35 145 j = pw_g gh53 145 j)
                            have hl87 : ∀ j : Nat, pw_g h84 146 j = pw_g h35 146 j := fun j => ((((by rw [← h84w]; exact pw_g_ne (by omega) : pw_g h84 146 j = pw_g h80 146 j)).trans (by rw [← h80w]; exact pw_g_ne (by omega) : pw_g h80 146 j = pw_g h74 146 j)).trans (by rw [← h74w]; exact pw_g_ne (by omega) : pw_g h74 146 j = pw_g h38 146 j)).trans (by rw [← h38w]; exact pw_g_ne (by omega) : pw_g h38 146 j = pw_g h35 146 j)
                            have hl88 : ∀ j : Nat, pw_g h84 147 j = pw_g h35 147 j := fun j => ((((by rw [← h84w]; exact pw_g_ne (by omega) : pw_g h84 147 j = pw_g h80 147 j)).trans (by rw [← h80w]; exact pw_g_ne (by omega) : pw_g h80 147 j = pw_g h74 147 j)).trans (by rw [← h74w]; exact pw_g_ne (by omega) : pw_g h74 147 j = pw_g h38 147 j)).trans (by rw [← h38w]; exact pw_g_ne (by omega) : pw_g h38 147 j = pw_g h35 147 j)
                            have hl89 : ∀ j : Nat, pw_g h84 157 j = pw_g h38 157 j := fun j => (((by rw [← h84w]; exact pw_g_ne (by omega) : pw_g h84 157 j = pw_g h80 157 j)).trans (by rw [← h80w]; exact pw_g_ne (by omega) : pw_g h80 157 j = pw_g h74 157 j)).trans (by rw [← h74w]; exact pw_g_ne (by omega) : pw_g h74 157 j = pw_g h38 157 j)
                            have hl90 : ∀ j : Nat, pw_g h35 157 j = pw_g gh53 157 j := fun j => (pw_Eg (c := 157) I53 h35E rfl rfl j : pw_g h35 157 j = pw_g gh53 157 j)
                            have hw0 : pw_g h38 157 (ix.toNat) = pw_g h35 161 (Int.toNat 0) := by rw [← h38w]; exact pw_g_eqA h35I rfl (by omega) (by omega) (by omega)
                            have hw1 : ∀ j : Nat, j ≠ ix.toNat → pw_g h38 157 j = pw_g h35 157 j := fun j hj => by rw [← h38w]; exact pw_g_ne (fun q => hj q.2.symm)
                            have hkc : pw_KC gh53 h84 (5 + ix) (pw_g gh53 125 32) := ⟨fun j hj => ⟨(hl87 _).trans (hqkeep.1 j hj).1, (hl88 _).trans (hqkeep.1 j hj).2⟩, fun j hj => ⟨(hl87 _).trans (hqkeep.2 j hj).1, (hl88 _).trans (hqkeep.2 j hj).2⟩⟩
                            exact ⟨h84I, h84F, ⟨(hp0.of hx53_3.1 hx53_3.2.1 hx53_3.2.2).wri (L := pw_g gh53 161 0) (by omega) (by omega) (hx53_2 (by omega)).1 (by omega) ((hl89 _).trans (hw0.trans (hl85 0))) (fun j hj => (hl89 j).trans ((hw1 j hj).trans (hl90 j))) hkc hl86, (((((((by rw [← h84w]; exact pw_g_ne (by omega) : pw_g h84 125 2 = pw_g h80 125 2)).trans (by rw [← h80w]; exact pw_g_ne (by omega) : pw_g h80 125 2 = pw_g h74 125 2)).trans (by rw [← h74w]; exact pw_g_ne (by omega) : pw_g h74 125 2 = pw_g h38 125 2)).trans (by rw [← h38w]; exact pw_g_ne (by omega) : pw_g h38 125 2 = pw_g h35 125 2)).trans (pw_Ef h35E (by unfold pw_pf; omega) rfl : pw_g h35 125 2 = pw_g gh53 125 2)).trans hx53_5)⟩, ⟨_, rfl, by omega, by omega⟩⟩
                          · intro hc91
                            change ¬ ((0 : Int) ≤ pw_g h74 161 (Int.toNat 2)) at hc91
                            refine pw_bip E (pc' := 151) rfl rfl (by decide) ?_
                            refine pw_goto E (pc' := 160) rfl (by decide) ?_
                            refine pw_ast0 h74I E (c := 159) (pc' := 161) rfl rfl rfl (by decide) rfl (by decide) (by omega) (by omega) rfl (by omega) (by omega) (by omega) (by omega) rfl ?_
                            intro h92I h92E
                            generalize h92w : pw_w h74 159 (ix.toNat) (pw_i 11) = h92 at h92I h92E ⊢
                            have h92F := h74F.tr (h92E.wk (W' := [125, 127, 128, 129, 146, 147, 157, 158, 159, 160, 161, 1002]) (by first | rfl | simp))
                            have hl93 : ∀ j : Nat, pw_g h92 161 j = pw_g gh53 161 j := fun j => ((((by rw [← h92w]; exact pw_g_ne (by omega) : pw_g h92 161 j = pw_g h74 161 j)).trans (by rw [← h74w]; exact pw_g_ne (by omega) : pw_g h74 161 j = pw_g h38 161 j)).trans (by rw [← h38w]; exact pw_g_ne (by omega) : pw_g h38 161 j = pw_g h35 161 j)).trans (pw_Eg (c := 161) I53 h35E rfl rfl j : pw_g h35 161 j = pw_g gh53 161 j)
                            have hr94 : pw_g h92 161 (Int.toNat 3) ≤ 10 := by rw [hl93]; exact (hx53_2 (by omega)).2.2.2
                            refine pw_ld E (pc' := 162) (st' := [.ref 141]) rfl (fun _ => rfl) ?_
                            refine pw_getR (b := 176) h92I E (c := 125) (k := 49) (pc' := 165) rfl rfl rfl rfl rfl rfl rfl ?_
                            refine pw_ld E (pc' := 166) (st' := [pw_i ix, .ref 176]) rfl (fun _ => rfl) ?_
                            refine pw_ld E (pc' := 167) (st' := [.ref 141, pw_i ix, .ref 176]) rfl (fun _ => rfl) ?_
                            refine pw_getR (b := 177) h92I E (c := 125) (k := 50) (pc' := 170) rfl rfl rfl rfl rfl rfl rfl ?_
                            refine pw_ld E (pc' := 171) (st' := [pw_i 3, .ref 177, pw_i ix, .ref 176]) rfl (fun _ => rfl) ?_
                            refine pw_ald2 h92I E (c := 161) (pc' := 172) rfl rfl rfl (by decide) rfl (by decide) (by omega) (by omega) rfl (fun hf95a hf95b => ?_)
                            refine pw_ast0 h92I E (c := 160) (pc' := 173) rfl rfl rfl (by decide) rfl (by decide) (by omega) (by omega) rfl (by omega) (by omega) (by omega) (by omega) rfl ?_
                            intro h96I h96E
                            generalize h96w : pw_w h92 160 (ix.toNat) (pw_i (pw_g h92 161 (Int.toNat 3))) = h96 at h96I h96E ⊢
                            have h96F := h92F.tr (h96E.wk (W' := [125, 127, 128, 129, 146, 147, 157, 158, 159, 160, 161, 1002]) (by first | rfl | simp))
                            refine pw_ld E (pc' := 174) (st' := [pw_i 0]) rfl (fun _ => rfl) ?_
                            refine pw_iret E rfl ?_
                            have hl97 : ∀ j : Nat, pw_g h35 161 j = pw_g gh53 161 j := fun j => (pw_Eg (c := 161) I53 h35E rfl rfl j : pw_g h35 161 j = pw_g gh53 161 j)
                            have hl98 : ∀ j : Nat, pw_g h96 145 j = pw_g gh53 145 j := fun j => (((((by rw [← h96w]; exact pw_g_ne (by omega) : pw_g h96 145 j = pw_g h92 145 j)).trans (by rw [← h92w]; exact pw_g_ne (by omega) : pw_g h92 145 j = pw_g h74 145 j)).trans (by rw [← h74w]; exact pw_g_ne (by omega) : pw_g h74 145 j = pw_g h38 145 j)).trans (by rw [← h38w]; exact pw_g_ne (by omega) : pw_g h38 145 j = pw_g h35 145 j)).trans (pw_Eg (c := 145) I53 h35E rfl rfl j : pw_g h35 145 j = pw_g gh53 145 j)
                            have hl99 : ∀ j : Nat, pw_g h96 146 j = pw_g h35 146 j := fun j => ((((by rw [← h96w]; exact pw_g_ne (by omega) : pw_g h96 146 j = pw_g h92 146 j)).trans (by rw [← h92w]; exact pw_g_ne (by omega) : pw_g h92 146 j = pw_g h74 146 j)).trans (by rw [← h74w]; exact pw_g_ne (by omega) : pw_g h74 146 j = pw_g h38 146 j)).trans (by rw [← h38w]; exact pw_g_ne (by omega) : pw_g h38 146 j = pw_g h35 146 j)
                            have hl100 : ∀ j : Nat, pw_g h96 147 j = pw_g h35 147 j := fun j => ((((by rw [← h96w]; exact pw_g_ne (by omega) : pw_g h96 147 j = pw_g h92 147 j)).trans (by rw [← h92w]; exact pw_g_ne (by omega) : pw_g h92 147 j = pw_g h74 147 j)).trans (by rw [← h74w]; exact pw_g_ne (by omega) : pw_g h74 147 j = pw_g h38 147 j)).trans (by rw [← h38w]; exact pw_g_ne (by omega) : pw_g h38 147 j = pw_g h35 147 j)
                            have hl101 : ∀ j : Nat, pw_g h96 157 j = pw_g h38 157 j := fun j => (((by rw [← h96w]; exact pw_g_ne (by omega) : pw_g h96 157 j = pw_g h92 157 j)).trans (by rw [← h92w]; exact pw_g_ne (by omega) : pw_g h92 157 j = pw_g h74 157 j)).trans (by rw [← h74w]; exact pw_g_ne (by omega) : pw_g h74 157 j = pw_g h38 157 j)
                            have hl102 : ∀ j : Nat, pw_g h35 157 j = pw_g gh53 157 j := fun j => (pw_Eg (c := 157) I53 h35E rfl rfl j : pw_g h35 157 j = pw_g gh53 157 j)
                            have hw0 : pw_g h38 157 (ix.toNat) = pw_g h35 161 (Int.toNat 0) := by rw [← h38w]; exact pw_g_eqA h35I rfl (by omega) (by omega) (by omega)
                            have hw1 : ∀ j : Nat, j ≠ ix.toNat → pw_g h38 157 j = pw_g h35 157 j := fun j hj => by rw [← h38w]; exact pw_g_ne (fun q => hj q.2.symm)
                            have hkc : pw_KC gh53 h96 (5 + ix) (pw_g gh53 125 32) := ⟨fun j hj => ⟨(hl99 _).trans (hqkeep.1 j hj).1, (hl100 _).trans (hqkeep.1 j hj).2⟩, fun j hj => ⟨(hl99 _).trans (hqkeep.2 j hj).1, (hl100 _).trans (hqkeep.2 j hj).2⟩⟩
                            exact ⟨h96I, h96F, ⟨(hp0.of hx53_3.1 hx53_3.2.1 hx53_3.2.2).wri (L := pw_g gh53 161 0) (by omega) (by omega) (hx53_2 (by omega)).1 (by omega) ((hl101 _).trans (hw0.trans (hl97 0))) (fun j hj => (hl101 j).trans ((hw1 j hj).trans (hl102 j))) hkc hl98, (((((((by rw [← h96w]; exact pw_g_ne (by omega) : pw_g h96 125 2 = pw_g h92 125 2)).trans (by rw [← h92w]; exact pw_g_ne (by omega) : pw_g h92 125 2 = pw_g h74 125 2)).trans (by rw [← h74w]; exact pw_g_ne (by omega) : pw_g h74 125 2 = pw_g h38 125 2)).trans (by rw [← h38w]; exact pw_g_ne (by omega) : pw_g h38 125 2 = pw_g h35 125 2)).trans (pw_Ef h35E (by unfold pw_pf; omega) rfl : pw_g h35 125 2 = pw_g gh53 125 2)).trans hx53_5)⟩, ⟨_, rfl, by omega, by omega⟩⟩
                      · intro hc103
                        change ¬ (pw_g gh53 125 8 ≤ (0 : Int)) at hc103
                        refine pw_ld E (pc' := 87) (st' := [.ref 141]) rfl (fun _ => rfl) ?_
                        refine pw_getI2 I53 E (c := 125) (k := 8) (pc' := 90) rfl rfl rfl rfl rfl rfl (fun hf104a hf104b => ?_)
                        refine pw_iret E rfl ?_
                        exact ⟨I53, E53, ⟨(hp0.of hx53_3.1 hx53_3.2.1 hx53_3.2.2), hx53_5⟩, ⟨_, rfl, by omega, by omega⟩⟩
                    · intro hc105
                      change ¬ (pw_g gh53 125 8 ≠ (0 : Int)) at hc105
                      refine pw_ld E (pc' := 61) (st' := [.ref 141]) rfl (fun _ => rfl) ?_
                      refine pw_getR (b := 143) I53 E (c := 125) (k := 4) (pc' := 64) rfl rfl rfl rfl rfl rfl rfl ?_
                      refine pw_ld E (pc' := 65) (st' := [.ref 141, .ref 143]) rfl (fun _ => rfl) ?_
                      refine pw_getI2 I53 E (c := 125) (k := 7) (pc' := 68) rfl rfl rfl rfl rfl rfl (fun hf106a hf106b => ?_)
                      refine pw_ald2 I53 E (c := 127) (pc' := 69) rfl rfl rfl (by decide) rfl (by decide) (by omega) (by omega) rfl (fun hf107a hf107b => ?_)
                      refine pw_if E (pc' := 79) rfl (by decide) (by omega) (by omega) ?_ ?_
                      · intro hc108
                        change pw_g gh53 127 ((pw_g gh53 125 7).toNat) = (0 : Int) at hc108
                        have hA53 : pw_g gh53 125 7 ≤ n ∧ 0 ≤ pw_g gh53 125 8 ∧ 0 ≤ pw_g gh53 125 7 ∧ 0 ≤ pw_g gh53 125 32 := hx53_0.2.2
                        have hn1 : n ≤ 1000 := hx53_0.1
                        refine pw_ld E (pc' := 80) (st' := [.ref 141]) rfl (fun _ => rfl) ?_
                        refine pw_getI2 I53 E (c := 125) (k := 8) (pc' := 83) rfl rfl rfl rfl rfl rfl (fun hf109a hf109b => ?_)
                        refine pw_if E (pc' := 91) rfl (by decide) (by omega) (by omega) ?_ ?_
                        · intro hc110
                          change pw_g gh53 125 8 ≤ (0 : Int) at hc110
                          refine pw_ld E (pc' := 92) (st' := [.ref 141]) rfl (fun _ => rfl) ?_
                          refine pw_ld E (pc' := 93) (st' := [pw_i 5, .ref 141]) rfl (fun _ => rfl) ?_
                          refine pw_ld E (pc' := 94) (st' := [pw_i ix, pw_i 5, .ref 141]) rfl (fun _ => rfl) ?_
                          refine pw_add E (pc' := 95) rfl rfl ?_
                          obtain ⟨f111l, f111h, -⟩ := pw_obj (c := 125) I53 rfl
                          refine pw_call (m' := 258) (As := [.ref 141, pw_i (5 + ix)]) (rest := []) (ls'' := [some (.ref 141), some (pw_i (5 + ix)), none]) (Nat.le_trans (by decide) hd) E rfl (fun _ => pw_iV rfl rfl rfl rfl (pw_cellI f111h rfl)) (rfl : pm_ent 258 = some (2, 3, 12, 4, pmc_258)) rfl rfl (cm_258 (pw_dp hd (by decide)) I53 (5 + ix) (by omega) (by omega) (by omega) (by omega)) ?_
                          rintro h112 v113 ⟨h112I, h112E, hqkeep, rfl⟩
                          refine ⟨_, rfl, ?_⟩
                          have h112F := E53.tr (h112E.wk (W' := [125, 127, 128, 129, 146, 147, 157, 158, 159, 160, 161, 1002]) (by first | rfl | simp))
                          show pw X d h112 277 98 [some (.ref 141), some (pw_i ix), some (pw_i ((((0 + 1) + 1) + 1) + 1))] [] _
                          refine pw_ld E (pc' := 99) (st' := [.ref 141]) rfl (fun _ => rfl) ?_
                          refine pw_getR (b := 173) h112I E (c := 125) (k := 46) (pc' := 102) rfl rfl rfl rfl rfl rfl rfl ?_
                          refine pw_ld E (pc' := 103) (st' := [pw_i ix, .ref 173]) rfl (fun _ => rfl) ?_
                          refine pw_ld E (pc' := 104) (st' := [.ref 141, pw_i ix, .ref 173]) rfl (fun _ => rfl) ?_
                          refine pw_getR (b := 177) h112I E (c := 125) (k := 50) (pc' := 107) rfl rfl rfl rfl rfl rfl rfl ?_
                          refine pw_ld E (pc' := 108) (st' := [pw_i 0, .ref 177, pw_i ix, .ref 173]) rfl (fun _ => rfl) ?_
                          refine pw_ald2 h112I E (c := 161) (pc' := 109) rfl rfl rfl (by decide) rfl (by decide) (by omega) (by omega) rfl (fun hf114a hf114b => ?_)
                          refine pw_ast0 h112I E (c := 157) (pc' := 110) rfl rfl rfl (by decide) rfl (by decide) (by omega) (by omega) rfl (by omega) (by omega) (by omega) (by omega) rfl ?_
                          intro h115I h115E
                          generalize h115w : pw_w h112 157 (ix.toNat) (pw_i (pw_g h112 161 (Int.toNat 0))) = h115 at h115I h115E ⊢
                          have h115F := h112F.tr (h115E.wk (W' := [125, 127, 128, 129, 146, 147, 157, 158, 159, 160, 161, 1002]) (by first | rfl | simp))
                          have hl116 : ∀ j : Nat, pw_g h115 161 j = pw_g gh53 161 j := fun j => ((by rw [← h115w]; exact pw_g_ne (by omega) : pw_g h115 161 j = pw_g h112 161 j)).trans (pw_Eg (c := 161) I53 h112E rfl rfl j : pw_g h112 161 j = pw_g gh53 161 j)
                          have hr117 : pw_g h115 161 (Int.toNat 1) ≤ 11 := by rw [hl116]; exact (hx53_2 (by omega)).2.1
                          refine pw_ld E (pc' := 111) (st' := [.ref 141]) rfl (fun _ => rfl) ?_
                          refine pw_getR (b := 174) h115I E (c := 125) (k := 47) (pc' := 114) rfl rfl rfl rfl rfl rfl rfl ?_
                          refine pw_ld E (pc' := 115) (st' := [pw_i ix, .ref 174]) rfl (fun _ => rfl) ?_
                          refine pw_ld E (pc' := 116) (st' := [.ref 141, pw_i ix, .ref 174]) rfl (fun _ => rfl) ?_
                          refine pw_getR (b := 177) h115I E (c := 125) (k := 50) (pc' := 119) rfl rfl rfl rfl rfl rfl rfl ?_
                          refine pw_ld E (pc' := 120) (st' := [pw_i 1, .ref 177, pw_i ix, .ref 174]) rfl (fun _ => rfl) ?_
                          refine pw_ald2 h115I E (c := 161) (pc' := 121) rfl rfl rfl (by decide) rfl (by decide) (by omega) (by omega) rfl (fun hf118a hf118b => ?_)
                          refine pw_if E (pc' := 128) rfl (by decide) (by omega) (by omega) ?_ ?_
                          · intro hc119
                            change (0 : Int) ≤ pw_g h115 161 (Int.toNat 1) at hc119
                            refine pw_ld E (pc' := 129) (st' := [.ref 141, pw_i ix, .ref 174]) rfl (fun _ => rfl) ?_
                            refine pw_getR (b := 177) h115I E (c := 125) (k := 50) (pc' := 132) rfl rfl rfl rfl rfl rfl rfl ?_
                            refine pw_ld E (pc' := 133) (st' := [pw_i 1, .ref 177, pw_i ix, .ref 174]) rfl (fun _ => rfl) ?_
                            refine pw_ald2 h115I E (c := 161) (pc' := 134) rfl rfl rfl (by decide) rfl (by decide) (by omega) (by omega) rfl (fun hf120a hf120b => ?_)
                            refine pw_ast0 h115I E (c := 158) (pc' := 135) rfl rfl rfl (by decide) rfl (by decide) (by omega) (by omega) rfl (by omega) (by omega) (by omega) (by omega) rfl ?_
                            intro h121I h121E
                            generalize h121w : pw_w h115 158 (ix.toNat) (pw_i (pw_g h115 161 (Int.toNat 1))) = h121 at h121I h121E ⊢
                            have h121F := h115F.tr (h121E.wk (W' := [125, 127, 128, 129, 146, 147, 157, 158, 159, 160, 161, 1002]) (by first | rfl | simp))
                            have hl122 : ∀ j : Nat, pw_g h121 161 j = pw_g gh53 161 j := fun j => (((by rw [← h121w]; exact pw_g_ne (by omega) : pw_g h121 161 j = pw_g h115 161 j)).trans (by rw [← h115w]; exact pw_g_ne (by omega) : pw_g h115 161 j = pw_g h112 161 j)).trans (pw_Eg (c := 161) I53 h112E rfl rfl j : pw_g h112 161 j = pw_g gh53 161 j)
                            have hr123 : pw_g h121 161 (Int.toNat 2) ≤ 11 := by rw [hl122]; exact (hx53_2 (by omega)).2.2.1
                            refine pw_ld E (pc' := 136) (st' := [.ref 141]) rfl (fun _ => rfl) ?_
                            refine pw_getR (b := 175) h121I E (c := 125) (k := 48) (pc' := 139) rfl rfl rfl rfl rfl rfl rfl ?_
                            refine pw_ld E (pc' := 140) (st' := [pw_i ix, .ref 175]) rfl (fun _ => rfl) ?_
                            refine pw_ld E (pc' := 141) (st' := [.ref 141, pw_i ix, .ref 175]) rfl (fun _ => rfl) ?_
                            refine pw_getR (b := 177) h121I E (c := 125) (k := 50) (pc' := 144) rfl rfl rfl rfl rfl rfl rfl ?_
                            refine pw_ld E (pc' := 145) (st' := [pw_i 2, .ref 177, pw_i ix, .ref 175]) rfl (fun _ => rfl) ?_
                            refine pw_ald2 h121I E (c := 161) (pc' := 146) rfl rfl rfl (by decide) rfl (by decide) (by omega) (by omega) rfl (fun hf124a hf124b => ?_)
                            refine pw_if E (pc' := 154) rfl (by decide) (by omega) (by omega) ?_ ?_
                            · intro hc125
                              change (0 : Int) ≤ pw_g h121 161 (Int.toNat 2) at hc125
                              refine pw_ld E (pc' := 155) (st' := [.ref 141, pw_i ix, .ref 175]) rfl (fun _ => rfl) ?_
                              refine pw_getR (b := 177) h121I E (c := 125) (k := 50) (pc' := 158) rfl rfl rfl rfl rfl rfl rfl ?_
                              refine pw_ld E (pc' := 159) (st' := [pw_i 2, .ref 177, pw_i ix, .ref 175]) rfl (fun _ => rfl) ?_
                              refine pw_ald2 h121I E (c := 161) (pc' := 160) rfl rfl rfl (by decide) rfl (by decide) (by omega) (by omega) rfl (fun hf126a hf126b => ?_)
                              refine pw_ast0 h121I E (c := 159) (pc' := 161) rfl rfl rfl (by decide) rfl (by decide) (by omega) (by omega) rfl (by omega) (by omega) (by omega) (by omega) rfl ?_
                              intro h127I h127E
                              generalize h127w : pw_w h121 159 (ix.toNat) (pw_i (pw_g h121 161 (Int.toNat 2))) = h127 at h127I h127E ⊢
                              have h127F := h121F.tr (h127E.wk (W' := [125, 127, 128, 129, 146, 147, 157, 158, 159, 160, 161, 1002]) (by first | rfl | simp))
                              have hl128 : ∀ j : Nat, pw_g h127 161 j = pw_g gh53 161 j := fun j => ((((by rw [← h127w]; exact pw_g_ne (by omega) : pw_g h127 161 j = pw_g h121 161 j)).trans (by rw [← h121w]; exact pw_g_ne (by omega) : pw_g h121 161 j = pw_g h115 161 j)).trans (by rw [← h115w]; exact pw_g_ne (by omega) : pw_g h115 161 j = pw_g h112 161 j)).trans (pw_Eg (c := 161) I53 h112E rfl rfl j : pw_g h112 161 j = pw_g gh53 161 j)
                              have hr129 : pw_g h127 161 (Int.toNat 3) ≤ 10 := by rw [hl128]; exact (hx53_2 (by omega)).2.2.2
                              refine pw_ld E (pc' := 162) (st' := [.ref 141]) rfl (fun _ => rfl) ?_
                              refine pw_getR (b := 176) h127I E (c := 125) (k := 49) (pc' := 165) rfl rfl rfl rfl rfl rfl rfl ?_
                              refine pw_ld E (pc' := 166) (st' := [pw_i ix, .ref 176]) rfl (fun _ => rfl) ?_
                              refine pw_ld E (pc' := 167) (st' := [.ref 141, pw_i ix, .ref 176]) rfl (fun _ => rfl) ?_
                              refine pw_getR (b := 177) h127I E (c := 125) (k := 50) (pc' := 170) rfl rfl rfl rfl rfl rfl rfl ?_
                              refine pw_ld E (pc' := 171) (st' := [pw_i 3, .ref 177, pw_i ix, .ref 176]) rfl (fun _ => rfl) ?_
                              refine pw_ald2 h127I E (c := 161) (pc' := 172) rfl rfl rfl (by decide) rfl (by decide) (by omega) (by omega) rfl (fun hf130a hf130b => ?_)
                              refine pw_ast0 h127I E (c := 160) (pc' := 173) rfl rfl rfl (by decide) rfl (by decide) (by omega) (by omega) rfl (by omega) (by omega) (by omega) (by omega) rfl ?_
                              intro h131I h131E
                              generalize h131w : pw_w h127 160 (ix.toNat) (pw_i (pw_g h127 161 (Int.toNat 3))) = h131 at h131I h131E ⊢
                              have h131F := h127F.tr (h131E.wk (W' := [125, 127, 128, 129, 146, 147, 157, 158, 159, 160, 161, 1002]) (by first | rfl | simp))
                              refine pw_ld E (pc' := 174) (st' := [pw_i 0]) rfl (fun _ => rfl) ?_
                              refine pw_iret E rfl ?_
                              have hl132 : ∀ j : Nat, pw_g h112 161 j = pw_g gh53 161 j := fun j => (pw_Eg (c := 161) I53 h112E rfl rfl j : pw_g h112 161 j = pw_g gh53 161 j)
                              have hl133 : ∀ j : Nat, pw_g h131 145 j = pw_g gh53 145 j := fun j => (((((by rw [← h131w]; exact pw_g_ne (by omega) : pw_g h131 145 j = pw_g h127 145 j)).trans (by rw [← h127w]; exact pw_g_ne (by omega) : pw_g h127 145 j = pw_g h121 145 j)).trans (by rw [← h121w]; exact pw_g_ne (by omega) : pw_g h121 145 j = pw_g h115 145 j)).trans (by rw [← h115w]; exact pw_g_ne (by omega) : pw_g h115 145 j = pw_g h112 145 j)).trans (pw_Eg (c := 145) I53 h112E rfl rfl j : pw_g h112 145 j = pw_g gh53 145 j)
                              have hl134 : ∀ j : Nat, pw_g h131 146 j = pw_g h112 146 j := fun j => ((((by rw [← h131w]; exact pw_g_ne (by omega) : pw_g h131 146 j = pw_g h127 146 j)).trans (by rw [← h127w]; exact pw_g_ne (by omega) : pw_g h127 146 j = pw_g h121 146 j)).trans (by rw [← h121w]; exact pw_g_ne (by omega) : pw_g h121 146 j = pw_g h115 146 j)).trans (by rw [← h115w]; exact pw_g_ne (by omega) : pw_g h115 146 j = pw_g h112 146 j)
                              have hl135 : ∀ j : Nat, pw_g h131 147 j = pw_g h112 147 j := fun j => ((((by rw [← h131w]; exact pw_g_ne (by omega) : pw_g h131 147 j = pw_g h127 147 j)).trans (by rw [← h127w]; exact pw_g_ne (by omega) : pw_g h127 147 j = pw_g h121 147 j)).trans (by rw [← h121w]; exact pw_g_ne (by omega) : pw_g h121 147 j = pw_g h115 147 j)).trans (by rw [← h115w]; exact pw_g_ne (by omega) : pw_g h115 147 j = pw_g h112 147 j)
                              have hl136 : ∀ j : Nat, pw_g h131 157 j = pw_g h115 157 j := fun j => (((by rw [← h131w]; exact pw_g_ne (by omega) : pw_g h131 157 j = pw_g h127 157 j)).trans (by rw [← h127w]; exact pw_g_ne (by omega) : pw_g h127 157 j = pw_g h121 157 j)).trans (by rw [← h121w]; exact pw_g_ne (by omega) : pw_g h121 157 j = pw_g h115 157 j)
                              have hl137 : ∀ j : Nat, pw_g h112 157 j = pw_g gh53 157 j := fun j => (pw_Eg (c := 157) I53 h112E rfl rfl j : pw_g h112 157 j = pw_g gh53 157 j)
                              have hw0 : pw_g h115 157 (ix.toNat) = pw_g h112 161 (Int.toNat 0) := by rw [← h115w]; exact pw_g_eqA h112I rfl (by omega) (by omega) (by omega)
                              have hw1 : ∀ j : Nat, j ≠ ix.toNat → pw_g h115 157 j = pw_g h112 157 j := fun j hj => by rw [← h115w]; exact pw_g_ne (fun q => hj q.2.symm)
                              have hkc : pw_KC gh53 h131 (5 + ix) (pw_g gh53 125 32) := ⟨fun j hj => ⟨(hl134 _).trans (hqkeep.1 j hj).1, (hl135 _).trans (hqkeep.1 j hj).2⟩, fun j hj => ⟨(hl134 _).trans (hqkeep.2 j hj).1, (hl135 _).trans (hqkeep.2 j hj).2⟩⟩
                              exact ⟨h131I, h131F, ⟨(hp0.of hx53_3.1 hx53_3.2.1 hx53_3.2.2).wri (L := pw_g gh53 161 0) (by omega) (by omega) (hx53_2 (by omega)).1 (by omega) ((hl136 _).trans (hw0.trans (hl132 0))) (fun j hj => (hl136 j).trans ((hw1 j hj).trans (hl137 j))) hkc hl133, (((((((by rw [← h131w]; exact pw_g_ne (by omega) : pw_g h131 125 2 = pw_g h127 125 2)).trans (by rw [← h127w]; exact pw_g_ne (by omega) : pw_g h127 125 2 = pw_g h121 125 2)).trans (by rw [← h121w]; exact pw_g_ne (by omega) : pw_g h121 125 2 = pw_g h115 125 2)).trans (by rw [← h115w]; exact pw_g_ne (by omega) : pw_g h115 125 2 = pw_g h112 125 2)).trans (pw_Ef h112E (by unfold pw_pf; omega) rfl : pw_g h112 125 2 = pw_g gh53 125 2)).trans hx53_5)⟩, ⟨_, rfl, by omega, by omega⟩⟩
                            · intro hc138
                              change ¬ ((0 : Int) ≤ pw_g h121 161 (Int.toNat 2)) at hc138
                              refine pw_bip E (pc' := 151) rfl rfl (by decide) ?_
                              refine pw_goto E (pc' := 160) rfl (by decide) ?_
                              refine pw_ast0 h121I E (c := 159) (pc' := 161) rfl rfl rfl (by decide) rfl (by decide) (by omega) (by omega) rfl (by omega) (by omega) (by omega) (by omega) rfl ?_
                              intro h139I h139E
                              generalize h139w : pw_w h121 159 (ix.toNat) (pw_i 11) = h139 at h139I h139E ⊢
                              have h139F := h121F.tr (h139E.wk (W' := [125, 127, 128, 129, 146, 147, 157, 158, 159, 160, 161, 1002]) (by first | rfl | simp))
                              have hl140 : ∀ j : Nat, pw_g h139 161 j = pw_g gh53 161 j := fun j => ((((by rw [← h139w]; exact pw_g_ne (by omega) : pw_g h139 161 j = pw_g h121 161 j)).trans (by rw [← h121w]; exact pw_g_ne (by omega) : pw_g h121 161 j = pw_g h115 161 j)).trans (by rw [← h115w]; exact pw_g_ne (by omega) : pw_g h115 161 j = pw_g h112 161 j)).trans (pw_Eg (c := 161) I53 h112E rfl rfl j : pw_g h112 161 j = pw_g gh53 161 j)
                              have hr141 : pw_g h139 161 (Int.toNat 3) ≤ 10 := by rw [hl140]; exact (hx53_2 (by omega)).2.2.2
                              refine pw_ld E (pc' := 162) (st' := [.ref 141]) rfl (fun _ => rfl) ?_
                              refine pw_getR (b := 176) h139I E (c := 125) (k := 49) (pc' := 165) rfl rfl rfl rfl rfl rfl rfl ?_
                              refine pw_ld E (pc' := 166) (st' := [pw_i ix, .ref 176]) rfl (fun _ => rfl) ?_
                              refine pw_ld E (pc' := 167) (st' := [.ref 141, pw_i ix, .ref 176]) rfl (fun _ => rfl) ?_
                              refine pw_getR (b := 177) h139I E (c := 125) (k := 50) (pc' := 170) rfl rfl rfl rfl rfl rfl rfl ?_
                              refine pw_ld E (pc' := 171) (st' := [pw_i 3, .ref 177, pw_i ix, .ref 176]) rfl (fun _ => rfl) ?_
                              refine pw_ald2 h139I E (c := 161) (pc' := 172) rfl rfl rfl (by decide) rfl (by decide) (by omega) (by omega) rfl (fun hf142a hf142b => ?_)
                              refine pw_ast0 h139I E (c := 160) (pc' := 173) rfl rfl rfl (by decide) rfl (by decide) (by omega) (by omega) rfl (by omega) (by omega) (by omega) (by omega) rfl ?_
                              intro h143I h143E
                              generalize h143w : pw_w h139 160 (ix.toNat) (pw_i (pw_g h139 161 (Int.toNat 3))) = h143 at h143I h143E ⊢
                              have h143F := h139F.tr (h143E.wk (W' := [125, 127, 128, 129, 146, 147, 157, 158, 159, 160, 161, 1002]) (by first | rfl | simp))
                              refine pw_ld E (pc' := 174) (st' := [pw_i 0]) rfl (fun _ => rfl) ?_
                              refine pw_iret E rfl ?_
                              have hl144 : ∀ j : Nat, pw_g h112 161 j = pw_g gh53 161 j := fun j => (pw_Eg (c := 161) I53 h112E rfl rfl j : pw_g h112 161 j = pw_g gh53 161 j)
                              have hl145 : ∀ j : Nat, pw_g h143 145 j = pw_g gh53 145 j := fun j => (((((by rw [← h143w]; exact pw_g_ne (by omega) : pw_g h143 145 j = pw_g h139 145 j)).trans (by rw [← h139w]; exact pw_g_ne (by omega) : pw_g h139 145 j = pw_g h121 145 j)).trans (by rw [← h121w]; exact pw_g_ne (by omega) : pw_g h121 145 j = pw_g h115 145 j)).trans (by rw [← h115w]; exact pw_g_ne (by omega) : pw_g h115 145 j = pw_g h112 145 j)).trans (pw_Eg (c := 145) I53 h112E rfl rfl j : pw_g h112 145 j = pw_g gh53 145 j)
                              have hl146 : ∀ j : Nat, pw_g h143 146 j = pw_g h112 146 j := fun j => ((((by rw [← h143w]; exact pw_g_ne (by omega) : pw_g h143 146 j = pw_g h139 146 j)).trans (by rw [← h139w]; exact pw_g_ne (by omega) : pw_g h139 146 j = pw_g h121 146 j)).trans (by rw [← h121w]; exact pw_g_ne (by omega) : pw_g h121 146 j = pw_g h115 146 j)).trans (by rw [← h115w]; exact pw_g_ne (by omega) : pw_g h115 146 j = pw_g h112 146 j)
                              have hl147 : ∀ j : Nat, pw_g h143 147 j = pw_g h112 147 j := fun j => ((((by rw [← h143w]; exact pw_g_ne (by omega) : pw_g h143 147 j = pw_g h139 147 j)).trans (by rw [← h139w]; exact pw_g_ne (by omega) : pw_g h139 147 j = pw_g h121 147 j)).trans (by rw [← h121w]; exact pw_g_ne (by omega) : pw_g h121 147 j = pw_g h115 147 j)).trans (by rw [← h115w]; exact pw_g_ne (by omega) : pw_g h115 147 j = pw_g h112 147 j)
                              have hl148 : ∀ j : Nat, pw_g h143 157 j = pw_g h115 157 j := fun j => (((by rw [← h143w]; exact pw_g_ne (by omega) : pw_g h143 157 j = pw_g h139 157 j)).trans (by rw [← h139w]; exact pw_g_ne (by omega) : pw_g h139 157 j = pw_g h121 157 j)).trans (by rw [← h121w]; exact pw_g_ne (by omega) : pw_g h121 157 j = pw_g h115 157 j)
                              have hl149 : ∀ j : Nat, pw_g h112 157 j = pw_g gh53 157 j := fun j => (pw_Eg (c := 157) I53 h112E rfl rfl j : pw_g h112 157 j = pw_g gh53 157 j)
                              have hw0 : pw_g h115 157 (ix.toNat) = pw_g h112 161 (Int.toNat 0) := by rw [← h115w]; exact pw_g_eqA h112I rfl (by omega) (by omega) (by omega)
                              have hw1 : ∀ j : Nat, j ≠ ix.toNat → pw_g h115 157 j = pw_g h112 157 j := fun j hj => by rw [← h115w]; exact pw_g_ne (fun q => hj q.2.symm)
                              have hkc : pw_KC gh53 h143 (5 + ix) (pw_g gh53 125 32) := ⟨fun j hj => ⟨(hl146 _).trans (hqkeep.1 j hj).1, (hl147 _).trans (hqkeep.1 j hj).2⟩, fun j hj => ⟨(hl146 _).trans (hqkeep.2 j hj).1, (hl147 _).trans (hqkeep.2 j hj).2⟩⟩
                              exact ⟨h143I, h143F, ⟨(hp0.of hx53_3.1 hx53_3.2.1 hx53_3.2.2).wri (L := pw_g gh53 161 0) (by omega) (by omega) (hx53_2 (by omega)).1 (by omega) ((hl148 _).trans (hw0.trans (hl144 0))) (fun j hj => (hl148 j).trans ((hw1 j hj).trans (hl149 j))) hkc hl145, (((((((by rw [← h143w]; exact pw_g_ne (by omega) : pw_g h143 125 2 = pw_g h139 125 2)).trans (by rw [← h139w]; exact pw_g_ne (by omega) : pw_g h139 125 2 = pw_g h121 125 2)).trans (by rw [← h121w]; exact pw_g_ne (by omega) : pw_g h121 125 2 = pw_g h115 125 2)).trans (by rw [← h115w]; exact pw_g_ne (by omega) : pw_g h115 125 2 = pw_g h112 125 2)).trans (pw_Ef h112E (by unfold pw_pf; omega) rfl : pw_g h112 125 2 = pw_g gh53 125 2)).trans hx53_5)⟩, ⟨_, rfl, by omega, by omega⟩⟩
                          · intro hc150
                            change ¬ ((0 : Int) ≤ pw_g h115 161 (Int.toNat 1)) at hc150
                            refine pw_ld E (pc' := 125) (st' := [pw_i 0, pw_i ix, .ref 174]) rfl (fun _ => rfl) ?_
                            refine pw_goto E (pc' := 134) rfl (by decide) ?_
                            refine pw_ast0 h115I E (c := 158) (pc' := 135) rfl rfl rfl (by decide) rfl (by decide) (by omega) (by omega) rfl (by omega) (by omega) (by omega) (by omega) rfl ?_
                            intro h151I h151E
                            generalize h151w : pw_w h115 158 (ix.toNat) (pw_i 0) = h151 at h151I h151E ⊢
                            have h151F := h115F.tr (h151E.wk (W' := [125, 127, 128, 129, 146, 147, 157, 158, 159, 160, 161, 1002]) (by first | rfl | simp))
                            have hl152 : ∀ j : Nat, pw_g h151 161 j = pw_g gh53 161 j := fun j => (((by rw [← h151w]; exact pw_g_ne (by omega) : pw_g h151 161 j = pw_g h115 161 j)).trans (by rw [← h115w]; exact pw_g_ne (by omega) : pw_g h115 161 j = pw_g h112 161 j)).trans (pw_Eg (c := 161) I53 h112E rfl rfl j : pw_g h112 161 j = pw_g gh53 161 j)
                            have hr153 : pw_g h151 161 (Int.toNat 2) ≤ 11 := by rw [hl152]; exact (hx53_2 (by omega)).2.2.1
                            refine pw_ld E (pc' := 136) (st' := [.ref 141]) rfl (fun _ => rfl) ?_
                            refine pw_getR (b := 175) h151I E (c := 125) (k := 48) (pc' := 139) rfl rfl rfl rfl rfl rfl rfl ?_
                            refine pw_ld E (pc' := 140) (st' := [pw_i ix, .ref 175]) rfl (fun _ => rfl) ?_
                            refine pw_ld E (pc' := 141) (st' := [.ref 141, pw_i ix, .ref 175]) rfl (fun _ => rfl) ?_
                            refine pw_getR (b := 177) h151I E (c := 125) (k := 50) (pc' := 144) rfl rfl rfl rfl rfl rfl rfl ?_
                            refine pw_ld E (pc' := 145) (st' := [pw_i 2, .ref 177, pw_i ix, .ref 175]) rfl (fun _ => rfl) ?_
                            refine pw_ald2 h151I E (c := 161) (pc' := 146) rfl rfl rfl (by decide) rfl (by decide) (by omega) (by omega) rfl (fun hf154a hf154b => ?_)
                            refine pw_if E (pc' := 154) rfl (by decide) (by omega) (by omega) ?_ ?_
                            · intro hc155
                              change (0 : Int) ≤ pw_g h151 161 (Int.toNat 2) at hc155
                              refine pw_ld E (pc' := 155) (st' := [.ref 141, pw_i ix, .ref 175]) rfl (fun _ => rfl) ?_
                              refine pw_getR (b := 177) h151I E (c := 125) (k := 50) (pc' := 158) rfl rfl rfl rfl rfl rfl rfl ?_
                              refine pw_ld E (pc' := 159) (st' := [pw_i 2, .ref 177, pw_i ix, .ref 175]) rfl (fun _ => rfl) ?_
                              refine pw_ald2 h151I E (c := 161) (pc' := 160) rfl rfl rfl (by decide) rfl (by decide) (by omega) (by omega) rfl (fun hf156a hf156b => ?_)
                              refine pw_ast0 h151I E (c := 159) (pc' := 161) rfl rfl rfl (by decide) rfl (by decide) (by omega) (by omega) rfl (by omega) (by omega) (by omega) (by omega) rfl ?_
                              intro h157I h157E
                              generalize h157w : pw_w h151 159 (ix.toNat) (pw_i (pw_g h151 161 (Int.toNat 2))) = h157 at h157I h157E ⊢
                              have h157F := h151F.tr (h157E.wk (W' := [125, 127, 128, 129, 146, 147, 157, 158, 159, 160, 161, 1002]) (by first | rfl | simp))
                              have hl158 : ∀ j : Nat, pw_g h157 161 j = pw_g gh53 161 j := fun j => ((((by rw [← h157w]; exact pw_g_ne (by omega) : pw_g h157 161 j = pw_g h151 161 j)).trans (by rw [← h151w]; exact pw_g_ne (by omega) : pw_g h151 161 j = pw_g h115 161 j)).trans (by rw [← h115w]; exact pw_g_ne (by omega) : pw_g h115 161 j = pw_g h112 161 j)).trans (pw_Eg (c := 161) I53 h112E rfl rfl j : pw_g h112 161 j = pw_g gh53 161 j)
                              have hr159 : pw_g h157 161 (Int.toNat 3) ≤ 10 := by rw [hl158]; exact (hx53_2 (by omega)).2.2.2
                              refine pw_ld E (pc' := 162) (st' := [.ref 141]) rfl (fun _ => rfl) ?_
                              refine pw_getR (b := 176) h157I E (c := 125) (k := 49) (pc' := 165) rfl rfl rfl rfl rfl rfl rfl ?_
                              refine pw_ld E (pc' := 166) (st' := [pw_i ix, .ref 176]) rfl (fun _ => rfl) ?_
                              refine pw_ld E (pc' := 167) (st' := [.ref 141, pw_i ix, .ref 176]) rfl (fun _ => rfl) ?_
                              refine pw_getR (b := 177) h157I E (c := 125) (k := 50) (pc' := 170) rfl rfl rfl rfl rfl rfl rfl ?_
                              refine pw_ld E (pc' := 171) (st' := [pw_i 3, .ref 177, pw_i ix, .ref 176]) rfl (fun _ => rfl) ?_
                              refine pw_ald2 h157I E (c := 161) (pc' := 172) rfl rfl rfl (by decide) rfl (by decide) (by omega) (by omega) rfl (fun hf160a hf160b => ?_)
                              refine pw_ast0 h157I E (c := 160) (pc' := 173) rfl rfl rfl (by decide) rfl (by decide) (by omega) (by omega) rfl (by omega) (by omega) (by omega) (by omega) rfl ?_
                              intro h161I h161E
                              generalize h161w : pw_w h157 160 (ix.toNat) (pw_i (pw_g h157 161 (Int.toNat 3))) = h161 at h161I h161E ⊢
                              have h161F := h157F.tr (h161E.wk (W' := [125, 127, 128, 129, 146, 147, 157, 158, 159, 160, 161, 1002]) (by first | rfl | simp))
                              refine pw_ld E (pc' := 174) (st' := [pw_i 0]) rfl (fun _ => rfl) ?_
                              refine pw_iret E rfl ?_
                              have hl162 : ∀ j : Nat, pw_g h112 161 j = pw_g gh53 161 j := fun j => (pw_Eg (c := 161) I53 h112E rfl rfl j : pw_g h112 161 j = pw_g gh53 161 j)
                              have hl163 : ∀ j : Nat, pw_g h161 145 j = pw_g gh53 145 j := fun j => (((((by rw [← h161w]; exact pw_g_ne (by omega) : pw_g h161 145 j = pw_g h157 145 j)).trans (by rw [← h157w]; exact pw_g_ne (by omega) : pw_g h157 145 j = pw_g h151 145 j)).trans (by rw [← h151w]; exact pw_g_ne (by omega) : pw_g h151 145 j = pw_g h115 145 j)).trans (by rw [← h115w]; exact pw_g_ne (by omega) : pw_g h115 145 j = pw_g h112 145 j)).trans (pw_Eg (c := 145) I53 h112E rfl rfl j : pw_g h112 145 j = pw_g gh53 145 j)
                              have hl164 : ∀ j : Nat, pw_g h161 146 j = pw_g h112 146 j := fun j => ((((by rw [← h161w]; exact pw_g_ne (by omega) : pw_g h161 146 j = pw_g h157 146 j)).trans (by rw [← h157w]; exact pw_g_ne (by omega) : pw_g h157 146 j = pw_g h151 146 j)).trans (by rw [← h151w]; exact pw_g_ne (by omega) : pw_g h151 146 j = pw_g h115 146 j)).trans (by rw [← h115w]; exact pw_g_ne (by omega) : pw_g h115 146 j = pw_g h112 146 j)
                              have hl165 : ∀ j : Nat, pw_g h161 147 j = pw_g h112 147 j := fun j => ((((by rw [← h161w]; exact pw_g_ne (by omega) : pw_g h161 147 j = pw_g h157 147 j)).trans (by rw [← h157w]; exact pw_g_ne (by omega) : pw_g h157 147 j = pw_g h151 147 j)).trans (by rw [← h151w]; exact pw_g_ne (by omega) : pw_g h151 147 j = pw_g h115 147 j)).trans (by rw [← h115w]; exact pw_g_ne (by omega) : pw_g h115 147 j = pw_g h112 147 j)
                              have hl166 : ∀ j : Nat, pw_g h161 157 j = pw_g h115 157 j := fun j => (((by rw [← h161w]; exact pw_g_ne (by omega) : pw_g h161 157 j = pw_g h157 157 j)).trans (by rw [← h157w]; exact pw_g_ne (by omega) : pw_g h157 157 j = pw_g h151 157 j)).trans (by rw [← h151w]; exact pw_g_ne (by omega) : pw_g h151 157 j = pw_g h115 157 j)
                              have hl167 : ∀ j : Nat, pw_g h112 157 j = pw_g gh53 157 j := fun j => (pw_Eg (c := 157) I53 h112E rfl rfl j : pw_g h112 157 j = pw_g gh53 157 j)
                              have hw0 : pw_g h115 157 (ix.toNat) = pw_g h112 161 (Int.toNat 0) := by rw [← h115w]; exact pw_g_eqA h112I rfl (by omega) (by omega) (by omega)
                              have hw1 : ∀ j : Nat, j ≠ ix.toNat → pw_g h115 157 j = pw_g h112 157 j := fun j hj => by rw [← h115w]; exact pw_g_ne (fun q => hj q.2.symm)
                              have hkc : pw_KC gh53 h161 (5 + ix) (pw_g gh53 125 32) := ⟨fun j hj => ⟨(hl164 _).trans (hqkeep.1 j hj).1, (hl165 _).trans (hqkeep.1 j hj).2⟩, fun j hj => ⟨(hl164 _).trans (hqkeep.2 j hj).1, (hl165 _).trans (hqkeep.2 j hj).2⟩⟩
                              exact ⟨h161I, h161F, ⟨(hp0.of hx53_3.1 hx53_3.2.1 hx53_3.2.2).wri (L := pw_g gh53 161 0) (by omega) (by omega) (hx53_2 (by omega)).1 (by omega) ((hl166 _).trans (hw0.trans (hl162 0))) (fun j hj => (hl166 j).trans ((hw1 j hj).trans (hl167 j))) hkc hl163, (((((((by rw [← h161w]; exact pw_g_ne (by omega) : pw_g h161 125 2 = pw_g h157 125 2)).trans (by rw [← h157w]; exact pw_g_ne (by omega) : pw_g h157 125 2 = pw_g h151 125 2)).trans (by rw [← h151w]; exact pw_g_ne (by omega) : pw_g h151 125 2 = pw_g h115 125 2)).trans (by rw [← h115w]; exact pw_g_ne (by omega) : pw_g h115 125 2 = pw_g h112 125 2)).trans (pw_Ef h112E (by unfold pw_pf; omega) rfl : pw_g h112 125 2 = pw_g gh53 125 2)).trans hx53_5)⟩, ⟨_, rfl, by omega, by omega⟩⟩
                            · intro hc168
                              change ¬ ((0 : Int) ≤ pw_g h151 161 (Int.toNat 2)) at hc168
                              refine pw_bip E (pc' := 151) rfl rfl (by decide) ?_
                              refine pw_goto E (pc' := 160) rfl (by decide) ?_
                              refine pw_ast0 h151I E (c := 159) (pc' := 161) rfl rfl rfl (by decide) rfl (by decide) (by omega) (by omega) rfl (by omega) (by omega) (by omega) (by omega) rfl ?_
                              intro h169I h169E
                              generalize h169w : pw_w h151 159 (ix.toNat) (pw_i 11) = h169 at h169I h169E ⊢
                              have h169F := h151F.tr (h169E.wk (W' := [125, 127, 128, 129, 146, 147, 157, 158, 159, 160, 161, 1002]) (by first | rfl | simp))
                              have hl170 : ∀ j : Nat, pw_g h169 161 j = pw_g gh53 161 j := fun j => ((((by rw [← h169w]; exact pw_g_ne (by omega) : pw_g h169 161 j = pw_g h151 161 j)).trans (by rw [← h151w]; exact pw_g_ne (by omega) : pw_g h151 161 j = pw_g h115 161 j)).trans (by rw [← h115w]; exact pw_g_ne (by omega) : pw_g h115 161 j = pw_g h112 161 j)).trans (pw_Eg (c := 161) I53 h112E rfl rfl j : pw_g h112 161 j = pw_g gh53 161 j)
                              have hr171 : pw_g h169 161 (Int.toNat 3) ≤ 10 := by rw [hl170]; exact (hx53_2 (by omega)).2.2.2
                              refine pw_ld E (pc' := 162) (st' := [.ref 141]) rfl (fun _ => rfl) ?_
                              refine pw_getR (b := 176) h169I E (c := 125) (k := 49) (pc' := 165) rfl rfl rfl rfl rfl rfl rfl ?_
                              refine pw_ld E (pc' := 166) (st' := [pw_i ix, .ref 176]) rfl (fun _ => rfl) ?_
                              refine pw_ld E (pc' := 167) (st' := [.ref 141, pw_i ix, .ref 176]) rfl (fun _ => rfl) ?_
                              refine pw_getR (b := 177) h169I E (c := 125) (k := 50) (pc' := 170) rfl rfl rfl rfl rfl rfl rfl ?_
                              refine pw_ld E (pc' := 171) (st' := [pw_i 3, .ref 177, pw_i ix, .ref 176]) rfl (fun _ => rfl) ?_
                              refine pw_ald2 h169I E (c := 161) (pc' := 172) rfl rfl rfl (by decide) rfl (by decide) (by omega) (by omega) rfl (fun hf172a hf172b => ?_)
                              refine pw_ast0 h169I E (c := 160) (pc' := 173) rfl rfl rfl (by decide) rfl (by decide) (by omega) (by omega) rfl (by omega) (by omega) (by omega) (by omega) rfl ?_
                              intro h173I h173E
                              generalize h173w : pw_w h169 160 (ix.toNat) (pw_i (pw_g h169 161 (Int.toNat 3))) = h173 at h173I h173E ⊢
                              have h173F := h169F.tr (h173E.wk (W' := [125, 127, 128, 129, 146, 147, 157, 158, 159, 160, 161, 1002]) (by first | rfl | simp))
                              refine pw_ld E (pc' := 174) (st' := [pw_i 0]) rfl (fun _ => rfl) ?_
                              refine pw_iret E rfl ?_
                              have hl174 : ∀ j : Nat, pw_g h112 161 j = pw_g gh53 161 j := fun j => (pw_Eg (c := 161) I53 h112E rfl rfl j : pw_g h112 161 j = pw_g gh53 161 j)
                              have hl175 : ∀ j : Nat, pw_g h173 145 j = pw_g gh53 145 j := fun j => (((((by rw [← h173w]; exact pw_g_ne (by omega) : pw_g h173 145 j = pw_g h169 145 j)).trans (by rw [← h169w]; exact pw_g_ne (by omega) : pw_g h169 145 j = pw_g h151 145 j)).trans (by rw [← h151w]; exact pw_g_ne (by omega) : pw_g h151 145 j = pw_g h115 145 j)).trans (by rw [← h115w]; exact pw_g_ne (by omega) : pw_g h115 145 j = pw_g h112 145 j)).trans (pw_Eg (c := 145) I53 h112E rfl rfl j : pw_g h112 145 j = pw_g gh53 145 j)
                              have hl176 : ∀ j : Nat, pw_g h173 146 j = pw_g h112 146 j := fun j => ((((by rw [← h173w]; exact pw_g_ne (by omega) : pw_g h173 146 j = pw_g h169 146 j)).trans (by rw [← h169w]; exact pw_g_ne (by omega) : pw_g h169 146 j = pw_g h151 146 j)).trans (by rw [← h151w]; exact pw_g_ne (by omega) : pw_g h151 146 j = pw_g h115 146 j)).trans (by rw [← h115w]; exact pw_g_ne (by omega) : pw_g h115 146 j = pw_g h112 146 j)
                              have hl177 : ∀ j : Nat, pw_g h173 147 j = pw_g h112 147 j := fun j => ((((by rw [← h173w]; exact pw_g_ne (by omega) : pw_g h173 147 j = pw_g h169 147 j)).trans (by rw [← h169w]; exact pw_g_ne (by omega) : pw_g h169 147 j = pw_g h151 147 j)).trans (by rw [← h151w]; exact pw_g_ne (by omega) : pw_g h151 147 j = pw_g h115 147 j)).trans (by rw [← h115w]; exact pw_g_ne (by omega) : pw_g h115 147 j = pw_g h112 147 j)
                              have hl178 : ∀ j : Nat, pw_g h173 157 j = pw_g h115 157 j := fun j => (((by rw [← h173w]; exact pw_g_ne (by omega) : pw_g h173 157 j = pw_g h169 157 j)).trans (by rw [← h169w]; exact pw_g_ne (by omega) : pw_g h169 157 j = pw_g h151 157 j)).trans (by rw [← h151w]; exact pw_g_ne (by omega) : pw_g h151 157 j = pw_g h115 157 j)
                              have hl179 : ∀ j : Nat, pw_g h112 157 j = pw_g gh53 157 j := fun j => (pw_Eg (c := 157) I53 h112E rfl rfl j : pw_g h112 157 j = pw_g gh53 157 j)
                              have hw0 : pw_g h115 157 (ix.toNat) = pw_g h112 161 (Int.toNat 0) := by rw [← h115w]; exact pw_g_eqA h112I rfl (by omega) (by omega) (by omega)
                              have hw1 : ∀ j : Nat, j ≠ ix.toNat → pw_g h115 157 j = pw_g h112 157 j := fun j hj => by rw [← h115w]; exact pw_g_ne (fun q => hj q.2.symm)
                              have hkc : pw_KC gh53 h173 (5 + ix) (pw_g gh53 125 32) := ⟨fun j hj => ⟨(hl176 _).trans (hqkeep.1 j hj).1, (hl177 _).trans (hqkeep.1 j hj).2⟩, fun j hj => ⟨(hl176 _).trans (hqkeep.2 j hj).1, (hl177 _).trans (hqkeep.2 j hj).2⟩⟩
                              exact ⟨h173I, h173F, ⟨(hp0.of hx53_3.1 hx53_3.2.1 hx53_3.2.2).wri (L := pw_g gh53 161 0) (by omega) (by omega) (hx53_2 (by omega)).1 (by omega) ((hl178 _).trans (hw0.trans (hl174 0))) (fun j hj => (hl178 j).trans ((hw1 j hj).trans (hl179 j))) hkc hl175, (((((((by rw [← h173w]; exact pw_g_ne (by omega) : pw_g h173 125 2 = pw_g h169 125 2)).trans (by rw [← h169w]; exact pw_g_ne (by omega) : pw_g h169 125 2 = pw_g h151 125 2)).trans (by rw [← h151w]; exact pw_g_ne (by omega) : pw_g h151 125 2 = pw_g h115 125 2)).trans (by rw [← h115w]; exact pw_g_ne (by omega) : pw_g h115 125 2 = pw_g h112 125 2)).trans (pw_Ef h112E (by unfold pw_pf; omega) rfl : pw_g h112 125 2 = pw_g gh53 125 2)).trans hx53_5)⟩, ⟨_, rfl, by omega, by omega⟩⟩
                        · intro hc180
                          change ¬ (pw_g gh53 125 8 ≤ (0 : Int)) at hc180
                          exfalso; omega
                      · intro hc181
                        change ¬ (pw_g gh53 127 ((pw_g gh53 125 7).toNat) = (0 : Int)) at hc181
                        have hA53 : pw_g gh53 125 7 ≤ n ∧ 0 ≤ pw_g gh53 125 8 ∧ 0 ≤ pw_g gh53 125 7 ∧ 0 ≤ pw_g gh53 125 32 := hx53_0.2.2
                        have hn1 : n ≤ 1000 := hx53_0.1
                        refine pw_ld E (pc' := 73) (st' := [.ref 141]) rfl (fun _ => rfl) ?_
                        obtain ⟨f182l, f182h, -⟩ := pw_obj (c := 125) I53 rfl
                        refine pw_call (m' := 279) (As := [.ref 141]) (rest := []) (ls'' := [some (.ref 141), none, none]) (Nat.le_trans (by decide) hd) E rfl (fun _ => pw_iV rfl rfl rfl rfl (pw_cellI f182h rfl)) (rfl : pm_ent 279 = some (1, 3, 12, 4, pmc_279)) rfl rfl (cm_279 (pw_dp hd (by decide)) I53 hx53_0 (by omega) hx53_4 hx53_2) ?_
                        rintro h183 v184 ⟨h183I, h183E, ⟨rA, rQ, rL⟩, rfl⟩
                        refine ⟨_, rfl, ?_⟩
                        have h183F := E53.tr (h183E.wk (W' := [125, 127, 128, 129, 146, 147, 157, 158, 159, 160, 161, 1002]) (by first | rfl | simp))
                        have rf : pw_g h183 125 7 ≤ n ∧ 0 ≤ pw_g h183 125 8 ∧ 0 ≤ pw_g h183 125 7 ∧ 0 ≤ pw_g h183 125 32 := rA.2.2
                        have rq : pw_g gh53 125 7 - pw_g gh53 125 32 + 0 ≤ pw_g h183 125 7 - pw_g h183 125 32 ∧ pw_g gh53 125 7 ≤ pw_g h183 125 7 := ⟨rQ.2.2.2.1, rQ.2.1⟩
                        have rp : pw_g h183 125 8 = 0 → pw_g gh53 125 7 < pw_g h183 125 7 := fun q => (rL q).2
                        have rV : pw_NV n h183 := pw_NV.E I53 h183E hx53_4 rfl
                        have rO : pw_O gh53 h183 := pw_O.q (by omega) rQ (fun j _ => pw_Eg (c := 145) I53 h183E rfl rfl j) (pw_Eg (c := 157) I53 h183E rfl rfl)
                        show pw X d h183 277 76 [some (.ref 141), some (pw_i ix), some (pw_i ((((0 + 1) + 1) + 1) + 1))] [] _
                        have r2 : pw_g h183 125 2 = pw_g gh53 125 2 := pw_Ef h183E (Or.inl rfl) rfl
                        refine pw_goto E (pc' := 53) rfl (by decide) ?_
                        exact ih53 _ (by omega)  h183 h183I h183F  rA (by omega) (fun q => (rL q).1) (hx53_3.tr rO) rV (by omega) rfl
                have he185 : pw_g h23 125 7 = pw_g h20 125 7 := by rw [← h23w]; exact pw_g_ne (by omega)
                have he186 : pw_g h20 125 7 = pw_g h17 125 7 := by rw [← h20w]; exact pw_g_ne (by omega)
                have he187 : pw_g h17 125 7 = pw_g h14 125 7 := by rw [← h17w]; exact pw_g_ne (by omega)
                have he188 : pw_g h14 125 7 = pw_g h11 125 7 := by rw [← h14w]; exact pw_g_ne (by omega)
                have he189 : pw_g h11 125 7 = pw_g h10 125 7 := by rw [← h11w]; exact pw_g_ne (by omega)
                have he190 : pw_g h10 125 7 = pw_g h8 125 7 := by rw [← h10w]; exact pw_g_ne (by omega)
                have he191 : pw_g h23 125 8 = pw_g h20 125 8 := by rw [← h23w]; exact pw_g_ne (by omega)
                have he192 : pw_g h20 125 8 = pw_g h17 125 8 := by rw [← h20w]; exact pw_g_ne (by omega)
                have he193 : pw_g h17 125 8 = pw_g h14 125 8 := by rw [← h17w]; exact pw_g_ne (by omega)
                have he194 : pw_g h14 125 8 = pw_g h11 125 8 := by rw [← h14w]; exact pw_g_ne (by omega)
                have he195 : pw_g h11 125 8 = pw_g h10 125 8 := by rw [← h11w]; exact pw_g_ne (by omega)
                have he196 : pw_g h10 125 8 = pw_g h8 125 8 := by rw [← h10w]; exact pw_g_ne (by omega)
                have he197 : pw_g h23 125 32 = pw_g h20 125 32 := by rw [← h23w]; exact pw_g_ne (by omega)
                have he198 : pw_g h20 125 32 = pw_g h17 125 32 := by rw [← h20w]; exact pw_g_ne (by omega)
                have he199 : pw_g h17 125 32 = pw_g h14 125 32 := by rw [← h17w]; exact pw_g_ne (by omega)
                have he200 : pw_g h14 125 32 = pw_g h11 125 32 := by rw [← h14w]; exact pw_g_ne (by omega)
                have he201 : pw_g h11 125 32 = pw_g h10 125 32 := by rw [← h11w]; exact pw_g_ne (by omega)
                have he202 : pw_g h10 125 32 = 0 := by rw [← h10w]; exact pw_g_eq (c := 125) (k := 32) h8I rfl rfl (by omega) (by omega)
                have he203 : pw_g h23 125 2 = pw_g h20 125 2 := by rw [← h23w]; exact pw_g_ne (by omega)
                have he204 : pw_g h20 125 2 = pw_g h17 125 2 := by rw [← h20w]; exact pw_g_ne (by omega)
                have he205 : pw_g h17 125 2 = pw_g h14 125 2 := by rw [← h17w]; exact pw_g_ne (by omega)
                have he206 : pw_g h14 125 2 = pw_g h11 125 2 := by rw [← h14w]; exact pw_g_ne (by omega)
                have he207 : pw_g h11 125 2 = pw_g h10 125 2 := by rw [← h11w]; exact pw_g_ne (by omega)
                have he208 : pw_g h10 125 2 = pw_g h8 125 2 := by rw [← h10w]; exact pw_g_ne (by omega)
                exact L53 _  h23 h23I h23F  bA (by omega) (fun _ => bL) bO bV (by omega) rfl
              · intro hc209
                change ¬ ((4 : Int) ≤ (((0 + 1) + 1) + 1) + 1) at hc209
                exfalso; omega
    · intro hc210
      change ¬ (x4 ≠ (0 : Int)) at hc210
      exfalso; omega
  · skip
    refine pw_if E (pc' := 19) rfl (by decide) (by omega) (by omega) ?_ ?_
    · intro hc212
      change x4 ≠ (0 : Int) at hc212
      exfalso; omega
    · intro hc213
      change ¬ (x4 ≠ (0 : Int)) at hc213
      refine pw_ld E (pc' := 13) (st' := [.ref 141]) rfl (fun _ => rfl) ?_
      refine pw_ld E (pc' := 14) (st' := [pw_i 0, .ref 141]) rfl (fun _ => rfl) ?_
      refine pw_putP h1I E (k := 2) (pc' := 17) rfl rfl rfl rfl (by omega) (by omega) (by omega) (by omega) rfl rfl ?_
      intro h214I h214E
      generalize h214w : pw_w h1 125 2 (pw_i 0) = h214 at h214I h214E ⊢
      have h214F := h1F.tr (h214E.wk (W' := [125, 127, 128, 129, 146, 147, 157, 158, 159, 160, 161, 1002]) (by first | rfl | simp))
      refine pw_ld E (pc' := 18) (st' := [pw_i ((-1))]) rfl (fun _ => rfl) ?_
      refine pw_iret E rfl ?_
      have hl215 : ∀ j : Nat, pw_g h214 145 j = pw_g h 145 j := fun j => ((by rw [← h214w]; exact pw_g_ne (by omega) : pw_g h214 145 j = pw_g h1 145 j)).trans (by rw [← h1w]; exact pw_g_ne (by omega) : pw_g h1 145 j = pw_g h 145 j)
      have hl216 : ∀ j : Nat, pw_g h214 146 j = pw_g h 146 j := fun j => ((by rw [← h214w]; exact pw_g_ne (by omega) : pw_g h214 146 j = pw_g h1 146 j)).trans (by rw [← h1w]; exact pw_g_ne (by omega) : pw_g h1 146 j = pw_g h 146 j)
      have hl217 : ∀ j : Nat, pw_g h214 147 j = pw_g h 147 j := fun j => ((by rw [← h214w]; exact pw_g_ne (by omega) : pw_g h214 147 j = pw_g h1 147 j)).trans (by rw [← h1w]; exact pw_g_ne (by omega) : pw_g h1 147 j = pw_g h 147 j)
      have hl218 : ∀ j : Nat, pw_g h214 157 j = pw_g h 157 j := fun j => ((by rw [← h214w]; exact pw_g_ne (by omega) : pw_g h214 157 j = pw_g h1 157 j)).trans (by rw [← h1w]; exact pw_g_ne (by omega) : pw_g h1 157 j = pw_g h 157 j)
      exact ⟨h214I, h214F, ⟨hp0.cg hl215 hl216 hl217 hl218, (by rw [← h214w]; exact pw_g_eq (c := 125) (k := 2) h1I rfl rfl (by omega) (by omega))⟩, ⟨_, rfl, by omega, by omega⟩⟩

