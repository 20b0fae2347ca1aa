/-! feed, as a call -/
section Pf
variable {X : List (Nat × List Value)} {N d : Nat} {h : pm_H}
theorem pf_inv {ih : pm_I} {m own pc len ix ci m' na t : Nat} {ls : pm_L} {st As fs : List Value} {e : pm_M} {h' : pm_H} {v : Option Value} (hl : pm_get (pm_lnk own) ix = some (1, m', na, ci)) (hp : pm_pop na st [] = some (.ref t :: As, [])) (hc : pm_cell h t = some (.inr (ci, fs))) (ho : Nat.beq own 13 = false) (he : pm_ent m' = some e) (hlen : (pm_lay (.ref t :: As) e.2.1).length = e.2.1) (hr : ih d h m' 0 (pm_lay (.ref t :: As) e.2.1) [] = some (h', .inl v)) : pm_gInv X 1 ix ih (d + 1) h m own pc len ls st = ih (d + 1) h' m (pc + 3) ls v.toList := by
  unfold pm_gInv
  rw [hl]
  dsimp only
  rw [show Nat.beq 1 12 = false from rfl, cond_false, hp]
  dsimp only
  rw [show pm_cat8 [] = true from rfl, cond_true, Nat.beq_refl, cond_true]
  unfold pm_gC
  dsimp only
  rw [hc]
  dsimp only
  rw [Nat.beq_refl, cond_true, pz_call_eq he hlen, hr]
  show (pm_fn (pc + 3) fun q => ih (d + 1) h' m q ls (v.toList ++ [])) = _
  rw [pm_fn_eq, List.append_nil]
theorem pf_97 {a b : Nat} {w : Int64} {fs : List Value} (ha : a < h.length) (hb : b < h.length) (hab : a ≠ b) (hf : fs[0]? = some (.ref (16 + b))) (hk : 1 < fs.length) (l : List Value) (n : Nat) (hn : n + 8 < 1000) (hl : l.length = 1000) : pm_x X (N + 500) (d + 1) (pf_G h a b 9 1 2 fs l n) 97 0 (pm_lay [.ref (16 + a), .long w] 6) [] = some (pf_G h a b 9 1 2 fs (pf_fd pf_b97 pf_c97 w 8 l n).1 (pf_fd pf_b97 pf_c97 w 8 l n).2, .inl none) := by
  have e : pm_lay [.ref (16 + a), .long w] 6 = [some (.ref (16 + a)), some (.long w), none, none, none, none] := rfl
  rw [e, pf_97i (N := N + 498), show (56 : Int32) = pf_sh 8 from by decide +kernel]
  exact pf_97L ha hb hab hf hk 8 (Nat.le_refl _) _ (by omega) _ _ _ _ hn hl
theorem pf_199 {a b : Nat} {w : Int64} {fs : List Value} (ha : a < h.length) (hb : b < h.length) (hab : a ≠ b) (hf : fs[1]? = some (.ref (16 + b))) (hk : 2 < fs.length) (l : List Value) (n : Nat) (hn : n + 8 < 1000) (hl : l.length = 1000) : pm_x X (N + 500) d (pf_G h a b 12 2 0 fs l n) 199 0 (pm_lay [.ref (16 + a), .long w] 5) [] = some (pf_G h a b 12 2 0 fs (pf_fd pf_b199 id w 8 l n).1 (pf_fd pf_b199 id w 8 l n).2, .inl none) := by
  have e : pm_lay [.ref (16 + a), .long w] 5 = [some (.ref (16 + a)), some (.long w), none, none, none] := rfl
  rw [e, pf_199i (N := N + 498), show (56 : Int32) = pf_sh 8 from by decide +kernel]
  exact pf_199L ha hb hab hf hk 8 (Nat.le_refl _) _ (by omega) _ _ _ hn hl
theorem pf_len (bf : Int64 → Int32 → Int32) (cf : Int32 → Int32) (w : Int64) : ∀ j l n, (pf_fd bf cf w j l n).1.length = l.length ∧ (pf_fd bf cf w j l n).2 ≤ n + j
  | 0, l, n => ⟨rfl, Nat.le_refl _⟩
  | j + 1, l, n => by
    unfold pf_fd
    split
    · obtain ⟨h1, h2⟩ := pf_len bf cf w j (l.set n (.int (cf (bf w (pf_sh (j + 1)))))) (n + 1)
      exact ⟨by rw [h1, List.length_set], by omega⟩
    · obtain ⟨h1, h2⟩ := pf_len bf cf w j l n
      exact ⟨h1, by omega⟩
theorem pf_cnt {bf bf' : Int64 → Int32 → Int32} {cf cf' : Int32 → Int32} {w : Int64} (hb : ∀ j, j < 8 → bf w (pf_sh (j + 1)) = bf' w (pf_sh (j + 1))) : ∀ j, j ≤ 8 → ∀ l l' n, (pf_fd bf cf w j l n).2 = (pf_fd bf' cf' w j l' n).2
  | 0, _, l, l', n => rfl
  | j + 1, hj, l, l', n => by
    unfold pf_fd
    rw [hb j (by omega)]
    split
    · exact pf_cnt hb j (by omega) _ _ _
    · exact pf_cnt hb j (by omega) _ _ _
theorem pf_255 : ∀ i, i < 32 → (255#64).getLsbD i = decide (i < 8) ∧ (255#32).getLsbD i = decide (i < 8) := by decide +kernel
theorem pf_bv (x : BitVec 64) (s : Nat) (hs : s + 8 ≤ 64) : ((x >>> s) &&& 255#64).setWidth 32 = (x.sshiftRight s).setWidth 32 &&& 255#32 := by
  apply BitVec.eq_of_getLsbD_eq
  intro i hi
  obtain ⟨h1, h2⟩ := pf_255 i hi
  rw [BitVec.getLsbD_setWidth, BitVec.getLsbD_and, BitVec.getLsbD_ushiftRight, BitVec.getLsbD_and, BitVec.getLsbD_setWidth, BitVec.getLsbD_sshiftRight, h1, h2]
  by_cases h8 : i < 8
  · rw [if_pos (show s + i < 64 by omega), decide_eq_true h8, decide_eq_true hi, decide_eq_false (show ¬ 64 ≤ i by omega)]
    cases x.getLsbD (s + i) <;> rfl
  · rw [decide_eq_false h8, Bool.and_false, Bool.and_false, Bool.and_false]
theorem pf_by (w : Int64) : ∀ j, j < 8 → pf_b97 w (pf_sh (j + 1)) = pf_b199 w (pf_sh (j + 1)) := by
  intro j hj
  have e1 : ∀ j, j < 8 → ((pf_sh (j + 1)).toInt64.toUInt64 &&& Int64.toUInt64 63) = UInt64.ofNat (8 * j) ∧ ((pf_sh (j + 1)).toInt64 &&& 63) = Int64.ofNat (8 * j) := by decide +kernel
  have e2 : ∀ j, j < 8 → (UInt64.ofNat (8 * j)).toBitVec % 64 = BitVec.ofNat 64 (8 * j) ∧ (Int64.ofNat (8 * j)).toBitVec.smod 64 = BitVec.ofNat 64 (8 * j) ∧ (BitVec.ofNat 64 (8 * j)).toNat = 8 * j := by decide +kernel
  obtain ⟨q1, q2⟩ := e1 j hj
  obtain ⟨r1, r2, r3⟩ := e2 j hj
  unfold pf_b97 pf_b199
  rw [q1, q2]
  apply Int32.toBitVec_inj.mp
  rw [Int32.toBitVec_and, Int64.toBitVec_toInt32, Int64.toBitVec_toInt32, Int64.toBitVec_and, BitVec.signExtend_eq_setWidth_of_le _ (by decide), BitVec.signExtend_eq_setWidth_of_le _ (by decide), Int64.toBitVec_shiftRight, r2]
  rw [show ((w.toUInt64 >>> UInt64.ofNat (8 * j)).toInt64).toBitVec = w.toBitVec >>> (8 * j) from by
    show (w.toUInt64 >>> UInt64.ofNat (8 * j)).toBitVec = _
    rw [UInt64.toBitVec_shiftRight, r1]
    show w.toBitVec >>> (BitVec.ofNat 64 (8 * j)) = _
    rw [BitVec.ushiftRight_eq', r3]]
  rw [BitVec.sshiftRight_eq', r3]
  exact pf_bv w.toBitVec (8 * j) (by omega)
theorem pf_G3 {a b c ci k ta n : Nat} {fs l : List Value} {q : pm_C} (hc : h[c]? = some q) (h1 : a ≠ c) (h2 : b ≠ c) : pm_cell (pf_G h a b ci k ta fs l n) (16 + c) = some q := by
  unfold pm_cell pf_G
  rw [show Nat.blt (16 + c) 16 = false from by
    cases hb : Nat.blt (16 + c) 16 with
    | false => rfl
    | true => have := pm_blt hb; omega]
  rw [cond_false, pm_nth_eq, show 16 + c - 16 = c by omega, List.getElem?_set_ne h2, List.getElem?_set_ne h1, hc]
/-- the class' feed -/
theorem pf_140 {a b c : Nat} {w1 w2 w3 : Int64} {fs gs : List Value} (ha : a < h.length) (hb : b < h.length) (hab : a ≠ b) (hac : a ≠ c) (hbc : b ≠ c) (hc : h[c]? = some (.inr (11, gs))) (hg : gs[10]? = some (.ref (16 + a))) (hf : fs[0]? = some (.ref (16 + b))) (hk : 1 < fs.length) (l : List Value) (n : Nat) (hn : n + 24 < 1000) (hl : l.length = 1000) :
    pm_x X (N + 600) (d + 2) (pf_G h a b 9 1 2 fs l n) 140 0 (pm_lay [.ref (16 + c), .long w1, .long w2, .long w3] 7) [] = (fun p : List Value × Nat => some (pf_G h a b 9 1 2 fs p.1 p.2, .inl (some (.int (Int32.ofNat p.2))))) ((fun p => pf_fd pf_b97 pf_c97 w3 8 p.1 p.2) ((fun p => pf_fd pf_b97 pf_c97 w2 8 p.1 p.2) (pf_fd pf_b97 pf_c97 w1 8 l n))) := by
  have e : pm_lay [.ref (16 + c), .long w1, .long w2, .long w3] 7 = [some (.ref (16 + c)), some (.long w1), none, some (.long w2), none, some (.long w3), none] := rfl
  have hg' : pm_nth gs 10 = some (.ref (16 + a)) := by rw [pm_nth_eq, hg]
  have e1 : ∀ H, pm_x X (N + 600) (d + 2) H 140 0 [some (.ref (16 + c)), some (.long w1), none, some (.long w2), none, some (.long w3), none] [] = pm_gGet 64 (pm_x X (N + 598)) (d + 2) H 140 11 1 3 [some (.ref (16 + c)), some (.long w1), none, some (.long w2), none, some (.long w3), none] [.ref (16 + c)] := fun H => rfl
  have e2 : ∀ H z, pm_x X (N + 598) (d + 2) H 140 (1 + 3) [some (.ref (16 + c)), some (.long w1), none, some (.long w2), none, some (.long w3), none] [z] = pm_gInv X 1 304 (pm_x X (N + 596)) (d + 2) H 140 11 5 3 [some (.ref (16 + c)), some (.long w1), none, some (.long w2), none, some (.long w3), none] [.long w1, z] := fun H z => rfl
  have e3 : ∀ H, pm_x X (N + 596) (d + 2) H 140 (5 + 3) [some (.ref (16 + c)), some (.long w1), none, some (.long w2), none, some (.long w3), none] [] = pm_gGet 64 (pm_x X (N + 594)) (d + 2) H 140 11 9 3 [some (.ref (16 + c)), some (.long w1), none, some (.long w2), none, some (.long w3), none] [.ref (16 + c)] := fun H => rfl
  have e4 : ∀ H z, pm_x X (N + 594) (d + 2) H 140 (9 + 3) [some (.ref (16 + c)), some (.long w1), none, some (.long w2), none, some (.long w3), none] [z] = pm_gInv X 1 304 (pm_x X (N + 592)) (d + 2) H 140 11 13 3 [some (.ref (16 + c)), some (.long w1), none, some (.long w2), none, some (.long w3), none] [.long w2, z] := fun H z => rfl
  have e5 : ∀ H, pm_x X (N + 592) (d + 2) H 140 (13 + 3) [some (.ref (16 + c)), some (.long w1), none, some (.long w2), none, some (.long w3), none] [] = pm_gGet 64 (pm_x X (N + 590)) (d + 2) H 140 11 17 3 [some (.ref (16 + c)), some (.long w1), none, some (.long w2), none, some (.long w3), none] [.ref (16 + c)] := fun H => rfl
  have e6 : ∀ H z, pm_x X (N + 590) (d + 2) H 140 (17 + 3) [some (.ref (16 + c)), some (.long w1), none, some (.long w2), none, some (.long w3), none] [z] = pm_gInv X 1 304 (pm_x X (N + 588)) (d + 2) H 140 11 22 3 [some (.ref (16 + c)), some (.long w1), none, some (.long w2), none, some (.long w3), none] [.long w3, z] := fun H z => rfl
  have e7 : ∀ H, pm_x X (N + 588) (d + 2) H 140 (22 + 3) [some (.ref (16 + c)), some (.long w1), none, some (.long w2), none, some (.long w3), none] [] = pm_gGet 64 (pm_x X (N + 586)) (d + 2) H 140 11 26 3 [some (.ref (16 + c)), some (.long w1), none, some (.long w2), none, some (.long w3), none] [.ref (16 + c)] := fun H => rfl
  have e8 : ∀ H z, pm_x X (N + 586) (d + 2) H 140 (26 + 3) [some (.ref (16 + c)), some (.long w1), none, some (.long w2), none, some (.long w3), none] [z] = pm_gInv X 1 308 (pm_x X (N + 585)) (d + 2) H 140 11 29 3 [some (.ref (16 + c)), some (.long w1), none, some (.long w2), none, some (.long w3), none] [z] := fun H z => rfl
  have e9 : ∀ H x, pm_x X (N + 585) (d + 2) H 140 (29 + 3) [some (.ref (16 + c)), some (.long w1), none, some (.long w2), none, some (.long w3), none] [.int x] = some (H, .inl (some (.int x))) := fun H x => rfl
  have g1 : ∀ l n, pm_cell (pf_G h a b 9 1 2 fs l n) (16 + c) = some (.inr (11, gs)) := fun l n => pf_G3 hc hac hbc
  have g2 : ∀ l n, pm_cell (pf_G h a b 9 1 2 fs l n) (16 + a) = some (.inr (9, fs.set 1 (.int (Int32.ofNat n)))) := fun l n => pf_G1 ha hab
  obtain ⟨l1, n1⟩ := pf_len pf_b97 pf_c97 w1 8 l n
  rw [e, e1, pf_get (ci := 11) (k := 10) (ty := 3) rfl (g1 _ _) hg', e2, pf_inv (d := d + 1) (ci := 9) (na := 2) (As := [.long w1]) rfl rfl (g2 _ _) rfl pf_e97 rfl (pf_97 (N := N + 96) ha hb hab hf hk l n (by omega) hl)]
  generalize pf_fd pf_b97 pf_c97 w1 8 l n = p1 at l1 n1 ⊢
  obtain ⟨l2, n2⟩ := pf_len pf_b97 pf_c97 w2 8 p1.1 p1.2
  rw [show Option.toList (none : Option Value) = [] from rfl, e3, pf_get (ci := 11) (k := 10) (ty := 3) rfl (g1 _ _) hg', e4, pf_inv (d := d + 1) (ci := 9) (na := 2) (As := [.long w2]) rfl rfl (g2 _ _) rfl pf_e97 rfl (pf_97 (N := N + 92) ha hb hab hf hk p1.1 p1.2 (by omega) (by omega))]
  dsimp only
  generalize pf_fd pf_b97 pf_c97 w2 8 p1.1 p1.2 = p2 at l2 n2 ⊢
  rw [show Option.toList (none : Option Value) = [] from rfl, e5, pf_get (ci := 11) (k := 10) (ty := 3) rfl (g1 _ _) hg', e6, pf_inv (d := d + 1) (ci := 9) (na := 2) (As := [.long w3]) rfl rfl (g2 _ _) rfl pf_e97 rfl (pf_97 (N := N + 88) ha hb hab hf hk p2.1 p2.2 (by omega) (by omega))]
  generalize pf_fd pf_b97 pf_c97 w3 8 p2.1 p2.2 = p3
  have h98 : pm_x X (N + 585) (d + 1) (pf_G h a b 9 1 2 fs p3.1 p3.2) 98 0 (pm_lay [.ref (16 + a)] 1) [] = some (pf_G h a b 9 1 2 fs p3.1 p3.2, .inl (some (.int (Int32.ofNat p3.2)))) := by
    have f1 : ∀ H, pm_x X (N + 585) (d + 1) H 98 0 (pm_lay [.ref (16 + a)] 1) [] = pm_gGet 15 (pm_x X (N + 583)) (d + 1) H 98 9 1 3 [some (.ref (16 + a))] [.ref (16 + a)] := fun H => rfl
    have f2 : ∀ H x, pm_x X (N + 583) (d + 1) H 98 (1 + 3) [some (.ref (16 + a))] [.int x] = some (H, .inl (some (.int x))) := fun H x => rfl
    rw [f1, pf_get (ci := 9) (k := 1) (ty := 0) rfl (g2 _ _) (by rw [pm_nth_eq, List.getElem?_set_self hk]), f2]
  rw [show Option.toList (none : Option Value) = [] from rfl, e7, pf_get (ci := 11) (k := 10) (ty := 3) rfl (g1 _ _) hg', e8, pf_inv (d := d + 1) (ci := 9) (na := 1) (As := []) rfl rfl (g2 _ _) rfl pf_e98 rfl h98]
  show pm_x X (N + 585) (d + 2) _ 140 (29 + 3) [some (.ref (16 + c)), some (.long w1), none, some (.long w2), none, some (.long w3), none] [.int (Int32.ofNat p3.2)] = _
  rw [e9]
/-- the model's feed -/
theorem pf_198 {a b : Nat} {w1 w2 w3 : Int64} {fs : List Value} (ha : a < h.length) (hb : b < h.length) (hab : a ≠ b) (hz : fs[0]? = some (.int 0)) (hf : fs[1]? = some (.ref (16 + b))) (hk : 2 < fs.length) (l : List Value) (n : Nat) (hn : n + 24 < 1000) (hl : l.length = 1000) :
    pm_x X (N + 600) (d + 1) (pf_G h a b 12 2 0 fs l n) 198 0 (pm_lay [.ref (16 + a), .long w1, .long w2, .long w3] 7) [] = (fun p : List Value × Nat => some (pf_G h a b 12 2 0 fs p.1 p.2, .inl (some (.int (Int32.ofNat p.2))))) ((fun p => pf_fd pf_b199 id w3 8 p.1 p.2) ((fun p => pf_fd pf_b199 id w2 8 p.1 p.2) (pf_fd pf_b199 id w1 8 l n))) := by
  have e : pm_lay [.ref (16 + a), .long w1, .long w2, .long w3] 7 = [some (.ref (16 + a)), some (.long w1), none, some (.long w2), none, some (.long w3), none] := rfl
  have e1 : ∀ H, pm_x X (N + 600) (d + 1) H 198 0 [some (.ref (16 + a)), some (.long w1), none, some (.long w2), none, some (.long w3), none] [] = pm_gPut 1 (pm_x X (N + 597)) (d + 1) H 198 12 2 3 [some (.ref (16 + a)), some (.long w1), none, some (.long w2), none, some (.long w3), none] [.int 0, .ref (16 + a)] := fun H => rfl
  have e2 : ∀ H, pm_x X (N + 597) (d + 1) H 198 (2 + 3) [some (.ref (16 + a)), some (.long w1), none, some (.long w2), none, some (.long w3), none] [] = pm_gInv X 1 7 (pm_x X (N + 594)) (d + 1) H 198 12 7 3 [some (.ref (16 + a)), some (.long w1), none, some (.long w2), none, some (.long w3), none] [.long w1, .ref (16 + a)] := fun H => rfl
  have e3 : ∀ H, pm_x X (N + 594) (d + 1) H 198 (7 + 3) [some (.ref (16 + a)), some (.long w1), none, some (.long w2), none, some (.long w3), none] [] = pm_gInv X 1 7 (pm_x X (N + 591)) (d + 1) H 198 12 12 3 [some (.ref (16 + a)), some (.long w1), none, some (.long w2), none, some (.long w3), none] [.long w2, .ref (16 + a)] := fun H => rfl
  have e4 : ∀ H, pm_x X (N + 591) (d + 1) H 198 (12 + 3) [some (.ref (16 + a)), some (.long w1), none, some (.long w2), none, some (.long w3), none] [] = pm_gInv X 1 7 (pm_x X (N + 588)) (d + 1) H 198 12 18 3 [some (.ref (16 + a)), some (.long w1), none, some (.long w2), none, some (.long w3), none] [.long w3, .ref (16 + a)] := fun H => rfl
  have e5 : ∀ H, pm_x X (N + 588) (d + 1) H 198 (18 + 3) [some (.ref (16 + a)), some (.long w1), none, some (.long w2), none, some (.long w3), none] [] = pm_gGet 11 (pm_x X (N + 586)) (d + 1) H 198 12 22 3 [some (.ref (16 + a)), some (.long w1), none, some (.long w2), none, some (.long w3), none] [.ref (16 + a)] := fun H => rfl
  have e6 : ∀ H x, pm_x X (N + 586) (d + 1) H 198 (22 + 3) [some (.ref (16 + a)), some (.long w1), none, some (.long w2), none, some (.long w3), none] [.int x] = some (H, .inl (some (.int x))) := fun H x => rfl
  have g2 : ∀ l n, pm_cell (pf_G h a b 12 2 0 fs l n) (16 + a) = some (.inr (12, fs.set 2 (.int (Int32.ofNat n)))) := fun l n => pf_G1 ha hab
  have hset : pm_set (pf_G h a b 12 2 0 fs l n) (16 + a - 16) (.inr (12, pm_set (fs.set 2 (.int (Int32.ofNat n))) 0 (.int 0))) = pf_G h a b 12 2 0 fs l n := by
    have hfs : (fs.set 2 (.int (Int32.ofNat n))).set 0 (.int 0) = fs.set 2 (.int (Int32.ofNat n)) := by
      rw [List.set_comm _ _ (by decide)]
      congr 1
      apply List.ext_getElem?
      intro j
      by_cases hj : 0 = j
      · subst hj
        rw [List.getElem?_set_self (by omega), hz]
      · rw [List.getElem?_set_ne hj]
    unfold pf_G
    rw [pm_set_eq, pm_set_eq, hfs, show 16 + a - 16 = a by omega, List.set_comm _ _ (Ne.symm hab), List.set_set]
  obtain ⟨l1, n1⟩ := pf_len pf_b199 id w1 8 l n
  rw [e, e1, pf_put (ci := 12) (k := 0) rfl (g2 _ _) (by rw [List.length_set]; omega), hset, e2, pf_inv (d := d) (ci := 12) (na := 2) (As := [.long w1]) rfl rfl (g2 _ _) rfl pf_e199 rfl (pf_199 (N := N + 94) ha hb hab hf hk l n (by omega) hl)]
  generalize pf_fd pf_b199 id w1 8 l n = p1 at l1 n1 ⊢
  obtain ⟨l2, n2⟩ := pf_len pf_b199 id w2 8 p1.1 p1.2
  rw [show Option.toList (none : Option Value) = [] from rfl, e3, pf_inv (d := d) (ci := 12) (na := 2) (As := [.long w2]) rfl rfl (g2 _ _) rfl pf_e199 rfl (pf_199 (N := N + 91) ha hb hab hf hk p1.1 p1.2 (by omega) (by omega))]
  dsimp only
  generalize pf_fd pf_b199 id w2 8 p1.1 p1.2 = p2 at l2 n2 ⊢
  rw [show Option.toList (none : Option Value) = [] from rfl, e4, pf_inv (d := d) (ci := 12) (na := 2) (As := [.long w3]) rfl rfl (g2 _ _) rfl pf_e199 rfl (pf_199 (N := N + 88) ha hb hab hf hk p2.1 p2.2 (by omega) (by omega))]
  generalize pf_fd pf_b199 id w3 8 p2.1 p2.2 = p3
  rw [show Option.toList (none : Option Value) = [] from rfl, e5, pf_get (ci := 12) (k := 2) (ty := 0) rfl (g2 _ _) (by rw [pm_nth_eq, List.getElem?_set_self hk]), e6]
end Pf
