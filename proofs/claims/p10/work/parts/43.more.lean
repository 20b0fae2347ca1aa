/-! small facts: what narrows an int and leaves it, arrays that are found, copies -/
theorem pw_b1 {b : Int} (h1 : 0 ≤ b) (h2 : b ≤ 1) : Int32.ofInt b &&& 1 = Int32.ofInt b := by
  rcases (by omega : b = 0 ∨ b = 1) with rfl | rfl <;> rfl
theorem pw_nat {b : Int} (h1 : 0 ≤ b) : Int32.ofInt b = Int32.ofNat b.toNat := by
  obtain ⟨n, rfl⟩ := Int.eq_ofNat_of_zero_le h1
  rfl
theorem pw_c16 {b : Int} (h1 : 0 ≤ b) (h2 : b ≤ 65535) : (Int32.ofInt b).toUInt32.toUInt16.toUInt32.toInt32 = Int32.ofInt b := by
  rw [pw_nat h1]
  have h3 : b.toNat < 65536 := by omega
  generalize b.toNat = n at h3
  apply Int32.toBitVec_inj.mp
  apply BitVec.eq_of_toNat_eq
  simp
  omega
theorem pw_u16 {b : Int} (h1 : 0 ≤ b) (h2 : b ≤ 65535) : ((Int32.ofInt b).toUInt32 % 65536).toInt32 = Int32.ofInt b := by
  rw [pk_char, pw_nat h1]
  have h3 : b.toNat < 65536 := by omega
  generalize b.toNat = n at h3
  show Int32.ofNat ((nI n).toBitVec.toNat % 65536) = _
  rw [pk_tn (by omega), Nat.mod_eq_of_lt h3]
theorem pw_nz {a b : Int64} {c : Int} (h : (c = -1 ∧ a < b) ∨ (c = 0 ∧ a = b) ∨ (c = 1 ∧ b < a)) (hc : c ≠ 0) : a ≠ b := by
  rcases h with ⟨-, h⟩ | ⟨h, -⟩ | ⟨-, h⟩
  · exact Int64.ne_of_lt h
  · exact absurd h hc
  · exact (Int64.ne_of_lt h).symm
section Pn
variable {X : List (Nat × List Value)} {d : Nat} {h : pm_H} {m pc pc' len na nl own rt : Nat} {C : pm_T (Instr × Nat)} {ls ls' : pm_L} {st st' r : List Value} {Q : pm_H → (Option Value ⊕ Unit) → Prop} {i : Instr}
theorem pw_i2c {a : Int} (he : pm_ent m = some (na, nl, own, rt, C)) (hq : pm_get C pc = some (.i2c, len)) (hc : pc + len = pc') (h1 : 0 ≤ a) (h2 : a ≤ 65535) (H : pw X d h m pc' ls (pw_i a :: r) Q) : pw X d h m pc ls (pw_i a :: r) Q := by
  subst hc
  refine pw_ld he hq (st' := pw_i a :: r) (pc' := pc + len) (fun ih => ?_) H
  have e := pw_u16 h1 h2
  show pm_fn (pc + len) (fun q => ih d h m q ls (.int ((Int32.ofInt a).toUInt32 % 65536).toInt32 :: r)) = _
  rw [e, pm_fn_eq]
  rfl
theorem pw_cald {c a : Nat} {l : List Value} {j : Int} (he : pm_ent m = some (na, nl, own, rt, C)) (hq : pm_get C pc = some (.iaload, len)) (hl : h[c]? = some (.inl (0, l))) (hi : pw_ints l) (ha : 16 + c = a) (hn : l.length ≤ 1000) (h0 : 0 ≤ j) (h1 : j < l.length) (hc : pc + len = pc') (H : ∀ x : Int, -2147483648 ≤ x → x ≤ 2147483647 → pw X d h m pc' ls (pw_i x :: r) Q) : pw X d h m pc ls (pw_i j :: .ref a :: r) Q := by
  subst hc
  have hlt : j.toNat < l.length := by omega
  obtain ⟨y, hy⟩ := hi j.toNat _ (List.getElem?_eq_getElem hlt)
  refine pw_ld he hq (st' := .int y :: r) (pc' := pc + len) (fun ih => ?_) (pw_nmx H)
  show pm_gAld X 0 0 ih d h m own pc len ls (pw_i j :: .ref a :: r) = _
  unfold pm_gAld pw_i
  dsimp only
  rw [pw_rowI hl ha]
  show cond (Nat.beq 0 0 || Nat.beq 0 0) (cond (decide (Int32.ofInt j < 0)) none (match pm_nth l (Int32.ofInt j).toNatClampNeg with
        | some (.int x) => pm_fn (pc + len) fun q => ih d h m q ls (.int x :: r)
        | _ => none)) none = _
  rw [decide_eq_false (pw_neg h0 (by omega)), pw_clamp h0 (by omega), pm_nth_eq, List.getElem?_eq_getElem hlt, hy]
  show pm_fn (pc + len) (fun q => ih d h m q ls (.int y :: r)) = _
  rw [pm_fn_eq]
/-- arraycopy of a whole table into another of its kind -/
theorem pw_copy {ix c c2 n a a2 : Nat} {lo hi : Int} (I : pw_I h) (he : pm_ent m = some (na, nl, own, rt, C)) (hq : pm_get C pc = some (.invokestatic ix, len)) (hl : pm_get (pm_lnk own) ix = some (12, 5, 0, 0)) (hs : pw_T[c]? = some (.inl (0, n, lo, hi))) (hs2 : pw_T[c2]? = some (.inl (0, n, lo, hi))) (hn : n ≤ 2147483647) (ha : 16 + c = a) (ha2 : 16 + c2 = a2) (h8 : pm_cat8 r = true)
    (H : ∀ h' : pm_H, pw_I h' → pw_E [c2] h h' → (∀ k, pw_at h' c2 k = pw_at h c k) → pw X d h' m (pc + 3) ls r Q) : pw X d h m pc ls (pw_i n :: pw_i 0 :: .ref a2 :: pw_i 0 :: .ref a :: r) Q := by
  obtain ⟨l, e1, e2, e3⟩ := pw_arr I hs
  obtain ⟨l2, f1, f2, f3⟩ := pw_arr I hs2
  have I2 : pw_I (h.set c2 (.inl (0, l))) := by
    refine I.set f1 (fun t' l' g => ?_) (fun s g => ?_) (pw_scc_arr (by omega))
    · cases g
      refine ⟨_, rfl, by omega, fun _ j x hx => ?_⟩
      obtain ⟨b, rfl, -⟩ := e3 j x hx
      exact ⟨_, rfl⟩
    · cases hs2.symm.trans g
      exact ⟨rfl, e2, e3⟩
  refine pw_go he hq (fun ih => ?_) (H _ I2 (pw_E_set f1 (show l.length = l2.length by omega) (fun k _ => pw_at_cell (pw_c125 hs2) k)) (fun k => ?_))
  · refine (pw_prim0 (len := len) hl rfl).trans ?_
    show (match pm_row X h a, pm_cell h a2 with
      | some (t, l), some (.inl (t', l')) => cond (Nat.beq t 0 && (Nat.beq t' 0 && (Nat.ble 16 a && (!decide (Int32.ofInt (n : Int) < 0) && (!decide (Int32.ofInt 0 < 0) && (!decide (Int32.ofInt 0 < 0) && (Nat.ble ((Int32.ofInt 0).toNatClampNeg + (Int32.ofInt (n : Int)).toNatClampNeg) (pm_len l) && Nat.ble ((Int32.ofInt 0).toNatClampNeg + (Int32.ofInt (n : Int)).toNatClampNeg) (pm_len l'))))))))
        (cond (pm_cat8 r) (pm_fn (pc + 3) fun q => ih d (pm_set h (a2 - 16) (.inl (0, pm_cpy l l' (Int32.ofInt 0).toNatClampNeg (Int32.ofInt 0).toNatClampNeg (Int32.ofInt (n : Int)).toNatClampNeg))) m q ls r) none) none
      | _, _ => none) = _
    rw [pw_rowI e1 ha, pw_cellI f1 ha2]
    dsimp only
    have en : (Int32.ofInt (n : Int)).toNatClampNeg = n := by rw [pw_clamp (by omega) (by omega)]; rfl
    have e0 : (Int32.ofInt 0).toNatClampNeg = 0 := rfl
    rw [en, e0, decide_eq_false (pw_neg (a := (n : Int)) (by omega) (by omega)), pm_len_eq, pm_len_eq, e2, f2]
    have hb : (Nat.beq 0 0 && (Nat.beq 0 0 && (Nat.ble 16 a && (!false && (!decide (Int32.ofInt 0 < 0) && (!decide (Int32.ofInt 0 < 0) && (Nat.ble (0 + n) n && Nat.ble (0 + n) n))))))) = true := by
      rw [Nat.ble_eq_true_of_le (show 16 ≤ a by omega), Nat.ble_eq_true_of_le (show 0 + n ≤ n by omega)]
      rfl
    have ea : a2 - 16 = c2 := by omega
    rw [hb, cond_true, h8, cond_true, pm_fn_eq, ea, pm_set_eq]
    have ec : pm_cpy l l2 0 0 n = l := by
      unfold pm_cpy
      rw [List.take_zero, List.drop_zero, List.nil_append, List.take_of_length_le (by omega), List.drop_of_length_le (by omega), List.append_nil]
    rw [ec]
  · unfold pw_at
    rw [List.getElem?_set_self (List.getElem?_eq_some_iff.mp f1).1, e1]
theorem pw_iS {ix m' nb ci : Nat} {As rest : List Value} {ih : pm_I} (hl : pm_get (pm_lnk own) ix = some (2, m', nb, ci)) (hp : pm_pop nb st [] = some (As, rest)) (h8 : pm_cat8 rest = true) : pm_dsp X (.invokestatic ix) ih d h m own pc len ls st = pm_call ih d h m pc ls m' As rest false := pw_inv (len := len) (Or.inl rfl) hl hp h8 (fun q => by cases q)
theorem pw_iV {ix m' nb ci a : Nat} {As rest fs : List Value} {ih : pm_I} (ho : Nat.beq own 13 = false) (hl : pm_get (pm_lnk own) ix = some (1, m', nb, ci)) (hp : pm_pop nb st [] = some (.ref a :: As, rest)) (h8 : pm_cat8 rest = true) (hc : pm_cell h a = some (.inr (ci, fs))) : pm_dsp X (.invokevirtual ix) ih d h m own pc len ls st = pm_call ih d h m pc ls m' (.ref a :: As) rest false := pw_inv1 (len := len) ho hl hp h8 hc
end Pn
