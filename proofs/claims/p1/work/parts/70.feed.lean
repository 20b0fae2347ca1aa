/-! feed: the byte loops -/
theorem pf_stp {X : List (Nat × List Value)} {n d m pc : Nat} {h : pm_H} {ls : pm_L} {st : List Value} {e : pm_M} {q : Instr × Nat} (he : pm_ent m = some e) (hq : pm_get e.2.2.2.2 pc = some q) : pm_x X (n + 1) d h m pc ls st = pm_dsp X q.1 (pm_x X n) d h m e.2.2.1 pc q.2 ls st := by
  rw [pm_x_succ]
  unfold pm_F
  rw [he]
  dsimp only
  rw [hq]
theorem pf_e97 : pm_ent 97 = some (2, 6, 9, 4, pmc_97) := rfl
theorem pf_e199 : pm_ent 199 = some (2, 5, 12, 4, pmc_199) := rfl
theorem pf_e121 : pm_ent 121 = some (3, 3, 11, 1, pmc_121) := rfl
theorem pf_e98 : pm_ent 98 = some (1, 1, 9, 0, pmc_98) := rfl
theorem pf_e140 : pm_ent 140 = some (4, 7, 11, 0, pmc_140) := rfl
theorem pf_e198 : pm_ent 198 = some (4, 7, 12, 0, pmc_198) := rfl
section Pf
variable {X : List (Nat × List Value)} {N d : Nat} {h : pm_H}
theorem pf_w121 (y a b : Int32) : pm_x X (N + 9) d h 121 0 [some (.int y), some (.int a), some (.int b)] [] = cond (pm_cnd .lt y a) (some (h, .inl (some (.int 0)))) (cond (pm_cnd .gt y b) (some (h, .inl (some (.int 0)))) (some (h, .inl (some (.int 1))))) := rfl
theorem pf_97a (t : Nat) (w : Int64) (s : Int32) (u v : Option Value) : pm_x X (N + 9) d h 97 3 [some (.ref t), some (.long w), none, some (.int s), u, v] [] = cond (pm_cnd .lt s 0) (pm_x X (N + 7) d h 97 86 [some (.ref t), some (.long w), none, some (.int s), u, v] []) (pm_fi (((w.toUInt64 >>> (s.toInt64.toUInt64 &&& Int64.toUInt64 63)).toInt64) &&& Int64.ofNat 255).toInt32 fun y => pm_x X N d h 97 17 [some (.ref t), some (.long w), none, some (.int s), some (.int y), v] []) := rfl
theorem pf_97b (t : Nat) (w : Int64) (s y : Int32) (v : Option Value) : pm_x X (N + 3) d h 97 17 [some (.ref t), some (.long w), none, some (.int s), some (.int y), v] [] = cond (pm_cnd .eq y ((Int8.ofInt 10).toInt32)) (pm_x X N d h 97 36 [some (.ref t), some (.long w), none, some (.int s), some (.int y), v] []) (pm_x X N d h 97 24 [some (.ref t), some (.long w), none, some (.int s), some (.int y), v] []) := rfl
theorem pf_97c (t : Nat) (w : Int64) (s y : Int32) (v : Option Value) {r : Int32} (hw : pm_x X N d h 121 0 [some (.int y), some (.int ((Int8.ofInt 32).toInt32)), some (.int ((Int8.ofInt 126).toInt32))] [] = some (h, .inl (some (.int r)))) : pm_x X (N + 4) (d + 1) h 97 24 [some (.ref t), some (.long w), none, some (.int s), some (.int y), v] [] = pm_x X N (d + 1) h 97 33 [some (.ref t), some (.long w), none, some (.int s), some (.int y), v] [.int r] := by
  have e : pm_x X (N + 4) (d + 1) h 97 24 [some (.ref t), some (.long w), none, some (.int s), some (.int y), v] [] = pz_aft (pm_x X N) (d + 1) 97 30 [some (.ref t), some (.long w), none, some (.int s), some (.int y), v] [] false (pm_x X N d h 121 0 [some (.int y), some (.int ((Int8.ofInt 32).toInt32)), some (.int ((Int8.ofInt 126).toInt32))] []) := rfl
  rw [e, hw]
  rfl
theorem pf_97d1 (t : Nat) (w : Int64) (s y : Int32) (v : Option Value) : pm_x X (N + 5) d h 97 36 [some (.ref t), some (.long w), none, some (.int s), some (.int y), v] [] = pm_x X N d h 97 48 [some (.ref t), some (.long w), none, some (.int s), some (.int y), some (.int 1)] [] := rfl
theorem pf_97d0 (t : Nat) (w : Int64) (s y : Int32) (v : Option Value) : pm_x X (N + 4) d h 97 40 [some (.ref t), some (.long w), none, some (.int s), some (.int y), v] [] = pm_x X N d h 97 80 [some (.ref t), some (.long w), none, some (.int s), some (.int y), some (.int 0)] [] := rfl
theorem pf_97f (t : Nat) (w : Int64) (s y : Int32) (v : Option Value) (r : Int32) : pm_x X (N + 1) d h 97 33 [some (.ref t), some (.long w), none, some (.int s), some (.int y), v] [.int r] = cond (pm_cnd .eq r 0) (pm_x X N d h 97 40 [some (.ref t), some (.long w), none, some (.int s), some (.int y), v] []) (pm_x X N d h 97 36 [some (.ref t), some (.long w), none, some (.int s), some (.int y), v] []) := rfl
theorem pf_inc {ih : pm_I} {m own pc k : Nat} {n : Int} {ls : pm_L} {st : List Value} {x : Int32} (hl : pm_nth ls k = some (some (.int x))) : pm_dsp X (.iinc k n) ih d h m own pc 3 ls st = ih d h m (pc + 3) (pm_put1 ls k (.int (x + Int32.ofInt n))) st := by
  have e : pm_dsp X (.iinc k n) = pm_lift (pm_sInc k n) := rfl
  rw [e]
  unfold pm_lift pm_sInc
  rw [hl]
  show cond (Nat.beq 3 3) (pm_fi (x + Int32.ofInt n) fun y => pm_fn (pc + 3) fun q => ih d h m q (pm_put1 ls k (.int y)) st) none = _
  rw [Nat.beq_refl, cond_true, pm_fi_eq, pm_fn_eq]
theorem pf_97g (t : Nat) (w : Int64) (s : Int32) (u v : Option Value) : pm_x X (N + 2) d h 97 80 [some (.ref t), some (.long w), none, some (.int s), u, v] [] = pm_x X N d h 97 3 [some (.ref t), some (.long w), none, some (.int (s + Int32.ofInt (-8))), u, v] [] := by
  have hp : ∀ y, pm_put1 [some (.ref t), some (.long w), none, some (.int s), u, v] 3 (.int y) = [some (.ref t), some (.long w), none, some (.int y), u, v] := fun y => rfl
  have e1 : pm_x X (N + 2) d h 97 80 [some (.ref t), some (.long w), none, some (.int s), u, v] [] = pm_x X (N + 1) d h 97 83 [some (.ref t), some (.long w), none, some (.int (s + Int32.ofInt (-8))), u, v] [] := by
    rw [pf_stp pf_e97 (q := (.iinc 3 (-8), 3)) rfl]
    dsimp only
    rw [pf_inc (x := s) rfl, hp]
  have e2 : ∀ s, pm_x X (N + 1) d h 97 83 [some (.ref t), some (.long w), none, some (.int s), u, v] [] = pm_x X N d h 97 3 [some (.ref t), some (.long w), none, some (.int s), u, v] [] := fun s => by
    rw [pf_stp pf_e97 (q := (.goto (-80), 3)) rfl]
    show pm_to (((83 : Nat) : Int) + -80) (fun t' => pm_x X N d h 97 t' [some (.ref t), some (.long w), none, some (.int s), u, v] []) = _
    rw [show ((83 : Nat) : Int) + -80 = Int.ofNat 3 from by decide]
    rfl
  rw [e1, e2]
theorem pf_97z (t : Nat) (w : Int64) (s : Int32) (u v : Option Value) : pm_x X (N + 1) d h 97 86 [some (.ref t), some (.long w), none, some (.int s), u, v] [] = some (h, .inl none) := rfl
theorem pf_97i (t : Nat) (w : Int64) : pm_x X (N + 2) d h 97 0 [some (.ref t), some (.long w), none, none, none, none] [] = pm_x X N d h 97 3 [some (.ref t), some (.long w), none, some (.int 56), none, none] [] := rfl
theorem pf_get {ih : pm_I} {m own pc len ix ci k ty t : Nat} {ls : pm_L} {r fs : List Value} {v : Value} (hl : pm_get (pm_lnk own) ix = some (0, ci, k, ty)) (h1 : pm_cell h t = some (.inr (ci, fs))) (h2 : pm_nth fs k = some v) : pm_gGet ix ih d h m own pc len ls (.ref t :: r) = ih d h m (pc + len) ls (v :: r) := by
  unfold pm_gGet
  dsimp only
  rw [hl, h1]
  show cond (Nat.beq ci ci) (match pm_nth fs k with
        | some v => pm_fn (pc + len) fun q => ih d h m q ls (v :: r)
        | none => none) none = _
  rw [Nat.beq_refl, cond_true, h2]
  show (pm_fn (pc + len) fun q => ih d h m q ls (v :: r)) = _
  rw [pm_fn_eq]
theorem pf_put {ih : pm_I} {m own pc len ix ci k t : Nat} {ls : pm_L} {r fs : List Value} {x : Int32} (hl : pm_get (pm_lnk own) ix = some (0, ci, k, 0)) (h1 : pm_cell h t = some (.inr (ci, fs))) (h2 : k < fs.length) : pm_gPut ix ih d h m own pc len ls (.int x :: .ref t :: r) = ih d (pm_set h (t - 16) (.inr (ci, pm_set fs k (.int x)))) m (pc + len) ls r := by
  unfold pm_gPut
  dsimp only
  rw [hl, h1]
  show cond (Nat.beq ci ci) (cond (Nat.blt k (pm_len fs)) (cond (pm_fit 0 (.int x)) (pm_fv (.int x) fun v => pm_fn (pc + len) fun q => ih d (pm_set h (t - 16) (.inr (ci, pm_set fs k v))) m q ls r) none) none) none = _
  have hf : pm_fit 0 (.int x) = true := rfl
  rw [Nat.beq_refl, cond_true, pm_len_eq, show Nat.blt k fs.length = true from Nat.ble_eq_true_of_le h2, cond_true, hf, cond_true, pm_fv_eq, pm_fn_eq]
theorem pf_ist {ih : pm_I} {m own pc len ta c : Nat} {f : Int32 → Int32} {ls : pm_L} {r l : List Value} {x j : Int32} (h1 : pm_cell h c = some (.inl (ta, l))) (h2 : pm_in j (pm_len l) = true) : pm_gIst ta f ih d h m own pc len ls (.int x :: .int j :: .ref c :: r) = ih d (pm_set h (c - 16) (.inl (ta, pm_set l j.toNatClampNeg (.int (f x))))) m (pc + len) ls r := by
  unfold pm_gIst
  dsimp only
  rw [h1]
  dsimp only
  rw [Nat.beq_refl, cond_true, h2, cond_true, pm_fi_eq, pm_fn_eq]
/-- the heap while a tape is fed: object a with the field k that counts, array b -/
def pf_G (h : pm_H) (a b ci k ta : Nat) (fs : List Value) (l : List Value) (n : Nat) : pm_H := (h.set a (.inr (ci, fs.set k (.int (Int32.ofNat n))))).set b (.inl (ta, l))
theorem pf_G1 {a b ci k ta n : Nat} {fs l : List Value} (ha : a < h.length) (hab : a ≠ b) : pm_cell (pf_G h a b ci k ta fs l n) (16 + a) = some (.inr (ci, fs.set k (.int (Int32.ofNat n)))) := by
  unfold pm_cell pf_G
  rw [show Nat.blt (16 + a) 16 = false from by
    cases hb : Nat.blt (16 + a) 16 with
    | false => rfl
    | true => have := pm_blt hb; omega]
  rw [cond_false, pm_nth_eq, show 16 + a - 16 = a by omega, List.getElem?_set_ne (Ne.symm hab), List.getElem?_set_self ha]
theorem pf_G2 {a b ci k ta n : Nat} {fs l : List Value} (hb : b < h.length) : pm_cell (pf_G h a b ci k ta fs l n) (16 + b) = some (.inl (ta, l)) := by
  unfold pm_cell pf_G
  rw [show Nat.blt (16 + b) 16 = false from by
    cases hb : Nat.blt (16 + b) 16 with
    | false => rfl
    | true => have := pm_blt hb; omega]
  rw [cond_false, pm_nth_eq, show 16 + b - 16 = b by omega, List.getElem?_set_self (by rw [List.length_set]; exact hb)]
theorem pf_Gl {a b ci k ta n : Nat} {fs l l' : List Value} : pm_set (pf_G h a b ci k ta fs l n) (16 + b - 16) (.inl (ta, l')) = pf_G h a b ci k ta fs l' n := by
  unfold pf_G
  rw [pm_set_eq, show 16 + b - 16 = b by omega, List.set_set]
theorem pf_Gn {a b ci k ta n n' : Nat} {fs l : List Value} (hab : a ≠ b) : pm_set (pf_G h a b ci k ta fs l n) (16 + a - 16) (.inr (ci, pm_set (fs.set k (.int (Int32.ofNat n))) k (.int (Int32.ofNat n')))) = pf_G h a b ci k ta fs l n' := by
  unfold pf_G
  rw [pm_set_eq, pm_set_eq, show 16 + a - 16 = a by omega, List.set_comm _ _ (Ne.symm hab), List.set_set, List.set_set]
theorem pf_n1 : ∀ n, n < 1000 → pm_cnd .ge (Int32.ofNat n) ((Int16.ofInt 1000).toInt32) = false := by decide +kernel
theorem pf_n2 : ∀ n, n < 1000 → pm_in (Int32.ofNat n) 1000 = true := by decide +kernel
theorem pf_n3 : ∀ n, n < 1000 → (Int32.ofNat n).toNatClampNeg = n := by decide +kernel
theorem pf_n4 : ∀ n, n < 1000 → Int32.ofNat n + Int32.ofInt 1 = Int32.ofNat (n + 1) := by decide +kernel
def pf_c97 (y : Int32) : Int32 := ((y.toUInt32 % 65536).toInt32).toUInt32.toUInt16.toUInt32.toInt32
theorem pf_97e (a b n : Nat) (w : Int64) (s y : Int32) (v : Option Value) {fs l : List Value} (ha : a < h.length) (hb : b < h.length) (hab : a ≠ b) (hf : fs[0]? = some (.ref (16 + b))) (hk : 1 < fs.length) (hn : n < 1000) (hl : l.length = 1000) : pm_x X (N + 17) d (pf_G h a b 9 1 2 fs l n) 97 48 [some (.ref (16 + a)), some (.long w), none, some (.int s), some (.int y), v] [] = pm_x X N d (pf_G h a b 9 1 2 fs (l.set n (.int (pf_c97 y))) (n + 1)) 97 80 [some (.ref (16 + a)), some (.long w), none, some (.int s), some (.int y), v] [] := by
  have f1 : pm_nth (fs.set 1 (.int (Int32.ofNat n))) 1 = some (.int (Int32.ofNat n)) := by rw [pm_nth_eq, List.getElem?_set_self hk]
  have f0 : pm_nth (fs.set 1 (.int (Int32.ofNat n))) 0 = some (.ref (16 + b)) := by rw [pm_nth_eq, List.getElem?_set_ne (by decide), hf]
  have c1 := pf_G1 (ci := 9) (k := 1) (ta := 2) (n := n) (fs := fs) (l := l) ha hab
  have c2 := pf_G2 (a := a) (ci := 9) (k := 1) (ta := 2) (n := n) (fs := fs) (l := l) hb
  have c3 := pf_G1 (ci := 9) (k := 1) (ta := 2) (n := n) (fs := fs) (l := l.set n (.int (pf_c97 y))) ha hab
  have e1 : ∀ H, pm_x X (N + 17) d H 97 48 [some (.ref (16 + a)), some (.long w), none, some (.int s), some (.int y), v] [] = pm_gGet 15 (pm_x X (N + 15)) d H 97 9 49 3 [some (.ref (16 + a)), some (.long w), none, some (.int s), some (.int y), v] [.ref (16 + a)] := fun H => rfl
  have e2 : ∀ H x, pm_x X (N + 15) d H 97 (49 + 3) [some (.ref (16 + a)), some (.long w), none, some (.int s), some (.int y), v] [.int x] = cond (pm_cnd .ge x ((Int16.ofInt 1000).toInt32)) (pm_x X (N + 13) d H 97 80 [some (.ref (16 + a)), some (.long w), none, some (.int s), some (.int y), v] []) (pm_x X (N + 13) d H 97 58 [some (.ref (16 + a)), some (.long w), none, some (.int s), some (.int y), v] []) := fun H x => rfl
  have e3 : ∀ H, pm_x X (N + 13) d H 97 58 [some (.ref (16 + a)), some (.long w), none, some (.int s), some (.int y), v] [] = pm_gGet 11 (pm_x X (N + 11)) d H 97 9 59 3 [some (.ref (16 + a)), some (.long w), none, some (.int s), some (.int y), v] [.ref (16 + a)] := fun H => rfl
  have e4 : ∀ H z, pm_x X (N + 11) d H 97 (59 + 3) [some (.ref (16 + a)), some (.long w), none, some (.int s), some (.int y), v] [z] = pm_gGet 15 (pm_x X (N + 9)) d H 97 9 63 3 [some (.ref (16 + a)), some (.long w), none, some (.int s), some (.int y), v] [.ref (16 + a), z] := fun H z => rfl
  have e5 : ∀ H x z, pm_x X (N + 9) d H 97 (63 + 3) [some (.ref (16 + a)), some (.long w), none, some (.int s), some (.int y), v] [.int x, z] = pm_gIst 2 (fun x => x.toUInt32.toUInt16.toUInt32.toInt32) (pm_x X (N + 6)) d H 97 9 69 1 [some (.ref (16 + a)), some (.long w), none, some (.int s), some (.int y), v] [.int ((y.toUInt32 % 65536).toInt32), .int x, z] := fun H x z => rfl
  have e6 : ∀ H, pm_x X (N + 6) d H 97 (69 + 1) [some (.ref (16 + a)), some (.long w), none, some (.int s), some (.int y), v] [] = pm_gGet 15 (pm_x X (N + 3)) d H 97 9 72 3 [some (.ref (16 + a)), some (.long w), none, some (.int s), some (.int y), v] [.ref (16 + a), .ref (16 + a)] := fun H => rfl
  have e7 : ∀ H x z, pm_x X (N + 3) d H 97 (72 + 3) [some (.ref (16 + a)), some (.long w), none, some (.int s), some (.int y), v] [.int x, z] = pm_gPut 15 (pm_x X N) d H 97 9 77 3 [some (.ref (16 + a)), some (.long w), none, some (.int s), some (.int y), v] [.int (x + Int32.ofInt 1), z] := fun H x z => rfl
  rw [e1, pf_get (ci := 9) (k := 1) (ty := 0) rfl c1 f1, e2, pf_n1 n hn, cond_false, e3, pf_get (ci := 9) (k := 0) (ty := 3) rfl c1 f0, e4, pf_get (ci := 9) (k := 1) (ty := 0) rfl c1 f1, e5, pf_ist c2 (by rw [pm_len_eq, hl]; exact pf_n2 n hn), pf_Gl, pf_n3 n hn, pm_set_eq, e6]
  rw [show ((y.toUInt32 % 65536).toInt32).toUInt32.toUInt16.toUInt32.toInt32 = pf_c97 y from rfl]
  rw [pf_get (ci := 9) (k := 1) (ty := 0) rfl c3 f1, e7, pf_put (ci := 9) (k := 1) rfl c3 (by rw [List.length_set]; exact hk), pf_n4 n hn, pf_Gn hab]
/-- the shift with j rounds to go -/
def pf_sh (j : Nat) : Int32 := Int32.ofInt (8 * (j : Int) - 8)
theorem pf_s1 : ∀ j, j < 8 → pm_cnd .lt (pf_sh (j + 1)) 0 = false ∧ pf_sh (j + 1) + Int32.ofInt (-8) = pf_sh j := by decide +kernel
theorem pf_s0 : pm_cnd .lt (pf_sh 0) 0 = true := by decide +kernel
def pf_sg (y : Int32) : Bool := pm_cnd .eq y ((Int8.ofInt 10).toInt32) || (!pm_cnd .lt y ((Int8.ofInt 32).toInt32) && !pm_cnd .gt y ((Int8.ofInt 126).toInt32))
def pf_b97 (w : Int64) (s : Int32) : Int32 := (((w.toUInt64 >>> (s.toInt64.toUInt64 &&& Int64.toUInt64 63)).toInt64) &&& Int64.ofNat 255).toInt32
/-- what the rounds leave: the array and how many signs -/
def pf_fd (bf : Int64 → Int32 → Int32) (cf : Int32 → Int32) (w : Int64) : Nat → List Value → Nat → List Value × Nat
  | 0, l, n => (l, n)
  | j + 1, l, n => if pf_sg (bf w (pf_sh (j + 1))) = true then pf_fd bf cf w j (l.set n (.int (cf (bf w (pf_sh (j + 1)))))) (n + 1) else pf_fd bf cf w j l n
theorem pf_97L {a b : Nat} {w : Int64} {fs : List Value} (ha : a < h.length) (hb : b < h.length) (hab : a ≠ b) (hf : fs[0]? = some (.ref (16 + b))) (hk : 1 < fs.length) : ∀ j, j ≤ 8 → ∀ F, 50 * j + 20 ≤ F → ∀ l n u v, n + j < 1000 → l.length = 1000 → pm_x X F (d + 1) (pf_G h a b 9 1 2 fs l n) 97 3 [some (.ref (16 + a)), some (.long w), none, some (.int (pf_sh j)), u, v] [] = some (pf_G h a b 9 1 2 fs (pf_fd pf_b97 pf_c97 w j l n).1 (pf_fd pf_b97 pf_c97 w j l n).2, .inl none)
  | 0, _, F, hF, l, n, u, v, hn, hl => by
    obtain ⟨N, rfl⟩ : ∃ N, F = N + 9 := ⟨F - 9, by omega⟩
    rw [pf_97a, pf_s0, cond_true, pf_97z]
    rfl
  | j + 1, hj, F, hF, l, n, u, v, hn, hl => by
    obtain ⟨N, rfl⟩ : ∃ N, F = N + 41 := ⟨F - 41, by omega⟩
    have ih := pf_97L (w := w) ha hb hab hf hk j (by omega)
    obtain ⟨q1, q2⟩ := pf_s1 j (by omega)
    rw [pf_97a (N := N + 32), q1, cond_false, pm_fi_eq]
    rw [show (((w.toUInt64 >>> ((pf_sh (j + 1)).toInt64.toUInt64 &&& Int64.toUInt64 63)).toInt64) &&& Int64.ofNat 255).toInt32 = pf_b97 w (pf_sh (j + 1)) from rfl]
    unfold pf_fd
    generalize pf_b97 w (pf_sh (j + 1)) = y
    rw [pf_97b (N := N + 29)]
    cases h10 : pm_cnd .eq y ((Int8.ofInt 10).toInt32) with
    | true =>
      have hs : pf_sg y = true := by unfold pf_sg; rw [h10]; rfl
      rw [if_pos hs, cond_true, pf_97d1 (N := N + 24), pf_97e (N := N + 7) a b n w _ y _ ha hb hab hf hk (by omega) hl, pf_97g (N := N + 5), q2]
      exact ih _ (by omega) _ _ _ _ (by omega) (by rw [List.length_set]; exact hl)
    | false =>
      rw [cond_false]
      cases hlt : pm_cnd .lt y ((Int8.ofInt 32).toInt32) with
      | true =>
        have hs : pf_sg y = false := by unfold pf_sg; rw [h10, hlt]; rfl
        rw [if_neg (by rw [hs]; decide), pf_97c (N := N + 25) (r := 0) _ _ _ _ _ (by rw [pf_w121 (N := N + 16), hlt, cond_true]), pf_97f (N := N + 24), show pm_cnd .eq 0 0 = true from by decide, cond_true, pf_97d0 (N := N + 20), pf_97g (N := N + 18), q2]
        exact ih _ (by omega) _ _ _ _ (by omega) hl
      | false =>
        cases hgt : pm_cnd .gt y ((Int8.ofInt 126).toInt32) with
        | true =>
          have hs : pf_sg y = false := by unfold pf_sg; rw [h10, hlt, hgt]; rfl
          rw [if_neg (by rw [hs]; decide), pf_97c (N := N + 25) (r := 0) _ _ _ _ _ (by rw [pf_w121 (N := N + 16), hlt, cond_false, hgt, cond_true]), pf_97f (N := N + 24), show pm_cnd .eq 0 0 = true from by decide, cond_true, pf_97d0 (N := N + 20), pf_97g (N := N + 18), q2]
          exact ih _ (by omega) _ _ _ _ (by omega) hl
        | false =>
          have hs : pf_sg y = true := by unfold pf_sg; rw [h10, hlt, hgt]; rfl
          rw [if_pos hs, pf_97c (N := N + 25) (r := 1) _ _ _ _ _ (by rw [pf_w121 (N := N + 16), hlt, cond_false, hgt, cond_false]), pf_97f (N := N + 24), show pm_cnd .eq 1 0 = false from by decide, cond_false, pf_97d1 (N := N + 19), pf_97e (N := N + 2) a b n w _ y _ ha hb hab hf hk (by omega) hl, pf_97g (N := N), q2]
          exact ih _ (by omega) _ _ _ _ (by omega) (by rw [List.length_set]; exact hl)
/-! the model's loop -/
theorem pf_199a (t : Nat) (w : Int64) (s : Int32) (u : Option Value) : pm_x X (N + 9) d h 199 3 [some (.ref t), some (.long w), none, some (.int s), u] [] = cond (pm_cnd .lt s 0) (pm_x X (N + 7) d h 199 75 [some (.ref t), some (.long w), none, some (.int s), u] []) (pm_fi ((w >>> (s.toInt64 &&& 63)).toInt32 &&& (Int16.ofInt 255).toInt32) fun y => pm_x X N d h 199 17 [some (.ref t), some (.long w), none, some (.int s), some (.int y)] []) := rfl
theorem pf_199b (t : Nat) (w : Int64) (s y : Int32) : pm_x X (N + 3) d h 199 17 [some (.ref t), some (.long w), none, some (.int s), some (.int y)] [] = cond (pm_cnd .eq y ((Int8.ofInt 10).toInt32)) (pm_x X N d h 199 38 [some (.ref t), some (.long w), none, some (.int s), some (.int y)] []) (pm_x X N d h 199 24 [some (.ref t), some (.long w), none, some (.int s), some (.int y)] []) := rfl
theorem pf_199c (t : Nat) (w : Int64) (s y : Int32) : pm_x X (N + 3) d h 199 24 [some (.ref t), some (.long w), none, some (.int s), some (.int y)] [] = cond (pm_cnd .lt y ((Int8.ofInt 32).toInt32)) (pm_x X N d h 199 69 [some (.ref t), some (.long w), none, some (.int s), some (.int y)] []) (pm_x X N d h 199 31 [some (.ref t), some (.long w), none, some (.int s), some (.int y)] []) := rfl
theorem pf_199d (t : Nat) (w : Int64) (s y : Int32) : pm_x X (N + 3) d h 199 31 [some (.ref t), some (.long w), none, some (.int s), some (.int y)] [] = cond (pm_cnd .gt y ((Int8.ofInt 126).toInt32)) (pm_x X N d h 199 69 [some (.ref t), some (.long w), none, some (.int s), some (.int y)] []) (pm_x X N d h 199 38 [some (.ref t), some (.long w), none, some (.int s), some (.int y)] []) := rfl
theorem pf_199g (t : Nat) (w : Int64) (s : Int32) (u : Option Value) : pm_x X (N + 2) d h 199 69 [some (.ref t), some (.long w), none, some (.int s), u] [] = pm_x X N d h 199 3 [some (.ref t), some (.long w), none, some (.int (s + Int32.ofInt (-8))), u] [] := by
  have hp : ∀ y, pm_put1 [some (.ref t), some (.long w), none, some (.int s), u] 3 (.int y) = [some (.ref t), some (.long w), none, some (.int y), u] := fun y => rfl
  have e1 : pm_x X (N + 2) d h 199 69 [some (.ref t), some (.long w), none, some (.int s), u] [] = pm_x X (N + 1) d h 199 72 [some (.ref t), some (.long w), none, some (.int (s + Int32.ofInt (-8))), u] [] := by
    rw [pf_stp pf_e199 (q := (.iinc 3 (-8), 3)) rfl]
    dsimp only
    rw [pf_inc (x := s) rfl, hp]
  have e2 : ∀ s, pm_x X (N + 1) d h 199 72 [some (.ref t), some (.long w), none, some (.int s), u] [] = pm_x X N d h 199 3 [some (.ref t), some (.long w), none, some (.int s), u] [] := fun s => by
    rw [pf_stp pf_e199 (q := (.goto (-69), 3)) rfl]
    show pm_to (((72 : Nat) : Int) + -69) (fun t' => pm_x X N d h 199 t' [some (.ref t), some (.long w), none, some (.int s), u] []) = _
    rw [show ((72 : Nat) : Int) + -69 = Int.ofNat 3 from by decide]
    rfl
  rw [e1, e2]
theorem pf_199z (t : Nat) (w : Int64) (s : Int32) (u : Option Value) : pm_x X (N + 1) d h 199 75 [some (.ref t), some (.long w), none, some (.int s), u] [] = some (h, .inl none) := rfl
theorem pf_199i (t : Nat) (w : Int64) : pm_x X (N + 2) d h 199 0 [some (.ref t), some (.long w), none, none, none] [] = pm_x X N d h 199 3 [some (.ref t), some (.long w), none, some (.int 56), none] [] := rfl
theorem pf_199e (a b n : Nat) (w : Int64) (s y : Int32) {fs l : List Value} (ha : a < h.length) (hb : b < h.length) (hab : a ≠ b) (hf : fs[1]? = some (.ref (16 + b))) (hk : 2 < fs.length) (hn : n < 1000) (hl : l.length = 1000) : pm_x X (N + 16) d (pf_G h a b 12 2 0 fs l n) 199 38 [some (.ref (16 + a)), some (.long w), none, some (.int s), some (.int y)] [] = pm_x X N d (pf_G h a b 12 2 0 fs (l.set n (.int y)) (n + 1)) 199 69 [some (.ref (16 + a)), some (.long w), none, some (.int s), some (.int y)] [] := by
  have f1 : pm_nth (fs.set 2 (.int (Int32.ofNat n))) 2 = some (.int (Int32.ofNat n)) := by rw [pm_nth_eq, List.getElem?_set_self hk]
  have f0 : pm_nth (fs.set 2 (.int (Int32.ofNat n))) 1 = some (.ref (16 + b)) := by rw [pm_nth_eq, List.getElem?_set_ne (by decide), hf]
  have c1 := pf_G1 (ci := 12) (k := 2) (ta := 0) (n := n) (fs := fs) (l := l) ha hab
  have c2 := pf_G2 (a := a) (ci := 12) (k := 2) (ta := 0) (n := n) (fs := fs) (l := l) hb
  have c3 := pf_G1 (ci := 12) (k := 2) (ta := 0) (n := n) (fs := fs) (l := l.set n (.int y)) ha hab
  have e1 : ∀ H, pm_x X (N + 16) d H 199 38 [some (.ref (16 + a)), some (.long w), none, some (.int s), some (.int y)] [] = pm_gGet 11 (pm_x X (N + 14)) d H 199 12 39 3 [some (.ref (16 + a)), some (.long w), none, some (.int s), some (.int y)] [.ref (16 + a)] := fun H => rfl
  have e2 : ∀ H x, pm_x X (N + 14) d H 199 (39 + 3) [some (.ref (16 + a)), some (.long w), none, some (.int s), some (.int y)] [.int x] = cond (pm_cnd .ge x ((Int16.ofInt 1000).toInt32)) (pm_x X (N + 12) d H 199 69 [some (.ref (16 + a)), some (.long w), none, some (.int s), some (.int y)] []) (pm_x X (N + 12) d H 199 48 [some (.ref (16 + a)), some (.long w), none, some (.int s), some (.int y)] []) := fun H x => rfl
  have e3 : ∀ H, pm_x X (N + 12) d H 199 48 [some (.ref (16 + a)), some (.long w), none, some (.int s), some (.int y)] [] = pm_gGet 14 (pm_x X (N + 10)) d H 199 12 49 3 [some (.ref (16 + a)), some (.long w), none, some (.int s), some (.int y)] [.ref (16 + a)] := fun H => rfl
  have e4 : ∀ H z, pm_x X (N + 10) d H 199 (49 + 3) [some (.ref (16 + a)), some (.long w), none, some (.int s), some (.int y)] [z] = pm_gGet 11 (pm_x X (N + 8)) d H 199 12 53 3 [some (.ref (16 + a)), some (.long w), none, some (.int s), some (.int y)] [.ref (16 + a), z] := fun H z => rfl
  have e5 : ∀ H x z, pm_x X (N + 8) d H 199 (53 + 3) [some (.ref (16 + a)), some (.long w), none, some (.int s), some (.int y)] [.int x, z] = pm_gIst 0 (fun x => x) (pm_x X (N + 6)) d H 199 12 58 1 [some (.ref (16 + a)), some (.long w), none, some (.int s), some (.int y)] [.int y, .int x, z] := fun H x z => rfl
  have e6 : ∀ H, pm_x X (N + 6) d H 199 (58 + 1) [some (.ref (16 + a)), some (.long w), none, some (.int s), some (.int y)] [] = pm_gGet 11 (pm_x X (N + 3)) d H 199 12 61 3 [some (.ref (16 + a)), some (.long w), none, some (.int s), some (.int y)] [.ref (16 + a), .ref (16 + a)] := fun H => rfl
  have e7 : ∀ H x z, pm_x X (N + 3) d H 199 (61 + 3) [some (.ref (16 + a)), some (.long w), none, some (.int s), some (.int y)] [.int x, z] = pm_gPut 11 (pm_x X N) d H 199 12 66 3 [some (.ref (16 + a)), some (.long w), none, some (.int s), some (.int y)] [.int (x + Int32.ofInt 1), z] := fun H x z => rfl
  rw [e1, pf_get (ci := 12) (k := 2) (ty := 0) rfl c1 f1, e2, pf_n1 n hn, cond_false, e3, pf_get (ci := 12) (k := 1) (ty := 3) rfl c1 f0, e4, pf_get (ci := 12) (k := 2) (ty := 0) rfl c1 f1, e5, pf_ist c2 (by rw [pm_len_eq, hl]; exact pf_n2 n hn), pf_Gl, pf_n3 n hn, pm_set_eq, e6, pf_get (ci := 12) (k := 2) (ty := 0) rfl c3 f1, e7, pf_put (ci := 12) (k := 2) rfl c3 (by rw [List.length_set]; exact hk), pf_n4 n hn, pf_Gn hab]
def pf_b199 (w : Int64) (s : Int32) : Int32 := (w >>> (s.toInt64 &&& 63)).toInt32 &&& (Int16.ofInt 255).toInt32
theorem pf_199L {a b : Nat} {w : Int64} {fs : List Value} (ha : a < h.length) (hb : b < h.length) (hab : a ≠ b) (hf : fs[1]? = some (.ref (16 + b))) (hk : 2 < fs.length) : ∀ j, j ≤ 8 → ∀ F, 50 * j + 20 ≤ F → ∀ l n u, n + j < 1000 → l.length = 1000 → pm_x X F d (pf_G h a b 12 2 0 fs l n) 199 3 [some (.ref (16 + a)), some (.long w), none, some (.int (pf_sh j)), u] [] = some (pf_G h a b 12 2 0 fs (pf_fd pf_b199 id w j l n).1 (pf_fd pf_b199 id w j l n).2, .inl none)
  | 0, _, F, hF, l, n, u, hn, hl => by
    obtain ⟨N, rfl⟩ : ∃ N, F = N + 9 := ⟨F - 9, by omega⟩
    rw [pf_199a, pf_s0, cond_true, pf_199z]
    rfl
  | j + 1, hj, F, hF, l, n, u, hn, hl => by
    obtain ⟨N, rfl⟩ : ∃ N, F = N + 36 := ⟨F - 36, by omega⟩
    have ih := pf_199L (w := w) ha hb hab hf hk j (by omega)
    obtain ⟨q1, q2⟩ := pf_s1 j (by omega)
    rw [pf_199a (N := N + 27), q1, cond_false, pm_fi_eq]
    rw [show (w >>> ((pf_sh (j + 1)).toInt64 &&& 63)).toInt32 &&& (Int16.ofInt 255).toInt32 = pf_b199 w (pf_sh (j + 1)) from rfl]
    unfold pf_fd
    generalize pf_b199 w (pf_sh (j + 1)) = y
    rw [pf_199b (N := N + 24)]
    cases h10 : pm_cnd .eq y ((Int8.ofInt 10).toInt32) with
    | true =>
      have hs : pf_sg y = true := by unfold pf_sg; rw [h10]; rfl
      rw [if_pos hs, cond_true, pf_199e (N := N + 8) a b n w _ y ha hb hab hf hk (by omega) hl, pf_199g (N := N + 6), q2]
      exact ih _ (by omega) _ _ _ (by omega) (by rw [List.length_set]; exact hl)
    | false =>
      rw [cond_false, pf_199c (N := N + 21)]
      cases hlt : pm_cnd .lt y ((Int8.ofInt 32).toInt32) with
      | true =>
        have hs : pf_sg y = false := by unfold pf_sg; rw [h10, hlt]; rfl
        rw [if_neg (by rw [hs]; decide), cond_true, pf_199g (N := N + 19), q2]
        exact ih _ (by omega) _ _ _ (by omega) hl
      | false =>
        rw [cond_false, pf_199d (N := N + 18)]
        cases hgt : pm_cnd .gt y ((Int8.ofInt 126).toInt32) with
        | true =>
          have hs : pf_sg y = false := by unfold pf_sg; rw [h10, hlt, hgt]; rfl
          rw [if_neg (by rw [hs]; decide), cond_true, pf_199g (N := N + 16), q2]
          exact ih _ (by omega) _ _ _ (by omega) hl
        | false =>
          have hs : pf_sg y = true := by unfold pf_sg; rw [h10, hlt, hgt]; rfl
          rw [if_pos hs, cond_false, pf_199e (N := N + 2) a b n w _ y ha hb hab hf hk (by omega) hl, pf_199g (N := N), q2]
          exact ih _ (by omega) _ _ _ (by omega) (by rw [List.length_set]; exact hl)
end Pf
