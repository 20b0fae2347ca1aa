/-! longs that are counted: pw_l a -/
def pw_gm (h : pm_H) (c k : Nat) : Int := (pw_gl h c k).toInt
theorem pw_lToInt {a : Int} (h1 : -4611686018427387904 ≤ a) (h2 : a ≤ 4611686018427387904) : (Int64.ofInt a).toInt = a := Int64.toInt_ofInt_of_le (by omega) (by omega)
theorem pw_l0 {a : Int} (h1 : -4611686018427387904 ≤ a) (h2 : a ≤ 4611686018427387904) (h3 : a ≠ 0) : Int64.ofInt a ≠ 0 := by
  intro e
  have := congrArg Int64.toInt e
  rw [pw_lToInt h1 h2] at this
  have e0 : (0 : Int64).toInt = 0 := rfl
  omega
theorem pw_i2lE {a : Int} (h1 : -2147483648 ≤ a) (h2 : a ≤ 2147483647) : (Int32.ofInt a).toInt64 = Int64.ofInt a := by
  apply Int64.toInt_inj.mp
  rw [Int32.toInt_toInt64, pw_toInt h1 h2, pw_lToInt (by omega) (by omega)]
theorem pw_l2iE (a : Int) : (Int64.ofInt a).toInt32 = Int32.ofInt a := by
  apply Int32.toInt_inj.mp
  simp
theorem pw_remE {x y : Int64} (hy : y ≠ 0) : (x - x / y * y).toInt = x.toInt.tmod y.toInt := by
  have hy0 : y.toInt ≠ 0 := fun e => hy (Int64.toInt_inj.mp (by rw [e]; rfl))
  have e1 : x - x / y * y = Int64.ofInt (x.toInt - (x.toInt.tdiv y.toInt) * y.toInt) := by
    rw [Int64.ofInt_sub, Int64.ofInt_mul, Int64.ofInt_toInt, Int64.ofInt_toInt]
    congr 2
    apply Int64.toInt_inj.mp
    rw [Int64.toInt_div, Int64.toInt_ofInt]
  have e2 : x.toInt - (x.toInt.tdiv y.toInt) * y.toInt = x.toInt.tmod y.toInt := by
    have := Int.tmod_add_mul_tdiv x.toInt y.toInt
    have e3 : x.toInt.tdiv y.toInt * y.toInt = y.toInt * x.toInt.tdiv y.toInt := Int.mul_comm _ _
    omega
  rw [e1, e2]
  have hx1 := x.le_toInt
  have hx2 := x.toInt_lt
  have hlt : (x.toInt.tmod y.toInt).natAbs ≤ x.toInt.natAbs := by
    rw [Int.natAbs_tmod]
    exact Nat.mod_le _ _
  have hlt2 : (x.toInt.tmod y.toInt).natAbs < y.toInt.natAbs := by
    rw [Int.natAbs_tmod]
    exact Nat.mod_lt _ (by omega)
  have hy1 := y.le_toInt
  have hy2 := y.toInt_lt
  exact Int64.toInt_ofInt_of_le (by omega) (by omega)
theorem pw_remLt {x y : Int64} (hy : y ≠ 0) : (x - x / y * y).toInt.natAbs < y.toInt.natAbs := by
  have hy0 : y.toInt ≠ 0 := fun e => hy (Int64.toInt_inj.mp (by rw [e]; rfl))
  rw [pw_remE hy, Int.natAbs_tmod]
  exact Nat.mod_lt _ (by omega)
section Pl
variable {X : List (Nat × List Value)} {d : Nat} {h : pm_H} {m pc pc' len na nl own rt : Nat} {C : pm_T (Instr × Nat)} {ls ls' : pm_L} {st st' r : List Value} {Q : pm_H → (Option Value ⊕ Unit) → Prop} {i : Instr}
theorem pw_ladd {a b : Int} (he : pm_ent m = some (na, nl, own, rt, C)) (hq : pm_get C pc = some (.ladd, len)) (hc : pc + len = pc') (H : pw X d h m pc' ls (.long (Int64.ofInt (a + b)) :: r) Q) : pw X d h m pc ls (.long (Int64.ofInt b) :: .long (Int64.ofInt a) :: r) Q := by
  subst hc
  refine pw_ld he hq (st' := .long (Int64.ofInt (a + b)) :: r) (pc' := pc + len) (fun ih => ?_) H
  rw [Int64.ofInt_add]
  exact pm_fn_eq (pc + len) (fun q => ih d h m q ls (.long (Int64.ofInt a + Int64.ofInt b) :: r))
theorem pw_lsub {a b : Int} (he : pm_ent m = some (na, nl, own, rt, C)) (hq : pm_get C pc = some (.lsub, len)) (hc : pc + len = pc') (H : pw X d h m pc' ls (.long (Int64.ofInt (a - b)) :: r) Q) : pw X d h m pc ls (.long (Int64.ofInt b) :: .long (Int64.ofInt a) :: r) Q := by
  subst hc
  refine pw_ld he hq (st' := .long (Int64.ofInt (a - b)) :: r) (pc' := pc + len) (fun ih => ?_) H
  rw [Int64.ofInt_sub]
  exact pm_fn_eq (pc + len) (fun q => ih d h m q ls (.long (Int64.ofInt a - Int64.ofInt b) :: r))
theorem pw_lmul {a b : Int} (he : pm_ent m = some (na, nl, own, rt, C)) (hq : pm_get C pc = some (.lmul, len)) (hc : pc + len = pc') (H : pw X d h m pc' ls (.long (Int64.ofInt (a * b)) :: r) Q) : pw X d h m pc ls (.long (Int64.ofInt b) :: .long (Int64.ofInt a) :: r) Q := by
  subst hc
  refine pw_ld he hq (st' := .long (Int64.ofInt (a * b)) :: r) (pc' := pc + len) (fun ih => ?_) H
  rw [Int64.ofInt_mul]
  exact pm_fn_eq (pc + len) (fun q => ih d h m q ls (.long (Int64.ofInt a * Int64.ofInt b) :: r))
theorem pw_i2l {a : Int} (he : pm_ent m = some (na, nl, own, rt, C)) (hq : pm_get C pc = some (.i2l, len)) (hc : pc + len = pc') (h1 : -2147483648 ≤ a) (h2 : a ≤ 2147483647) (H : pw X d h m pc' ls (.long (Int64.ofInt a) :: r) Q) : pw X d h m pc ls (pw_i a :: r) Q := by
  subst hc
  refine pw_ld he hq (st' := .long (Int64.ofInt a) :: r) (pc' := pc + len) (fun ih => ?_) H
  rw [← pw_i2lE h1 h2]
  exact pm_fn_eq (pc + len) (fun q => ih d h m q ls (.long (Int32.ofInt a).toInt64 :: r))
theorem pw_l2iC {a : Int} (he : pm_ent m = some (na, nl, own, rt, C)) (hq : pm_get C pc = some (.l2i, len)) (hc : pc + len = pc') (H : pw X d h m pc' ls (pw_i a :: r) Q) : pw X d h m pc ls (.long (Int64.ofInt a) :: r) Q := by
  subst hc
  refine pw_ld he hq (st' := pw_i a :: r) (pc' := pc + len) (fun ih => ?_) H
  unfold pw_i
  rw [← pw_l2iE a]
  exact pm_fn_eq (pc + len) (fun q => ih d h m q ls (.int (Int64.ofInt a).toInt32 :: r))
theorem pw_lcmpC {a b : Int} (he : pm_ent m = some (na, nl, own, rt, C)) (hq : pm_get C pc = some (.lcmp, len)) (hc : pc + len = pc') (h1 : -4611686018427387904 ≤ a) (h2 : a ≤ 4611686018427387904) (h3 : -4611686018427387904 ≤ b) (h4 : b ≤ 4611686018427387904) (H : ∀ c : Int, (c = -1 ∧ a < b) ∨ (c = 0 ∧ a = b) ∨ (c = 1 ∧ b < a) → pw X d h m pc' ls (pw_i c :: r) Q) : pw X d h m pc ls (.long (Int64.ofInt b) :: .long (Int64.ofInt a) :: r) Q := by
  refine pw_lcmp he hq hc (fun c hc => H c ?_)
  rw [Int64.lt_iff_toInt_lt, Int64.lt_iff_toInt_lt, ← Int64.toInt_inj, pw_lToInt h1 h2, pw_lToInt h3 h4] at hc
  exact hc
theorem pw_getM {ix c ci k t a : Nat} {sps : List pw_F} {lo hi : Int} (I : pw_I h) (he : pm_ent m = some (na, nl, own, rt, C)) (hq : pm_get C pc = some (.getfield ix, len)) (hl : pm_get (pm_lnk own) ix = some (0, ci, k, t)) (hs : pw_T[c]? = some (.inr (ci, sps))) (hk : sps[k]? = some (4, lo, hi)) (ha : 16 + c = a) (hc : pc + len = pc') (H : lo ≤ pw_gm h c k → pw_gm h c k ≤ hi → pw X d h m pc' ls (.long (Int64.ofInt (pw_gm h c k)) :: r) Q) : pw X d h m pc ls (.ref a :: r) Q := by
  obtain ⟨fs, v, h1, h2, h3, b, rfl, h4, h5, h6, h7⟩ := pw_fld I hs hk
  have e : pw_gm h c k = b := by
    unfold pw_gm pw_gl
    rw [h3]
    exact pw_lToInt h6 h7
  rw [e] at H
  exact pw_get0 he hq hl h1 h2 ha hc (H h4 h5)
theorem pw_putM {ix c ci k a : Nat} {sps : List pw_F} {lo hi b : Int} (I : pw_I h) (he : pm_ent m = some (na, nl, own, rt, C)) (hq : pm_get C pc = some (.putfield ix, len)) (hl : pm_get (pm_lnk own) ix = some (0, ci, k, 2)) (hs : pw_T[c]? = some (.inr (ci, sps))) (hk : sps[k]? = some (4, lo, hi)) (h1 : lo ≤ b) (h2 : b ≤ hi) (h3 : -4611686018427387904 ≤ b) (h4 : b ≤ 4611686018427387904) (ha : 16 + c = a) (hc : pc + len = pc')
    (H : pw_I (pw_w h c k (.long (Int64.ofInt b))) → pw_E [c] h (pw_w h c k (.long (Int64.ofInt b))) → pw X d (pw_w h c k (.long (Int64.ofInt b))) m pc' ls r Q) (hp : pw_np c k = true := by rfl) : pw X d h m pc ls (.long (Int64.ofInt b) :: .ref a :: r) Q := pw_put0 I he hq hl hs hk ⟨b, rfl, h1, h2, h3, h4⟩ rfl rfl ha hc H hp
end Pl
theorem pw_gm_ne {h : pm_H} {c k c' k' : Nat} {v : Value} (hn : ¬ (c = c' ∧ k = k')) : pw_gm (pw_w h c k v) c' k' = pw_gm h c' k' := by
  unfold pw_gm pw_gl
  rw [pw_at_ne hn]
theorem pw_gm_eq {h : pm_H} {c ci k : Nat} {sps : List pw_F} {sp : pw_F} {b : Int} (I : pw_I h) (hs : pw_T[c]? = some (.inr (ci, sps))) (hk : sps[k]? = some sp) (h1 : -4611686018427387904 ≤ b) (h2 : b ≤ 4611686018427387904) : pw_gm (pw_w h c k (.long (Int64.ofInt b))) c k = b := by
  obtain ⟨fs, v, e1, e2, e3, -⟩ := pw_fld I hs hk
  unfold pw_gm pw_gl
  rw [pw_at_w (by rw [e3]; rfl), if_pos ⟨rfl, rfl⟩]
  exact pw_lToInt h1 h2
theorem pw_Egm {h h' : pm_H} {c : Nat} {W : List Nat} {s : pw_S} (I : pw_I h) (E : pw_E W h h') (hs : pw_T[c]? = some s) (hn : W.contains c = false) (k : Nat) : pw_gm h' c k = pw_gm h c k := by
  obtain ⟨q, e1, -⟩ := I.1 c s hs
  unfold pw_gm pw_gl
  rw [E.at (List.getElem?_eq_some_iff.mp e1).1 hn]
theorem pw_mulB {a b A B : Int} (h1 : 0 ≤ a) (h2 : a ≤ A) (h3 : 0 ≤ b) (h4 : b ≤ B) : 0 ≤ a * b ∧ a * b ≤ A * B ∧ (1 ≤ a → 1 ≤ b → 1 ≤ a * b) := by
  refine ⟨Int.mul_nonneg h1 h3, Int.mul_le_mul h2 h4 h3 (by omega), fun g1 g2 => ?_⟩
  have := Int.mul_le_mul g1 g2 (by omega) h1
  omega
