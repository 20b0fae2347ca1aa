/-! reasoning over the picture machine: a run that comes to an end with Q, with any number of steps from some on (printed by wip/tool/wp.py) -/
def pw (X : List (Nat × List Value)) (d : Nat) (h : pm_H) (m pc : Nat) (ls : pm_L) (st : List Value) (Q : pm_H → (Option Value ⊕ Unit) → Prop) : Prop :=
  ∃ n0 o, Q o.1 o.2 ∧ ∀ n, n0 ≤ n → pm_x X n d h m pc ls st = some o
def pw_i (a : Int) : Value := .int (Int32.ofInt a)
theorem pw_toInt {a : Int} (h1 : -2147483648 ≤ a) (h2 : a ≤ 2147483647) : (Int32.ofInt a).toInt = a := Int32.toInt_ofInt_of_le (by omega) (by omega)
theorem pw_lt {a b : Int} (h1 : -2147483648 ≤ a) (h2 : a ≤ 2147483647) (h3 : -2147483648 ≤ b) (h4 : b ≤ 2147483647) : Int32.ofInt a < Int32.ofInt b ↔ a < b := by
  rw [Int32.lt_iff_toInt_lt, pw_toInt h1 h2, pw_toInt h3 h4]
theorem pw_le {a b : Int} (h1 : -2147483648 ≤ a) (h2 : a ≤ 2147483647) (h3 : -2147483648 ≤ b) (h4 : b ≤ 2147483647) : Int32.ofInt a ≤ Int32.ofInt b ↔ a ≤ b := by
  rw [Int32.le_iff_toInt_le, pw_toInt h1 h2, pw_toInt h3 h4]
theorem pw_eq {a b : Int} (h1 : -2147483648 ≤ a) (h2 : a ≤ 2147483647) (h3 : -2147483648 ≤ b) (h4 : b ≤ 2147483647) : Int32.ofInt a = Int32.ofInt b ↔ a = b := by
  rw [← Int32.toInt_inj, pw_toInt h1 h2, pw_toInt h3 h4]
theorem pw_clamp {a : Int} (h1 : 0 ≤ a) (h2 : a ≤ 2147483647) : (Int32.ofInt a).toNatClampNeg = a.toNat := by
  show (Int32.ofInt a).toInt.toNat = a.toNat
  rw [pw_toInt (by omega) h2]
theorem pw_neg {a : Int} (h1 : 0 ≤ a) (h2 : a ≤ 2147483647) : ¬ Int32.ofInt a < 0 := by
  have e : (0 : Int32) = Int32.ofInt 0 := rfl
  rw [e, pw_lt (by omega) h2 (by omega) (by omega)]
  omega
/-- every int is one of them -/
theorem pw_any (x : Int32) : ∃ a : Int, -2147483648 ≤ a ∧ a ≤ 2147483647 ∧ Value.int x = pw_i a := by
  refine ⟨x.toInt, by have := x.le_toInt; omega, by have := x.toInt_lt; omega, ?_⟩
  unfold pw_i
  rw [Int32.ofInt_toInt]
/-- how two numbers stand: what a condition says of them -/
def pw_c (c : ClassFile.Cond) (a b : Int) : Prop := match c with
  | .eq => a = b
  | .ne => a ≠ b
  | .lt => a < b
  | .ge => b ≤ a
  | .gt => b < a
  | .le => a ≤ b
theorem pw_cnd {c : ClassFile.Cond} {a b : Int} (h1 : -2147483648 ≤ a) (h2 : a ≤ 2147483647) (h3 : -2147483648 ≤ b) (h4 : b ≤ 2147483647) : pm_cnd c (Int32.ofInt a) (Int32.ofInt b) = true ↔ pw_c c a b := by
  cases c with
  | eq => show decide _ = true ↔ a = b; rw [decide_eq_true_eq, pw_eq h1 h2 h3 h4]
  | ne => show (!decide _) = true ↔ a ≠ b; rw [Bool.not_eq_true', decide_eq_false_iff_not, pw_eq h1 h2 h3 h4]
  | lt => show decide _ = true ↔ a < b; rw [decide_eq_true_eq, pw_lt h1 h2 h3 h4]
  | ge => show decide _ = true ↔ b ≤ a; rw [decide_eq_true_eq, pw_le h3 h4 h1 h2]
  | gt => show decide _ = true ↔ b < a; rw [decide_eq_true_eq, pw_lt h3 h4 h1 h2]
  | le => show decide _ = true ↔ a ≤ b; rw [decide_eq_true_eq, pw_le h1 h2 h3 h4]
section Pw
variable {X : List (Nat × List Value)} {d : Nat} {h h' : pm_H} {m pc pc' len na nl own rt : Nat} {C : pm_T (Instr × Nat)} {ls ls' : pm_L} {st st' r : List Value} {Q : pm_H → (Option Value ⊕ Unit) → Prop} {i : Instr}
theorem pw_go (he : pm_ent m = some (na, nl, own, rt, C)) (hq : pm_get C pc = some (i, len)) (hs : ∀ ih : pm_I, pm_dsp X i ih d h m own pc len ls st = ih d h' m pc' ls' st') (H : pw X d h' m pc' ls' st' Q) : pw X d h m pc ls st Q := by
  obtain ⟨n0, o, hQ, hn⟩ := H
  refine ⟨n0 + 1, o, hQ, fun n hn' => ?_⟩
  obtain ⟨k, rfl⟩ : ∃ k, n = k + 1 := ⟨n - 1, by omega⟩
  rw [pm_x_at he hq]
  exact (hs _).trans (hn k (by omega))
/-- loads, constants: the stack alone changes -/
theorem pw_ld (he : pm_ent m = some (na, nl, own, rt, C)) (hq : pm_get C pc = some (i, len)) (hs : ∀ ih : pm_I, pm_dsp X i ih d h m own pc len ls st = ih d h m pc' ls st') (H : pw X d h m pc' ls st' Q) : pw X d h m pc ls st Q := pw_go he hq hs H
theorem pw_end {v : Option Value ⊕ Unit} (he : pm_ent m = some (na, nl, own, rt, C)) (hq : pm_get C pc = some (i, len)) (hs : ∀ ih : pm_I, pm_dsp X i ih d h m own pc len ls st = some (h, v)) (H : Q h v) : pw X d h m pc ls st Q := by
  refine ⟨1, (h, v), H, fun n hn' => ?_⟩
  obtain ⟨k, rfl⟩ : ∃ k, n = k + 1 := ⟨n - 1, by omega⟩
  rw [pm_x_at he hq]
  exact hs _
theorem pw_mono {Q' : pm_H → (Option Value ⊕ Unit) → Prop} (H : pw X d h m pc ls st Q) (hq : ∀ h v, Q h v → Q' h v) : pw X d h m pc ls st Q' := by
  obtain ⟨n0, o, hQ, hn⟩ := H
  exact ⟨n0, o, hq _ _ hQ, hn⟩
/-- the top of the stack by another name -/
theorem pw_nm {a : Int} (H : ∀ b : Int, -2147483648 ≤ b → b ≤ 2147483647 → pw X d h m pc ls (pw_i b :: r) Q) : pw X d h m pc ls (pw_i a :: r) Q := by
  obtain ⟨b, h1, h2, h3⟩ := pw_any (Int32.ofInt a)
  have h3 : pw_i a = pw_i b := h3
  rw [h3]
  exact H b h1 h2
theorem pw_nmx {x : Int32} (H : ∀ b : Int, -2147483648 ≤ b → b ≤ 2147483647 → pw X d h m pc ls (pw_i b :: r) Q) : pw X d h m pc ls (.int x :: r) Q := by
  obtain ⟨b, h1, h2, h3⟩ := pw_any x
  rw [h3]
  exact H b h1 h2
theorem pw_bip {n : Int} (he : pm_ent m = some (na, nl, own, rt, C)) (hq : pm_get C pc = some (.bipush n, len)) (hc : pc + len = pc') (hv : (Int8.ofInt n).toInt32 = Int32.ofInt n) (H : pw X d h m pc' ls (pw_i n :: st) Q) : pw X d h m pc ls st Q := by
  subst hc
  refine pw_ld he hq (st' := .int (Int8.ofInt n).toInt32 :: st) (pc' := pc + len) (fun ih => ?_) (by rw [hv]; exact H)
  exact pm_fn_eq (pc + len) (fun q => ih d h m q ls (.int (Int8.ofInt n).toInt32 :: st))
theorem pw_sip {n : Int} (he : pm_ent m = some (na, nl, own, rt, C)) (hq : pm_get C pc = some (.sipush n, len)) (hc : pc + len = pc') (hv : (Int16.ofInt n).toInt32 = Int32.ofInt n) (H : pw X d h m pc' ls (pw_i n :: st) Q) : pw X d h m pc ls st Q := by
  subst hc
  refine pw_ld he hq (st' := .int (Int16.ofInt n).toInt32 :: st) (pc' := pc + len) (fun ih => ?_) (by rw [hv]; exact H)
  exact pm_fn_eq (pc + len) (fun q => ih d h m q ls (.int (Int16.ofInt n).toInt32 :: st))
theorem pw_ldc {ix n b z : Nat} {a : Int} (he : pm_ent m = some (na, nl, own, rt, C)) (hq : pm_get C pc = some (.ldc ix, len)) (hl : pm_get (pm_lnk own) ix = some (8, n, b, z)) (hc : pc + len = pc') (hv : Int32.ofNat n = Int32.ofInt a) (H : pw X d h m pc' ls (pw_i a :: st) Q) : pw X d h m pc ls st Q := by
  subst hc
  refine pw_ld he hq (st' := .int (Int32.ofNat n) :: st) (pc' := pc + len) (fun ih => ?_) (by rw [hv]; exact H)
  show pm_gLdc ix ih d h m own pc len ls st = _
  unfold pm_gLdc
  rw [hl]
  exact pm_fn_eq (pc + len) (fun q => ih d h m q ls (.int (Int32.ofNat n) :: st))
theorem pw_ldcw {ix n b z : Nat} {a : Int} (he : pm_ent m = some (na, nl, own, rt, C)) (hq : pm_get C pc = some (.ldc_w ix, len)) (hl : pm_get (pm_lnk own) ix = some (8, n, b, z)) (hc : pc + len = pc') (hv : Int32.ofNat n = Int32.ofInt a) (H : pw X d h m pc' ls (pw_i a :: st) Q) : pw X d h m pc ls st Q := by
  subst hc
  refine pw_ld he hq (st' := .int (Int32.ofNat n) :: st) (pc' := pc + len) (fun ih => ?_) (by rw [hv]; exact H)
  show pm_gLdw ix ih d h m own pc len ls st = _
  unfold pm_gLdw
  rw [hl]
  exact pm_fn_eq (pc + len) (fun q => ih d h m q ls (.int (Int32.ofNat n) :: st))

theorem pw_ist {k : Nat} {a : Int} (he : pm_ent m = some (na, nl, own, rt, C)) (hq : pm_get C pc = some (.istore k, len)) (hk : Nat.blt k (pm_len ls) = true) (hp : pm_put1 ls k (pw_i a) = ls') (hc : pc + len = pc') (H : pw X d h m pc' ls' r Q) : pw X d h m pc ls (pw_i a :: r) Q := by
  subst hc; subst hp
  refine pw_go he hq (fun ih => ?_) H
  show cond (Nat.blt k (pm_len ls)) (pm_fi (Int32.ofInt a) fun y => pm_fn (pc + len) fun q => ih d h m q (pm_put1 ls k (.int y)) r) none = _
  rw [hk, cond_true, pm_fi_eq, pm_fn_eq]
  rfl
theorem pw_istn {k : Fin 4} {a : Int} (he : pm_ent m = some (na, nl, own, rt, C)) (hq : pm_get C pc = some (.istore_n k, len)) (hk : Nat.blt k.val (pm_len ls) = true) (hp : pm_put1 ls k.val (pw_i a) = ls') (hc : pc + len = pc') (H : pw X d h m pc' ls' r Q) : pw X d h m pc ls (pw_i a :: r) Q := by
  subst hc; subst hp
  refine pw_go he hq (fun ih => ?_) H
  show cond (Nat.blt k.val (pm_len ls)) (pm_fi (Int32.ofInt a) fun y => pm_fn (pc + len) fun q => ih d h m q (pm_put1 ls k.val (.int y)) r) none = _
  rw [hk, cond_true, pm_fi_eq, pm_fn_eq]
  rfl
theorem pw_lst {k : Nat} {w : Int64} (he : pm_ent m = some (na, nl, own, rt, C)) (hq : pm_get C pc = some (.lstore k, len)) (hk : Nat.blt (k + 1) (pm_len ls) = true) (hp : pm_put2 ls k (.long w) = ls') (hc : pc + len = pc') (H : pw X d h m pc' ls' r Q) : pw X d h m pc ls (.long w :: r) Q := by
  subst hc; subst hp
  refine pw_go he hq (fun ih => ?_) H
  show cond (Nat.blt (k + 1) (pm_len ls)) (pm_fl w fun y => pm_fn (pc + len) fun q => ih d h m q (pm_put2 ls k (.long y)) r) none = _
  rw [hk, cond_true, pm_fl_eq, pm_fn_eq]
theorem pw_lstn {k : Fin 4} {w : Int64} (he : pm_ent m = some (na, nl, own, rt, C)) (hq : pm_get C pc = some (.lstore_n k, len)) (hk : Nat.blt (k.val + 1) (pm_len ls) = true) (hp : pm_put2 ls k.val (.long w) = ls') (hc : pc + len = pc') (H : pw X d h m pc' ls' r Q) : pw X d h m pc ls (.long w :: r) Q := by
  subst hc; subst hp
  refine pw_go he hq (fun ih => ?_) H
  show cond (Nat.blt (k.val + 1) (pm_len ls)) (pm_fl w fun y => pm_fn (pc + len) fun q => ih d h m q (pm_put2 ls k.val (.long y)) r) none = _
  rw [hk, cond_true, pm_fl_eq, pm_fn_eq]
theorem pw_ast {k : Nat} {a : Nat} (he : pm_ent m = some (na, nl, own, rt, C)) (hq : pm_get C pc = some (.astore k, len)) (hk : Nat.blt k (pm_len ls) = true) (hp : pm_put1 ls k (.ref a) = ls') (hc : pc + len = pc') (H : pw X d h m pc' ls' r Q) : pw X d h m pc ls (.ref a :: r) Q := by
  subst hc; subst hp
  refine pw_go he hq (fun ih => ?_) H
  show cond (Nat.blt k (pm_len ls)) (pm_fn (pc + len) fun q => ih d h m q (pm_put1 ls k (.ref a)) r) none = _
  rw [hk, cond_true, pm_fn_eq]
theorem pw_astn {k : Fin 4} {a : Nat} (he : pm_ent m = some (na, nl, own, rt, C)) (hq : pm_get C pc = some (.astore_n k, len)) (hk : Nat.blt k.val (pm_len ls) = true) (hp : pm_put1 ls k.val (.ref a) = ls') (hc : pc + len = pc') (H : pw X d h m pc' ls' r Q) : pw X d h m pc ls (.ref a :: r) Q := by
  subst hc; subst hp
  refine pw_go he hq (fun ih => ?_) H
  show cond (Nat.blt k.val (pm_len ls)) (pm_fn (pc + len) fun q => ih d h m q (pm_put1 ls k.val (.ref a)) r) none = _
  rw [hk, cond_true, pm_fn_eq]
theorem pw_inc {k : Nat} {n a : Int} (he : pm_ent m = some (na, nl, own, rt, C)) (hq : pm_get C pc = some (.iinc k n, 3)) (hl : pm_nth ls k = some (some (pw_i a))) (hp : pm_put1 ls k (pw_i (a + n)) = ls') (hc : pc + 3 = pc') (H : pw X d h m pc' ls' st Q) : pw X d h m pc ls st Q := by
  subst hc; subst hp
  refine pw_go he hq (fun ih => ?_) H
  show pm_lift (pm_sInc k n) ih d h m own pc 3 ls st = _
  unfold pm_lift pm_sInc
  rw [hl]
  show cond (Nat.beq 3 3) (pm_fi (Int32.ofInt a + Int32.ofInt n) fun y => pm_fn (pc + 3) fun q => ih d h m q (pm_put1 ls k (.int y)) st) none = _
  rw [Nat.beq_refl, cond_true, pm_fi_eq, pm_fn_eq, ← Int32.ofInt_add]
  rfl
theorem pw_add {a b : Int} (he : pm_ent m = some (na, nl, own, rt, C)) (hq : pm_get C pc = some (.iadd, len)) (hc : pc + len = pc') (H : pw X d h m pc' ls (pw_i (a + b) :: r) Q) : pw X d h m pc ls (pw_i b :: pw_i a :: r) Q := by
  subst hc
  refine pw_ld he hq (st' := pw_i (a + b) :: r) (pc' := pc + len) (fun ih => ?_) H
  unfold pw_i
  rw [Int32.ofInt_add]
  exact pm_fn_eq (pc + len) (fun q => ih d h m q ls (.int (Int32.ofInt a + Int32.ofInt b) :: r))
theorem pw_sub {a b : Int} (he : pm_ent m = some (na, nl, own, rt, C)) (hq : pm_get C pc = some (.isub, len)) (hc : pc + len = pc') (H : pw X d h m pc' ls (pw_i (a - b) :: r) Q) : pw X d h m pc ls (pw_i b :: pw_i a :: r) Q := by
  subst hc
  refine pw_ld he hq (st' := pw_i (a - b) :: r) (pc' := pc + len) (fun ih => ?_) H
  unfold pw_i
  rw [Int32.ofInt_sub]
  exact pm_fn_eq (pc + len) (fun q => ih d h m q ls (.int (Int32.ofInt a - Int32.ofInt b) :: r))
theorem pw_mul {a b : Int} (he : pm_ent m = some (na, nl, own, rt, C)) (hq : pm_get C pc = some (.imul, len)) (hc : pc + len = pc') (H : pw X d h m pc' ls (pw_i (a * b) :: r) Q) : pw X d h m pc ls (pw_i b :: pw_i a :: r) Q := by
  subst hc
  refine pw_ld he hq (st' := pw_i (a * b) :: r) (pc' := pc + len) (fun ih => ?_) H
  unfold pw_i
  rw [Int32.ofInt_mul]
  exact pm_fn_eq (pc + len) (fun q => ih d h m q ls (.int (Int32.ofInt a * Int32.ofInt b) :: r))
theorem pw_ineg {a : Int} (he : pm_ent m = some (na, nl, own, rt, C)) (hq : pm_get C pc = some (.ineg, len)) (hc : pc + len = pc') (H : pw X d h m pc' ls (pw_i (-a) :: r) Q) : pw X d h m pc ls (pw_i a :: r) Q := by
  subst hc
  refine pw_ld he hq (st' := pw_i (-a) :: r) (pc' := pc + len) (fun ih => ?_) H
  unfold pw_i
  rw [Int32.ofInt_neg]
  exact pm_fn_eq (pc + len) (fun q => ih d h m q ls (.int (-Int32.ofInt a) :: r))
/-- an operation on two ints of which only that it answers an int is wanted -/
theorem pw_ii {f : Int32 → Int32 → Int32} {a b : Int} (he : pm_ent m = some (na, nl, own, rt, C)) (hq : pm_get C pc = some (i, len)) (hs : ∀ ih : pm_I, pm_dsp X i ih d h m own pc len ls (pw_i b :: pw_i a :: r) = ih d h m pc' ls (.int (f (Int32.ofInt a) (Int32.ofInt b)) :: r)) (H : ∀ c : Int, -2147483648 ≤ c → c ≤ 2147483647 → pw X d h m pc' ls (pw_i c :: r) Q) : pw X d h m pc ls (pw_i b :: pw_i a :: r) Q := pw_ld he hq hs (pw_nmx H)
theorem pw_divE {a b : Int} (h1 : 0 ≤ a) (h2 : a ≤ 2147483647) (h3 : 0 < b) (h4 : b ≤ 2147483647) : Int32.ofInt a / Int32.ofInt b = Int32.ofInt (a / b) := by
  have hab : 0 ≤ a / b := Int.ediv_nonneg h1 (by omega)
  have hle : a / b ≤ a := Int.ediv_le_self b h1
  apply Int32.toInt_inj.mp
  rw [Int32.toInt_div_of_ne_right _ _ (fun e => by
    have := congrArg Int32.toInt e
    rw [pw_toInt (by omega) h4] at this
    have e1 : (-1 : Int32).toInt = -1 := rfl
    omega), pw_toInt (by omega) h2, pw_toInt (by omega) h4, pw_toInt (by omega) (by omega), Int.tdiv_eq_ediv_of_nonneg h1]
theorem pw_n0 {b : Int} (h3 : b ≠ 0) (h1 : -2147483648 ≤ b) (h2 : b ≤ 2147483647) : ¬ Int32.ofInt b = 0 := by
  have e : (0 : Int32) = Int32.ofInt 0 := rfl
  rw [e, pw_eq h1 h2 (by omega) (by omega)]
  exact h3
theorem pw_div {a b : Int} (he : pm_ent m = some (na, nl, own, rt, C)) (hq : pm_get C pc = some (.idiv, len)) (hc : pc + len = pc') (h1 : 0 ≤ a) (h2 : a ≤ 2147483647) (h3 : 0 < b) (h4 : b ≤ 2147483647) (H : pw X d h m pc' ls (pw_i (a / b) :: r) Q) : pw X d h m pc ls (pw_i b :: pw_i a :: r) Q := by
  subst hc
  refine pw_ld he hq (st' := pw_i (a / b) :: r) (pc' := pc + len) (fun ih => ?_) H
  show cond (decide (Int32.ofInt b = 0)) none (pm_fn (pc + len) fun q => ih d h m q ls (.int (Int32.ofInt a / Int32.ofInt b) :: r)) = _
  rw [decide_eq_false (pw_n0 (by omega) (by omega) h4), cond_false, pm_fn_eq, pw_divE h1 h2 h3 h4]
  rfl
theorem pw_rem {a b : Int} (he : pm_ent m = some (na, nl, own, rt, C)) (hq : pm_get C pc = some (.irem, len)) (hc : pc + len = pc') (h1 : 0 ≤ a) (h2 : a ≤ 2147483647) (h3 : 0 < b) (h4 : b ≤ 2147483647) (H : pw X d h m pc' ls (pw_i (a % b) :: r) Q) : pw X d h m pc ls (pw_i b :: pw_i a :: r) Q := by
  subst hc
  refine pw_ld he hq (st' := pw_i (a % b) :: r) (pc' := pc + len) (fun ih => ?_) H
  show cond (decide (Int32.ofInt b = 0)) none (pm_fn (pc + len) fun q => ih d h m q ls (.int (Int32.ofInt a - Int32.ofInt a / Int32.ofInt b * Int32.ofInt b) :: r)) = _
  rw [decide_eq_false (pw_n0 (by omega) (by omega) h4), cond_false, pm_fn_eq, pw_divE h1 h2 h3 h4, ← Int32.ofInt_mul, ← Int32.ofInt_sub]
  have e : a - a / b * b = a % b := by
    have := Int.mul_ediv_add_emod a b
    have e2 : a / b * b = b * (a / b) := Int.mul_comm _ _
    omega
  rw [e]
  rfl
theorem pw_divA {f : Int32 → Int32 → Int32} {a b : Int} (he : pm_ent m = some (na, nl, own, rt, C)) (hq : pm_get C pc = some (i, len)) (hi : pm_dsp X i = pm_lift (pm_sIIz f)) (hc : pc + len = pc') (h3 : b ≠ 0) (h4 : -2147483648 ≤ b) (h5 : b ≤ 2147483647) (H : ∀ c : Int, -2147483648 ≤ c → c ≤ 2147483647 → pw X d h m pc' ls (pw_i c :: r) Q) : pw X d h m pc ls (pw_i b :: pw_i a :: r) Q := by
  subst hc
  refine pw_ld he hq (st' := .int (f (Int32.ofInt a) (Int32.ofInt b)) :: r) (pc' := pc + len) (fun ih => ?_) (pw_nmx H)
  rw [hi]
  show cond (decide (Int32.ofInt b = 0)) none (pm_fn (pc + len) fun q => ih d h m q ls (.int (f (Int32.ofInt a) (Int32.ofInt b)) :: r)) = _
  rw [decide_eq_false (pw_n0 h3 h4 h5), cond_false, pm_fn_eq]
theorem pw_ldivA {f : Int64 → Int64 → Int64} {a b : Int64} (he : pm_ent m = some (na, nl, own, rt, C)) (hq : pm_get C pc = some (i, len)) (hi : pm_dsp X i = pm_lift (pm_sLLz f)) (hc : pc + len = pc') (h3 : b ≠ 0) (H : pw X d h m pc' ls (.long (f a b) :: r) Q) : pw X d h m pc ls (.long b :: .long a :: r) Q := by
  subst hc
  refine pw_ld he hq (st' := .long (f a b) :: r) (pc' := pc + len) (fun ih => ?_) H
  rw [hi]
  show cond (decide (b = 0)) none (pm_fn (pc + len) fun q => ih d h m q ls (.long (f a b) :: r)) = _
  rw [decide_eq_false h3, cond_false, pm_fn_eq]
theorem pw_lcmp {a b : Int64} (he : pm_ent m = some (na, nl, own, rt, C)) (hq : pm_get C pc = some (.lcmp, len)) (hc : pc + len = pc') (H : ∀ c : Int, (c = -1 ∧ a < b) ∨ (c = 0 ∧ a = b) ∨ (c = 1 ∧ b < a) → pw X d h m pc' ls (pw_i c :: r) Q) : pw X d h m pc ls (.long b :: .long a :: r) Q := by
  subst hc
  refine pw_ld he hq (st' := Value.int (lg_cmp a b) :: r) (pc' := pc + len) (fun ih => ?_) ?_
  · exact pm_fn_eq (pc + len) (fun q => ih d h m q ls (Value.int (lg_cmp a b) :: r))
  · unfold lg_cmp
    by_cases h1 : a > b
    · rw [if_pos h1]
      exact H 1 (Or.inr (Or.inr ⟨rfl, h1⟩))
    · by_cases h2 : a = b
      · rw [if_neg h1, if_pos h2]
        exact H 0 (Or.inr (Or.inl ⟨rfl, h2⟩))
      · rw [if_neg h1, if_neg h2]
        exact H (-1) (Or.inl ⟨rfl, Int64.lt_of_le_of_ne (Int64.not_lt.mp h1) h2⟩)
theorem pw_l2i {w : Int64} (he : pm_ent m = some (na, nl, own, rt, C)) (hq : pm_get C pc = some (.l2i, len)) (hc : pc + len = pc') (H : ∀ c : Int, -2147483648 ≤ c → c ≤ 2147483647 → pw X d h m pc' ls (pw_i c :: r) Q) : pw X d h m pc ls (.long w :: r) Q := by
  subst hc
  refine pw_ld he hq (st' := .int w.toInt32 :: r) (pc' := pc + len) (fun ih => ?_) (pw_nmx H)
  exact pm_fn_eq (pc + len) (fun q => ih d h m q ls (.int w.toInt32 :: r))
theorem pw_goto {off : Int} (he : pm_ent m = some (na, nl, own, rt, C)) (hq : pm_get C pc = some (.goto off, len)) (ht : (pc : Int) + off = (pc' : Int)) (H : pw X d h m pc' ls st Q) : pw X d h m pc ls st Q := by
  refine pw_ld he hq (pc' := pc') (st' := st) (fun ih => ?_) H
  show pm_to ((pc : Int) + off) (fun t => ih d h m t ls st) = _
  rw [ht]
  exact pm_fn_eq pc' (fun t => ih d h m t ls st)
theorem pw_if {c : ClassFile.Cond} {off a : Int} (he : pm_ent m = some (na, nl, own, rt, C)) (hq : pm_get C pc = some (.ifCond c off, len)) (ht : (pc : Int) + off = (pc' : Int)) (h1 : -2147483648 ≤ a) (h2 : a ≤ 2147483647) (HT : pw_c c a 0 → pw X d h m pc' ls r Q) (HF : ¬ pw_c c a 0 → pw X d h m (pc + 3) ls r Q) : pw X d h m pc ls (pw_i a :: r) Q := by
  have key : ∀ ih : pm_I, pm_dsp X (.ifCond c off) ih d h m own pc len ls (pw_i a :: r) = cond (pm_cnd c (Int32.ofInt a) (Int32.ofInt 0)) (ih d h m pc' ls r) (ih d h m (pc + 3) ls r) := by
    intro ih
    show pm_to ((pc : Int) + off) (fun t => cond (pm_cnd c (Int32.ofInt a) 0) (ih d h m t ls r) (pm_fn (pc + 3) fun q => ih d h m q ls r)) = _
    rw [ht]
    rw [pm_fn_eq (pc + 3)]
    exact pm_fn_eq pc' (fun t => cond (pm_cnd c (Int32.ofInt a) 0) (ih d h m t ls r) (ih d h m (pc + 3) ls r))
  by_cases hc : pm_cnd c (Int32.ofInt a) (Int32.ofInt 0) = true
  · refine pw_ld he hq (fun ih => ?_) (HT ((pw_cnd h1 h2 (by omega) (by omega)).mp hc))
    rw [key, hc, cond_true]
  · refine pw_ld he hq (fun ih => ?_) (HF (fun q => hc ((pw_cnd h1 h2 (by omega) (by omega)).mpr q)))
    rw [key, Bool.not_eq_true _ |>.mp hc, cond_false]
theorem pw_if2 {c : ClassFile.Cond} {off a b : Int} (he : pm_ent m = some (na, nl, own, rt, C)) (hq : pm_get C pc = some (.if_icmp c off, len)) (ht : (pc : Int) + off = (pc' : Int)) (h1 : -2147483648 ≤ a) (h2 : a ≤ 2147483647) (h3 : -2147483648 ≤ b) (h4 : b ≤ 2147483647) (HT : pw_c c a b → pw X d h m pc' ls r Q) (HF : ¬ pw_c c a b → pw X d h m (pc + 3) ls r Q) : pw X d h m pc ls (pw_i b :: pw_i a :: r) Q := by
  have key : ∀ ih : pm_I, pm_dsp X (.if_icmp c off) ih d h m own pc len ls (pw_i b :: pw_i a :: r) = cond (pm_cnd c (Int32.ofInt a) (Int32.ofInt b)) (ih d h m pc' ls r) (ih d h m (pc + 3) ls r) := by
    intro ih
    show pm_to ((pc : Int) + off) (fun t => cond (pm_cnd c (Int32.ofInt a) (Int32.ofInt b)) (ih d h m t ls r) (pm_fn (pc + 3) fun q => ih d h m q ls r)) = _
    rw [ht]
    rw [pm_fn_eq (pc + 3)]
    exact pm_fn_eq pc' (fun t => cond (pm_cnd c (Int32.ofInt a) (Int32.ofInt b)) (ih d h m t ls r) (ih d h m (pc + 3) ls r))
  by_cases hc : pm_cnd c (Int32.ofInt a) (Int32.ofInt b) = true
  · refine pw_ld he hq (fun ih => ?_) (HT ((pw_cnd h1 h2 h3 h4).mp hc))
    rw [key, hc, cond_true]
  · refine pw_ld he hq (fun ih => ?_) (HF (fun q => hc ((pw_cnd h1 h2 h3 h4).mpr q)))
    rw [key, Bool.not_eq_true _ |>.mp hc, cond_false]
theorem pw_tswD {df lo hi a : Int} {offs : Array Int} (he : pm_ent m = some (na, nl, own, rt, C)) (hq : pm_get C pc = some (.tableswitch df lo hi offs, len)) (h1 : -2147483648 ≤ a) (h2 : a ≤ 2147483647) (ho : a < lo ∨ hi < a) (ht : (pc : Int) + df = (pc' : Int)) (H : pw X d h m pc' ls r Q) : pw X d h m pc ls (pw_i a :: r) Q := by
  refine pw_ld he hq (fun ih => ?_) H
  show pm_tsw (Int32.ofInt a).toInt lo hi df offs (fun o => pm_to ((pc : Int) + o) fun t => ih d h m t ls r) = _
  unfold pm_tsw
  rw [pw_toInt h1 h2, if_pos ho]
  show pm_to ((pc : Int) + df) (fun t => ih d h m t ls r) = _
  rw [ht]
  exact pm_fn_eq pc' (fun t => ih d h m t ls r)
theorem pw_tswJ {df lo hi a o : Int} {offs : Array Int} (he : pm_ent m = some (na, nl, own, rt, C)) (hq : pm_get C pc = some (.tableswitch df lo hi offs, len)) (h1 : -2147483648 ≤ a) (h2 : a ≤ 2147483647) (ho : ¬ (a < lo ∨ hi < a)) (hj : pm_nth offs.toList (a - lo).toNat = some o) (ht : (pc : Int) + o = (pc' : Int)) (H : pw X d h m pc' ls r Q) : pw X d h m pc ls (pw_i a :: r) Q := by
  refine pw_ld he hq (fun ih => ?_) H
  show pm_tsw (Int32.ofInt a).toInt lo hi df offs (fun o => pm_to ((pc : Int) + o) fun t => ih d h m t ls r) = _
  unfold pm_tsw
  rw [pw_toInt h1 h2, if_neg ho, hj]
  show pm_to ((pc : Int) + o) (fun t => ih d h m t ls r) = _
  rw [ht]
  exact pm_fn_eq pc' (fun t => ih d h m t ls r)
theorem pw_lsw {df a o : Int} {ps : Array (Int × Int)} (he : pm_ent m = some (na, nl, own, rt, C)) (hq : pm_get C pc = some (.lookupswitch df ps, len)) (h1 : -2147483648 ≤ a) (h2 : a ≤ 2147483647) (hs : ((ps.toList.zip (ps.toList.drop 1)).all (fun (a, next) => a.1 < next.1)) = true) (hj : Op.lookupswitch.offset ps.toList df a = o) (ht : (pc : Int) + o = (pc' : Int)) (H : pw X d h m pc' ls r Q) : pw X d h m pc ls (pw_i a :: r) Q := by
  refine pw_ld he hq (fun ih => ?_) H
  show cond ((ps.toList.zip (ps.toList.drop 1)).all (fun (a, next) => a.1 < next.1)) (pm_to ((pc : Int) + Op.lookupswitch.offset ps.toList df (Int32.ofInt a).toInt) fun t => ih d h m t ls r) none = _
  rw [hs, cond_true, pw_toInt h1 h2, hj, ht]
  exact pm_fn_eq pc' (fun t => ih d h m t ls r)
theorem pw_iret {a : Int} (he : pm_ent m = some (na, nl, own, 0, C)) (hq : pm_get C pc = some (.ireturn, len)) (H : Q h (.inl (some (pw_i a)))) : pw X d h m pc ls [pw_i a] Q := by
  refine pw_end he hq (fun ih => ?_) H
  show ((match pm_ent m with
    | some e => cond (Nat.ble 0 e.2.2.2.1) (cond (Nat.ble e.2.2.2.1 1) (cond (pm_fit e.2.2.2.1 (pw_i a)) (some (h, .inl (some (pw_i a)))) none) none) none
    | none => none) : pm_R) = _
  rw [he]
  rfl
theorem pw_zret {a : Int} (he : pm_ent m = some (na, nl, own, 1, C)) (hq : pm_get C pc = some (.ireturn, len)) (ha : a = 0 ∨ a = 1) (H : Q h (.inl (some (pw_i a)))) : pw X d h m pc ls [pw_i a] Q := by
  refine pw_end he hq (fun ih => ?_) H
  show ((match pm_ent m with
    | some e => cond (Nat.ble 0 e.2.2.2.1) (cond (Nat.ble e.2.2.2.1 1) (cond (pm_fit e.2.2.2.1 (pw_i a)) (some (h, .inl (some (pw_i a)))) none) none) none
    | none => none) : pm_R) = _
  rw [he]
  rcases ha with rfl | rfl <;> rfl
theorem pw_lret {w : Int64} (he : pm_ent m = some (na, nl, own, 2, C)) (hq : pm_get C pc = some (.lreturn, len)) (H : Q h (.inl (some (.long w)))) : pw X d h m pc ls [.long w] Q := by
  refine pw_end he hq (fun ih => ?_) H
  show ((match pm_ent m with
    | some e => cond (Nat.ble 2 e.2.2.2.1) (cond (Nat.ble e.2.2.2.1 2) (cond (pm_fit e.2.2.2.1 (.long w)) (some (h, .inl (some (.long w)))) none) none) none
    | none => none) : pm_R) = _
  rw [he]
  rfl
theorem pw_aret {a : Nat} (he : pm_ent m = some (na, nl, own, 3, C)) (hq : pm_get C pc = some (.areturn, len)) (H : Q h (.inl (some (.ref a)))) : pw X d h m pc ls [.ref a] Q := by
  refine pw_end he hq (fun ih => ?_) H
  show ((match pm_ent m with
    | some e => cond (Nat.ble 3 e.2.2.2.1) (cond (Nat.ble e.2.2.2.1 3) (cond (pm_fit e.2.2.2.1 (.ref a)) (some (h, .inl (some (.ref a)))) none) none) none
    | none => none) : pm_R) = _
  rw [he]
  rfl
theorem pw_vret (he : pm_ent m = some (na, nl, own, 4, C)) (hq : pm_get C pc = some (.return_, len)) (H : Q h (.inl none)) : pw X d h m pc ls [] Q := by
  refine pw_end he hq (fun ih => ?_) H
  show ((match pm_ent m with
    | some e => cond (Nat.beq e.2.2.2.1 4) (some (h, .inl none)) none
    | none => none) : pm_R) = _
  rw [he]
  rfl
/-- a throw -/
theorem pw_thr {ix a b c : Nat} (he : pm_ent m = some (na, nl, own, rt, C)) (hq : pm_get C pc = some (.new ix, len)) (hl : pm_get (pm_lnk own) ix = some (13, a, b, c)) (hs : pm_scH h = true) (H : Q h (.inr ())) : pw X d h m pc ls [] Q := by
  refine pw_end he hq (fun ih => ?_) H
  show pm_gNew X ix ih d h m own pc len ls [] = _
  unfold pm_gNew
  rw [hl]
  show (cond (pm_scH h && Nat.beq (pm_len ([] : List Value)) 0) (some (h, Sum.inr ())) none : pm_R) = _
  rw [hs]
  rfl
theorem pw_call {m' : Nat} {e' : pm_M} {As rest : List Value} {ls'' : pm_L} (hd : 1 ≤ d) {Qc : pm_H → (Option Value ⊕ Unit) → Prop} (he : pm_ent m = some (na, nl, own, rt, C)) (hq : pm_get C pc = some (i, len)) (hs : ∀ ih : pm_I, pm_dsp X i ih d h m own pc len ls st = pm_call ih d h m pc ls m' As rest false) (he' : pm_ent m' = some e') (hlay : pm_lay As e'.2.1 = ls'') (hlen : pm_len ls'' = e'.2.1)
    (HC : pw X (d - 1) h m' 0 ls'' [] Qc) (HK : ∀ h' v, Qc h' v → ∃ w, v = .inl w ∧ pw X d h' m (pc + 3) ls (w.toList ++ rest) Q) : pw X d h m pc ls st Q := by
  obtain ⟨n1, o1, hQ1, hn1⟩ := HC
  obtain ⟨h1, v1⟩ := o1
  obtain ⟨w, hw, n2, o2, hQ2, hn2⟩ := HK h1 v1 hQ1
  have hw : v1 = .inl w := hw
  subst hw
  refine ⟨max n1 n2 + 1, o2, hQ2, fun n hn' => ?_⟩
  obtain ⟨k, rfl⟩ : ∃ k, n = k + 1 := ⟨n - 1, by omega⟩
  rw [pm_x_at he hq]
  refine (hs _).trans ?_
  obtain ⟨d', rfl⟩ : ∃ d', d = d' + 1 := ⟨d - 1, by omega⟩
  show (match pm_ent m' with
    | none => none
    | some e => cond (Nat.beq (pm_len (pm_lay As e.2.1)) e.2.1) (match pm_x X k d' h m' 0 (pm_lay As e.2.1) [] with
      | some (h', .inl v) => pm_fn (pc + 3) fun q => pm_x X k (d' + 1) h' m q ls (v.toList ++ rest)
      | some (h', .inr _) => cond false (some (h', .inl (some (.int 1)))) none
      | none => none) none) = _
  rw [he']
  show cond (Nat.beq (pm_len (pm_lay As e'.2.1)) e'.2.1) (match pm_x X k d' h m' 0 (pm_lay As e'.2.1) [] with
      | some (h', .inl v) => pm_fn (pc + 3) fun q => pm_x X k (d' + 1) h' m q ls (v.toList ++ rest)
      | some (h', .inr _) => cond false (some (h', .inl (some (.int 1)))) none
      | none => none) none = _
  have hn1 := hn1 k (by omega)
  rw [Nat.add_sub_cancel] at hn1
  rw [hlay, hlen, Nat.beq_refl, cond_true, hn1]
  show (pm_fn (pc + 3) fun q => pm_x X k (d' + 1) h1 m q ls (w.toList ++ rest)) = _
  rw [pm_fn_eq]
  exact hn2 k (by omega)
theorem pw_inv {how ix m' nb ci : Nat} {As rest : List Value} (hk : how = 2 ∨ how = 3) {ih : pm_I} (hl : pm_get (pm_lnk own) ix = some (how, m', nb, ci)) (hp : pm_pop nb st [] = some (As, rest)) (h8 : pm_cat8 rest = true) (ha : how = 3 → ∃ a r, As = .ref a :: r) : pm_gInv X how ix ih d h m own pc len ls st = pm_call ih d h m pc ls m' As rest false := by
  unfold pm_gInv
  rw [hl]
  show cond (Nat.beq how 12) _ (cond (Nat.beq how 15) _ (match pm_pop nb st [] with
      | some (As, rest) => cond (pm_cat8 rest) (cond (Nat.beq how how) (pm_gC how ih d h m own pc ls m' ci As rest) _) none
      | none => none)) = _
  rw [hp]
  show cond (Nat.beq how 12) _ (cond (Nat.beq how 15) _ (cond (pm_cat8 rest) (cond (Nat.beq how how) (pm_gC how ih d h m own pc ls m' ci As rest) _) none)) = _
  rw [h8, Nat.beq_refl, cond_true, cond_true]
  rcases hk with rfl | rfl
  · rfl
  · obtain ⟨a, r, rfl⟩ := ha rfl
    rfl
theorem pw_inv1 {ix m' nb ci a : Nat} {As rest fs : List Value} {ih : pm_I} (ho : Nat.beq own 13 = false) (hl : pm_get (pm_lnk own) ix = some (1, m', nb, ci)) (hp : pm_pop nb st [] = some (.ref a :: As, rest)) (h8 : pm_cat8 rest = true) (hc : pm_cell h a = some (.inr (ci, fs))) : pm_gInv X 1 ix ih d h m own pc len ls st = pm_call ih d h m pc ls m' (.ref a :: As) rest false := by
  unfold pm_gInv
  rw [hl]
  show (match pm_pop nb st [] with
      | some (As, rest) => cond (pm_cat8 rest) (pm_gC 1 ih d h m own pc ls m' ci As rest) none
      | none => none) = _
  rw [hp]
  show cond (pm_cat8 rest) (pm_gC 1 ih d h m own pc ls m' ci (.ref a :: As) rest) none = _
  rw [h8, cond_true]
  show (match pm_cell h a with
      | some (.inr (cj, _)) => cond (Nat.beq cj ci) (pm_call ih d h m pc ls m' (.ref a :: As) rest (Nat.beq own 13 && !Nat.beq m 309)) none
      | _ => none) = _
  rw [hc, ho]
  show cond (Nat.beq ci ci) _ none = _
  rw [Nat.beq_refl]
  rfl
end Pw

