section
/-! the law's own frame (printed by wip/tool/mlawrules.py) -/
def pwl (X : List (Nat × List Value)) (K : Nat) (h : pm_H) (pc : Nat) (ls : pm_L) (st : List Value) (Q : pm_H → (Option Value ⊕ Unit) → Prop) : Prop :=
  ∃ k N0 o, k ≤ K ∧ Q o.1 o.2 ∧ ∀ N, N0 ≤ N → pm_xk X N k 50 h 309 pc ls st = some o
theorem pwl_mono {X : List (Nat × List Value)} {K K' : Nat} {h : pm_H} {pc : Nat} {ls : pm_L} {st : List Value} {Q : pm_H → (Option Value ⊕ Unit) → Prop} (hk : K ≤ K') (H : pwl X K h pc ls st Q) : pwl X K' h pc ls st Q := by
  obtain ⟨k, N0, o, h1, h2, h3⟩ := H
  exact ⟨k, N0, o, Nat.le_trans h1 hk, h2, h3⟩
theorem pm_xk_at {X : List (Nat × List Value)} {N k d : Nat} {h : pm_H} {m pc len na nl own rt : Nat} {C : pm_T (Instr × Nat)} {ls : pm_L} {st : List Value} {i : Instr} (he : pm_ent m = some (na, nl, own, rt, C)) (hq : pm_get C pc = some (i, len)) : pm_xk X N (k + 1) d h m pc ls st = pm_dsp X i (pm_ik X N (pm_xk X N k)) d h m own pc len ls st := by
  show pm_F X (pm_ik X N (pm_xk X N k)) d h m pc ls st = _
  unfold pm_F
  rw [he]
  show (match pm_get C pc with
    | none => none
    | some q => pm_dsp X q.1 (pm_ik X N (pm_xk X N k)) d h m own pc q.2 ls st) = _
  rw [hq]
theorem pm_ik_309 {X : List (Nat × List Value)} {N : Nat} {K : pm_I} {d : Nat} {h : pm_H} {pc : Nat} {ls : pm_L} {st : List Value} : pm_ik X N K d h 309 pc ls st = K d h 309 pc ls st := by
  unfold pm_ik
  rw [Nat.beq_refl]
  rfl
/-- an int of the script -/
def pw_s (xs : List Int32) (j : Int) : Int := (xs.getD j.toNat 0).toInt
theorem pw_s_r (xs : List Int32) (j : Int) : -2147483648 ≤ pw_s xs j ∧ pw_s xs j ≤ 2147483647 := pw_i32r _
section Pl
variable {X : List (Nat × List Value)} {K : Nat} {h h' : pm_H} {pc pc' len na nl own rt : Nat} {C : pm_T (Instr × Nat)} {ls ls' : pm_L} {st st' r : List Value} {Q : pm_H → (Option Value ⊕ Unit) → Prop} {i : Instr}
theorem pwl_go (he : pm_ent 309 = some (na, nl, own, rt, C)) (hq : pm_get C pc = some (i, len)) (hs : ∀ ih : pm_I, pm_dsp X i ih 50 h 309 own pc len ls st = ih 50 h' 309 pc' ls' st') (H : pwl X K h' pc' ls' st' Q) : pwl X (K + 1) h pc ls st Q := by
  obtain ⟨k, N0, o, hk, hQ, hn⟩ := H
  refine ⟨k + 1, N0, o, by omega, hQ, fun n hn' => ?_⟩
  rw [pm_xk_at he hq]
  exact (hs _).trans (pm_ik_309.trans (hn n hn'))
theorem pwl_end {v : Option Value ⊕ Unit} (he : pm_ent 309 = some (na, nl, own, rt, C)) (hq : pm_get C pc = some (i, len)) (hs : ∀ ih : pm_I, pm_dsp X i ih 50 h 309 own pc len ls st = some (h, v)) (H : Q h v) : pwl X (K + 1) h pc ls st Q := by
  refine ⟨1, 0, (h, v), by omega, H, fun n hn' => ?_⟩
  rw [pm_xk_at he hq]
  exact hs _
theorem pwl_ld (he : pm_ent 309 = some (na, nl, own, rt, C)) (hq : pm_get C pc = some (i, len)) (hs : ∀ ih : pm_I, pm_dsp X i ih 50 h 309 own pc len ls st = ih 50 h 309 pc' ls st') (H : pwl X K h pc' ls st' Q) : pwl X (K + 1) h pc ls st Q := pwl_go he hq hs H
theorem pwl_nmx {x : Int32} (H : ∀ b : Int, -2147483648 ≤ b → b ≤ 2147483647 → pwl X K h pc ls (pw_i b :: r) Q) : pwl X K h pc ls (.int x :: r) Q := by
  obtain ⟨b, h1, h2, h3⟩ := pw_any x
  rw [h3]
  exact H b h1 h2
theorem pwl_bip {n : Int} (he : pm_ent 309 = some (na, nl, own, rt, C)) (hq : pm_get C pc = some (.bipush n, len)) (hc : pc + len = pc') (hv : (Int8.ofInt n).toInt32 = Int32.ofInt n) (H : pwl X K h pc' ls (pw_i n :: st) Q) : pwl X (K + 1) h pc ls st Q := by
  subst hc
  refine pwl_ld he hq (st' := .int (Int8.ofInt n).toInt32 :: st) (pc' := pc + len) (fun ih => ?_) (by rw [hv]; exact H)
  exact pm_fn_eq (pc + len) (fun q => ih 50 h 309 q ls (.int (Int8.ofInt n).toInt32 :: st))
theorem pwl_ist {k : Nat} {a : Int} (he : pm_ent 309 = some (na, nl, own, rt, C)) (hq : pm_get C pc = some (.istore k, len)) (hk : Nat.blt k (pm_len ls) = true) (hp : pm_put1 ls k (pw_i a) = ls') (hc : pc + len = pc') (H : pwl X K h pc' ls' r Q) : pwl X (K + 1) h pc ls (pw_i a :: r) Q := by
  subst hc; subst hp
  refine pwl_go he hq (fun ih => ?_) H
  show cond (Nat.blt k (pm_len ls)) (pm_fi (Int32.ofInt a) fun y => pm_fn (pc + len) fun q => ih 50 h 309 q (pm_put1 ls k (.int y)) r) none = _
  rw [hk, cond_true, pm_fi_eq, pm_fn_eq]
  rfl
theorem pwl_lst {k : Nat} {w : Int64} (he : pm_ent 309 = some (na, nl, own, rt, C)) (hq : pm_get C pc = some (.lstore k, len)) (hk : Nat.blt (k + 1) (pm_len ls) = true) (hp : pm_put2 ls k (.long w) = ls') (hc : pc + len = pc') (H : pwl X K h pc' ls' r Q) : pwl X (K + 1) h pc ls (.long w :: r) Q := by
  subst hc; subst hp
  refine pwl_go he hq (fun ih => ?_) H
  show cond (Nat.blt (k + 1) (pm_len ls)) (pm_fl w fun y => pm_fn (pc + len) fun q => ih 50 h 309 q (pm_put2 ls k (.long y)) r) none = _
  rw [hk, cond_true, pm_fl_eq, pm_fn_eq]
theorem pwl_astn {k : Fin 4} {a : Nat} (he : pm_ent 309 = some (na, nl, own, rt, C)) (hq : pm_get C pc = some (.astore_n k, len)) (hk : Nat.blt k.val (pm_len ls) = true) (hp : pm_put1 ls k.val (.ref a) = ls') (hc : pc + len = pc') (H : pwl X K h pc' ls' r Q) : pwl X (K + 1) h pc ls (.ref a :: r) Q := by
  subst hc; subst hp
  refine pwl_go he hq (fun ih => ?_) H
  show cond (Nat.blt k.val (pm_len ls)) (pm_fn (pc + len) fun q => ih 50 h 309 q (pm_put1 ls k.val (.ref a)) r) none = _
  rw [hk, cond_true, pm_fn_eq]
theorem pwl_inc {k : Nat} {n a : Int} (he : pm_ent 309 = some (na, nl, own, rt, C)) (hq : pm_get C pc = some (.iinc k n, 3)) (hl : pm_nth ls k = some (some (pw_i a))) (hp : pm_put1 ls k (pw_i (a + n)) = ls') (hc : pc + 3 = pc') (H : pwl X K h pc' ls' st Q) : pwl X (K + 1) h pc ls st Q := by
  subst hc; subst hp
  refine pwl_go he hq (fun ih => ?_) H
  show pm_lift (pm_sInc k n) ih 50 h 309 own pc 3 ls st = _
  unfold pm_lift pm_sInc
  rw [hl]
  show cond (Nat.beq 3 3) (pm_fi (Int32.ofInt a + Int32.ofInt n) fun y => pm_fn (pc + 3) fun q => ih 50 h 309 q (pm_put1 ls k (.int y)) st) none = _
  rw [Nat.beq_refl, cond_true, pm_fi_eq, pm_fn_eq, ← Int32.ofInt_add]
  rfl
theorem pwl_add {a b : Int} (he : pm_ent 309 = some (na, nl, own, rt, C)) (hq : pm_get C pc = some (.iadd, len)) (hc : pc + len = pc') (H : pwl X K h pc' ls (pw_i (a + b) :: r) Q) : pwl X (K + 1) h pc ls (pw_i b :: pw_i a :: r) Q := by
  subst hc
  refine pwl_ld he hq (st' := pw_i (a + b) :: r) (pc' := pc + len) (fun ih => ?_) H
  unfold pw_i
  rw [Int32.ofInt_add]
  exact pm_fn_eq (pc + len) (fun q => ih 50 h 309 q ls (.int (Int32.ofInt a + Int32.ofInt b) :: r))
theorem pwl_sub {a b : Int} (he : pm_ent 309 = some (na, nl, own, rt, C)) (hq : pm_get C pc = some (.isub, len)) (hc : pc + len = pc') (H : pwl X K h pc' ls (pw_i (a - b) :: r) Q) : pwl X (K + 1) h pc ls (pw_i b :: pw_i a :: r) Q := by
  subst hc
  refine pwl_ld he hq (st' := pw_i (a - b) :: r) (pc' := pc + len) (fun ih => ?_) H
  unfold pw_i
  rw [Int32.ofInt_sub]
  exact pm_fn_eq (pc + len) (fun q => ih 50 h 309 q ls (.int (Int32.ofInt a - Int32.ofInt b) :: r))
theorem pwl_ii {f : Int32 → Int32 → Int32} {a b : Int} (he : pm_ent 309 = some (na, nl, own, rt, C)) (hq : pm_get C pc = some (i, len)) (hs : ∀ ih : pm_I, pm_dsp X i ih 50 h 309 own pc len ls (pw_i b :: pw_i a :: r) = ih 50 h 309 pc' ls (.int (f (Int32.ofInt a) (Int32.ofInt b)) :: r)) (H : ∀ c : Int, -2147483648 ≤ c → c ≤ 2147483647 → pwl X K h pc' ls (pw_i c :: r) Q) : pwl X (K + 1) h pc ls (pw_i b :: pw_i a :: r) Q := pwl_ld he hq hs (pwl_nmx H)
theorem pwl_goto {off : Int} (he : pm_ent 309 = some (na, nl, own, rt, C)) (hq : pm_get C pc = some (.goto off, len)) (ht : (pc : Int) + off = (pc' : Int)) (H : pwl X K h pc' ls st Q) : pwl X (K + 1) h pc ls st Q := by
  refine pwl_ld he hq (pc' := pc') (st' := st) (fun ih => ?_) H
  show pm_to ((pc : Int) + off) (fun t => ih 50 h 309 t ls st) = _
  rw [ht]
  exact pm_fn_eq pc' (fun t => ih 50 h 309 t ls st)
theorem pwl_if {c : ClassFile.Cond} {off a : Int} (he : pm_ent 309 = some (na, nl, own, rt, C)) (hq : pm_get C pc = some (.ifCond c off, len)) (ht : (pc : Int) + off = (pc' : Int)) (h1 : -2147483648 ≤ a) (h2 : a ≤ 2147483647) (HT : pw_c c a 0 → pwl X K h pc' ls r Q) (HF : ¬ pw_c c a 0 → pwl X K h (pc + 3) ls r Q) : pwl X (K + 1) h pc ls (pw_i a :: r) Q := by
  have key : ∀ ih : pm_I, pm_dsp X (.ifCond c off) ih 50 h 309 own pc len ls (pw_i a :: r) = cond (pm_cnd c (Int32.ofInt a) (Int32.ofInt 0)) (ih 50 h 309 pc' ls r) (ih 50 h 309 (pc + 3) ls r) := by
    intro ih
    show pm_to ((pc : Int) + off) (fun t => cond (pm_cnd c (Int32.ofInt a) 0) (ih 50 h 309 t ls r) (pm_fn (pc + 3) fun q => ih 50 h 309 q ls r)) = _
    rw [ht]
    rw [pm_fn_eq (pc + 3)]
    exact pm_fn_eq pc' (fun t => cond (pm_cnd c (Int32.ofInt a) 0) (ih 50 h 309 t ls r) (ih 50 h 309 (pc + 3) ls r))
  by_cases hc : pm_cnd c (Int32.ofInt a) (Int32.ofInt 0) = true
  · refine pwl_ld he hq (fun ih => ?_) (HT ((pw_cnd h1 h2 (by omega) (by omega)).mp hc))
    rw [key, hc, cond_true]
  · refine pwl_ld he hq (fun ih => ?_) (HF (fun q => hc ((pw_cnd h1 h2 (by omega) (by omega)).mpr q)))
    rw [key, Bool.not_eq_true _ |>.mp hc, cond_false]
theorem pwl_if2 {c : ClassFile.Cond} {off a b : Int} (he : pm_ent 309 = some (na, nl, own, rt, C)) (hq : pm_get C pc = some (.if_icmp c off, len)) (ht : (pc : Int) + off = (pc' : Int)) (h1 : -2147483648 ≤ a) (h2 : a ≤ 2147483647) (h3 : -2147483648 ≤ b) (h4 : b ≤ 2147483647) (HT : pw_c c a b → pwl X K h pc' ls r Q) (HF : ¬ pw_c c a b → pwl X K h (pc + 3) ls r Q) : pwl X (K + 1) h pc ls (pw_i b :: pw_i a :: r) Q := by
  have key : ∀ ih : pm_I, pm_dsp X (.if_icmp c off) ih 50 h 309 own pc len ls (pw_i b :: pw_i a :: r) = cond (pm_cnd c (Int32.ofInt a) (Int32.ofInt b)) (ih 50 h 309 pc' ls r) (ih 50 h 309 (pc + 3) ls r) := by
    intro ih
    show pm_to ((pc : Int) + off) (fun t => cond (pm_cnd c (Int32.ofInt a) (Int32.ofInt b)) (ih 50 h 309 t ls r) (pm_fn (pc + 3) fun q => ih 50 h 309 q ls r)) = _
    rw [ht]
    rw [pm_fn_eq (pc + 3)]
    exact pm_fn_eq pc' (fun t => cond (pm_cnd c (Int32.ofInt a) (Int32.ofInt b)) (ih 50 h 309 t ls r) (ih 50 h 309 (pc + 3) ls r))
  by_cases hc : pm_cnd c (Int32.ofInt a) (Int32.ofInt b) = true
  · refine pwl_ld he hq (fun ih => ?_) (HT ((pw_cnd h1 h2 h3 h4).mp hc))
    rw [key, hc, cond_true]
  · refine pwl_ld he hq (fun ih => ?_) (HF (fun q => hc ((pw_cnd h1 h2 h3 h4).mpr q)))
    rw [key, Bool.not_eq_true _ |>.mp hc, cond_false]
theorem pwl_tswD {df lo hi a : Int} {offs : Array Int} (he : pm_ent 309 = some (na, nl, own, rt, C)) (hq : pm_get C pc = some (.tableswitch df lo hi offs, len)) (h1 : -2147483648 ≤ a) (h2 : a ≤ 2147483647) (ho : a < lo ∨ hi < a) (ht : (pc : Int) + df = (pc' : Int)) (H : pwl X K h pc' ls r Q) : pwl X (K + 1) h pc ls (pw_i a :: r) Q := by
  refine pwl_ld he hq (fun ih => ?_) H
  show pm_tsw (Int32.ofInt a).toInt lo hi df offs (fun o => pm_to ((pc : Int) + o) fun t => ih 50 h 309 t ls r) = _
  unfold pm_tsw
  rw [pw_toInt h1 h2, if_pos ho]
  show pm_to ((pc : Int) + df) (fun t => ih 50 h 309 t ls r) = _
  rw [ht]
  exact pm_fn_eq pc' (fun t => ih 50 h 309 t ls r)
theorem pwl_tswJ {df lo hi a o : Int} {offs : Array Int} (he : pm_ent 309 = some (na, nl, own, rt, C)) (hq : pm_get C pc = some (.tableswitch df lo hi offs, len)) (h1 : -2147483648 ≤ a) (h2 : a ≤ 2147483647) (ho : ¬ (a < lo ∨ hi < a)) (hj : pm_nth offs.toList (a - lo).toNat = some o) (ht : (pc : Int) + o = (pc' : Int)) (H : pwl X K h pc' ls r Q) : pwl X (K + 1) h pc ls (pw_i a :: r) Q := by
  refine pwl_ld he hq (fun ih => ?_) H
  show pm_tsw (Int32.ofInt a).toInt lo hi df offs (fun o => pm_to ((pc : Int) + o) fun t => ih 50 h 309 t ls r) = _
  unfold pm_tsw
  rw [pw_toInt h1 h2, if_neg ho, hj]
  show pm_to ((pc : Int) + o) (fun t => ih 50 h 309 t ls r) = _
  rw [ht]
  exact pm_fn_eq pc' (fun t => ih 50 h 309 t ls r)
theorem pwl_zret {a : Int} (he : pm_ent 309 = some (na, nl, own, 1, C)) (hq : pm_get C pc = some (.ireturn, len)) (ha : a = 0 ∨ a = 1) (H : Q h (.inl (some (pw_i a)))) : pwl X (K + 1) h pc ls [pw_i a] Q := by
  refine pwl_end he hq (fun ih => ?_) H
  show ((match pm_ent 309 with
    | some e => cond (Nat.ble 0 e.2.2.2.1) (cond (Nat.ble e.2.2.2.1 1) (cond (pm_fit e.2.2.2.1 (pw_i a)) (some (h, .inl (some (pw_i a)))) none) none) none
    | none => none) : pm_R) = _
  rw [he]
  rcases ha with rfl | rfl <;> rfl
theorem pwl_alen {t a : Nat} {l : List Value} (he : pm_ent 309 = some (na, nl, own, rt, C)) (hq : pm_get C pc = some (.arraylength, len)) (hr : pm_row X h a = some (t, l)) (ht : pm_okt t = true) (hc : pc + len = pc') (H : pwl X K h pc' ls (pw_i (l.length : Int) :: r) Q) : pwl X (K + 1) h pc ls (.ref a :: r) Q := by
  subst hc
  refine pwl_ld he hq (st' := pw_i (l.length : Int) :: r) (pc' := pc + len) (fun ih => ?_) H
  show pm_gLen X ih 50 h 309 own pc len ls (.ref a :: r) = _
  unfold pm_gLen
  dsimp only
  rw [hr]
  show cond (pm_okt t) (pm_fn (pm_len l) fun z => pm_fn (pc + len) fun q => ih 50 h 309 q ls (.int (Int32.ofNat z) :: r)) none = _
  rw [ht, cond_true, pm_fn_eq, pm_fn_eq, pm_len_eq]
  rfl
theorem pwl_xlen {a n : Nat} {l : List Value} (he : pm_ent 309 = some (na, nl, own, rt, C)) (hq : pm_get C pc = some (.arraylength, len)) (hX : X[a]? = some (0, l)) (ha : a < 16) (hn : l.length = n) (hc : pc + len = pc') (H : pwl X K h pc' ls (pw_i (n : Int) :: r) Q) : pwl X (K + 1) h pc ls (.ref a :: r) Q := by
  subst hn
  refine pwl_alen he hq (t := 0) (l := l) ?_ rfl hc H
  unfold pm_row
  rw [show Nat.blt a 16 = true from Nat.ble_eq_true_of_le ha, cond_true, pm_nth_eq, hX]
  rfl
theorem pwl_sald {xs : List Int32} {j : Int} (he : pm_ent 309 = some (na, nl, own, rt, C)) (hq : pm_get C pc = some (.iaload, len)) (hX : X[0]? = some (0, xs.map Value.int)) (hl : xs.length ≤ 3584) (h0 : 0 ≤ j) (h1 : j < xs.length) (hc : pc + len = pc') (H : pwl X K h pc' ls (pw_i (pw_s xs j) :: r) Q) : pwl X (K + 1) h pc ls (pw_i j :: .ref 0 :: r) Q := by
  subst hc
  refine pwl_ld he hq (st' := pw_i (pw_s xs j) :: r) (pc' := pc + len) (fun ih => ?_) H
  have er : pm_row X h 0 = some (0, xs.map Value.int) := by
    unfold pm_row
    rw [show Nat.blt 0 16 = true from rfl, cond_true, pm_nth_eq, hX]
    rfl
  have en : (xs.map Value.int)[j.toNat]? = some (pw_i (pw_s xs j)) := by
    rw [List.getElem?_map, List.getElem?_eq_getElem (by omega : j.toNat < xs.length)]
    unfold pw_i pw_s
    rw [Int32.ofInt_toInt, List.getD_eq_getElem?_getD, List.getElem?_eq_getElem (by omega : j.toNat < xs.length)]
    rfl
  show pm_gAld X 0 0 ih 50 h 309 own pc len ls (pw_i j :: .ref 0 :: r) = _
  unfold pm_gAld pw_i
  dsimp only
  rw [er]
  show cond (Nat.beq 0 0 || Nat.beq 0 0) (cond (decide (Int32.ofInt j < 0)) none (match pm_nth (xs.map Value.int) (Int32.ofInt j).toNatClampNeg with
        | some (.int x) => pm_fn (pc + len) fun q => ih 50 h 309 q ls (.int x :: r)
        | _ => none)) none = _
  rw [Nat.beq_refl, Bool.true_or, cond_true, decide_eq_false (pw_neg h0 (by omega)), cond_false, pw_clamp h0 (by omega), pm_nth_eq, en]
  show pm_fn (pc + len) _ = _
  rw [pm_fn_eq]
theorem pwl_call {m' : Nat} {e' : pm_M} {As rest : List Value} {ls'' : pm_L} {Qc : pm_H → (Option Value ⊕ Unit) → Prop} (he : pm_ent 309 = some (na, nl, own, rt, C)) (hq : pm_get C pc = some (i, len)) (hs : ∀ ih : pm_I, pm_dsp X i ih 50 h 309 own pc len ls st = pm_call ih 50 h 309 pc ls m' As rest false) (he' : pm_ent m' = some e') (hm : m' ≠ 309) (hlay : pm_lay As e'.2.1 = ls'') (hlen : pm_len ls'' = e'.2.1)
    (HC : pw X 49 h m' 0 ls'' [] Qc) (HK : ∀ h' v, Qc h' v → ∃ w, v = .inl w ∧ pwl X K h' (pc + 3) ls (w.toList ++ rest) Q) : pwl X (K + 1) h pc ls st Q := by
  obtain ⟨n1, o1, hQ1, hn1⟩ := HC
  obtain ⟨h1, v1⟩ := o1
  obtain ⟨w, hw, k, n2, o2, hk, hQ2, hn2⟩ := HK h1 v1 hQ1
  have hw : v1 = .inl w := hw
  subst hw
  refine ⟨k + 1, max n1 n2, o2, by omega, hQ2, fun n hn' => ?_⟩
  rw [pm_xk_at he hq]
  refine (hs _).trans ?_
  show (match pm_ent m' with
    | none => none
    | some e => cond (Nat.beq (pm_len (pm_lay As e.2.1)) e.2.1) (match pm_ik X n (pm_xk X n k) 49 h m' 0 (pm_lay As e.2.1) [] with
      | some (h', .inl v) => pm_fn (pc + 3) fun q => pm_ik X n (pm_xk X n k) 50 h' 309 q ls (v.toList ++ rest)
      | some (h', .inr _) => cond false (some (h', .inl (some (.int 1)))) none
      | none => none) none) = _
  rw [he']
  show cond (Nat.beq (pm_len (pm_lay As e'.2.1)) e'.2.1) (match pm_ik X n (pm_xk X n k) 49 h m' 0 (pm_lay As e'.2.1) [] with
      | some (h', .inl v) => pm_fn (pc + 3) fun q => pm_ik X n (pm_xk X n k) 50 h' 309 q ls (v.toList ++ rest)
      | some (h', .inr _) => cond false (some (h', .inl (some (.int 1)))) none
      | none => none) none = _
  have hn1 := hn1 n (by omega)
  rw [hlay, hlen, Nat.beq_refl, cond_true, pm_ik_ne hm, hn1]
  show (pm_fn (pc + 3) fun q => pm_ik X n (pm_xk X n k) 50 h1 309 q ls (w.toList ++ rest)) = _
  rw [pm_fn_eq, pm_ik_309]
  exact hn2 n (by omega)
theorem pwl_iV {ix m' nb ci a : Nat} {As rest fs : List Value} {ih : pm_I} (hl : pm_get (pm_lnk 13) ix = some (1, m', nb, ci)) (hp : pm_pop nb st [] = some (.ref a :: As, rest)) (h8 : pm_cat8 rest = true) (hc : pm_cell h a = some (.inr (ci, fs))) : pm_dsp X (.invokevirtual ix) ih 50 h 309 13 pc len ls st = pm_call ih 50 h 309 pc ls m' (.ref a :: As) rest false := by
  show pm_gInv X 1 ix ih 50 h 309 13 pc len ls st = _
  unfold pm_gInv
  rw [hl]
  show (match pm_pop nb st [] with
      | some (As, rest) => cond (pm_cat8 rest) (pm_gC 1 ih 50 h 309 13 pc ls m' ci As rest) none
      | none => none) = _
  rw [hp]
  show cond (pm_cat8 rest) (pm_gC 1 ih 50 h 309 13 pc ls m' ci (.ref a :: As) rest) none = _
  rw [h8, cond_true]
  show (match pm_cell h a with
      | some (.inr (cj, _)) => cond (Nat.beq cj ci) (pm_call ih 50 h 309 pc ls m' (.ref a :: As) rest (Nat.beq 13 13 && !Nat.beq 309 309)) none
      | _ => none) = _
  rw [hc]
  show cond (Nat.beq ci ci) _ none = _
  rw [Nat.beq_refl]
  rfl
theorem pwl_iS {ix m' nb ci : Nat} {As rest : List Value} {ih : pm_I} (hl : pm_get (pm_lnk 13) ix = some (14, m', nb, ci)) (hp : pm_pop nb st [] = some (As, rest)) (h8 : pm_cat8 rest = true) (hsc : pm_all (pm_scl (16 + pm_len h)) ls = true) (hsr : pm_all (pm_scv (16 + pm_len h)) rest = true) : pm_dsp X (.invokestatic ix) ih 50 h 309 13 pc len ls st = pm_call ih 50 h 309 pc ls m' As rest false := by
  show pm_gInv X 2 ix ih 50 h 309 13 pc len ls st = _
  unfold pm_gInv
  rw [hl]
  show (match pm_pop nb st [] with
      | some (As, rest) => cond (pm_cat8 rest) (cond (pm_all (pm_scl (16 + pm_len h)) ls && pm_all (pm_scv (16 + pm_len h)) rest) (pm_call ih 50 h 309 pc ls m' As rest false) none) none
      | none => none) = _
  rw [hp]
  show cond (pm_cat8 rest) (cond (pm_all (pm_scl (16 + pm_len h)) ls && pm_all (pm_scv (16 + pm_len h)) rest) (pm_call ih 50 h 309 pc ls m' As rest false) none) none = _
  rw [h8, cond_true, hsc, hsr]
  rfl
end Pl
section Ph
variable {X : List (Nat × List Value)} {d : Nat} {h : pm_H} {m pc len na nl own rt : Nat} {C : pm_T (Instr × Nat)} {ls : pm_L} {st : List Value} {Q : pm_H → (Option Value ⊕ Unit) → Prop} {i : Instr}
/-- a call in one of the law's helpers: what is thrown there is caught, and answers 1 -/
theorem pw_callH {m' : Nat} {e' : pm_M} {As rest : List Value} {ls'' : pm_L} (hd : 1 ≤ d) {Qc : pm_H → (Option Value ⊕ Unit) → Prop} (he : pm_ent m = some (na, nl, own, rt, C)) (hq : pm_get C pc = some (i, len)) (hs : ∀ ih : pm_I, pm_dsp X i ih d h m own pc len ls st = pm_call ih d h m pc ls m' As rest true) (he' : pm_ent m' = some e') (hlay : pm_lay As e'.2.1 = ls'') (hlen : pm_len ls'' = e'.2.1)
    (HC : pw X (d - 1) h m' 0 ls'' [] Qc) (HK : ∀ h' v, Qc h' v → (v = .inr () ∧ Q h' (.inl (some (.int 1)))) ∨ ∃ w, v = .inl w ∧ pw X d h' m (pc + 3) ls (w.toList ++ rest) Q) : pw X d h m pc ls st Q := by
  obtain ⟨n1, o1, hQ1, hn1⟩ := HC
  obtain ⟨h1, v1⟩ := o1
  obtain ⟨d', rfl⟩ : ∃ d', d = d' + 1 := ⟨d - 1, by omega⟩
  have key : ∀ k, n1 ≤ k → pm_x X (k + 1) (d' + 1) h m pc ls st = (match v1 with
      | .inl v => pm_x X k (d' + 1) h1 m (pc + 3) ls (v.toList ++ rest)
      | .inr _ => some (h1, .inl (some (.int 1)))) := by
    intro k hk
    rw [pm_x_at he hq]
    refine (hs _).trans ?_
    show (match pm_ent m' with
      | none => none
      | some e => cond (Nat.beq (pm_len (pm_lay As e.2.1)) e.2.1) (match pm_x X k d' h m' 0 (pm_lay As e.2.1) [] with
        | some (h', .inl v) => pm_fn (pc + 3) fun q => pm_x X k (d' + 1) h' m q ls (v.toList ++ rest)
        | some (h', .inr _) => cond true (some (h', .inl (some (.int 1)))) none
        | none => none) none) = _
    rw [he']
    show cond (Nat.beq (pm_len (pm_lay As e'.2.1)) e'.2.1) (match pm_x X k d' h m' 0 (pm_lay As e'.2.1) [] with
        | some (h', .inl v) => pm_fn (pc + 3) fun q => pm_x X k (d' + 1) h' m q ls (v.toList ++ rest)
        | some (h', .inr _) => cond true (some (h', .inl (some (.int 1)))) none
        | none => none) none = _
    have hn1 := hn1 k hk
    rw [Nat.add_sub_cancel] at hn1
    rw [hlay, hlen, Nat.beq_refl, cond_true, hn1]
    cases v1 with
    | inl v =>
      show (pm_fn (pc + 3) fun q => pm_x X k (d' + 1) h1 m q ls (v.toList ++ rest)) = _
      rw [pm_fn_eq]
    | inr u => rfl
  rcases HK h1 v1 hQ1 with ⟨hv, hQ⟩ | ⟨w, hw, n2, o2, hQ2, hn2⟩
  · have hv : v1 = .inr () := hv
    subst hv
    refine ⟨n1 + 1, (h1, .inl (some (.int 1))), hQ, fun n hn' => ?_⟩
    obtain ⟨k, rfl⟩ : ∃ k, n = k + 1 := ⟨n - 1, by omega⟩
    exact key k (by omega)
  · have hw : v1 = .inl w := hw
    subst hw
    refine ⟨max n1 n2 + 1, o2, hQ2, fun n hn' => ?_⟩
    obtain ⟨k, rfl⟩ : ∃ k, n = k + 1 := ⟨n - 1, by omega⟩
    exact (key k (by omega)).trans (hn2 k (by omega))
theorem pw_iVh {ix m' nb ci a : Nat} {As rest fs : List Value} {ih : pm_I} (hm : Nat.beq m 309 = false) (hl : pm_get (pm_lnk 13) ix = some (1, m', nb, ci)) (hp : pm_pop nb st [] = some (.ref a :: As, rest)) (h8 : pm_cat8 rest = true) (hc : pm_cell h a = some (.inr (ci, fs))) : pm_dsp X (.invokevirtual ix) ih d h m 13 pc len ls st = pm_call ih d h m pc ls m' (.ref a :: As) rest true := by
  show pm_gInv X 1 ix ih d h m 13 pc len ls st = _
  unfold pm_gInv
  rw [hl]
  show (match pm_pop nb st [] with
      | some (As, rest) => cond (pm_cat8 rest) (pm_gC 1 ih d h m 13 pc ls m' ci As rest) none
      | none => none) = _
  rw [hp]
  show cond (pm_cat8 rest) (pm_gC 1 ih d h m 13 pc ls m' ci (.ref a :: As) rest) none = _
  rw [h8, cond_true]
  show (match pm_cell h a with
      | some (.inr (cj, _)) => cond (Nat.beq cj ci) (pm_call ih d h m pc ls m' (.ref a :: As) rest (Nat.beq 13 13 && !Nat.beq m 309)) none
      | _ => none) = _
  rw [hc, hm]
  show cond (Nat.beq ci ci) _ none = _
  rw [Nat.beq_refl]
  rfl
end Ph
end
section
/-! the law's helpers (printed by wip/tool/mhelp.py) -/
set_option maxHeartbeats 1000000 in
theorem cm_310 {X : List (Nat × List Value)} {d : Nat} {h : pm_H} (hd : 6 ≤ d) (I : pw_I h) (bk : Int) (hbk1 : (-2147483648) ≤ bk) (hbk2 : bk ≤ 2147483647) (b : Int) (hb1 : (-2147483648) ≤ b) (hb2 : b ≤ 2147483647) (e : Int) (he1 : (-2147483648) ≤ e) (he2 : e ≤ 2147483647) (wt : Int) (hwt1 : (-2147483648) ≤ wt) (hwt2 : wt ≤ 2147483647) : pw X d h 310 0 [some (.ref 16), some (pw_i bk), some (pw_i b), some (pw_i e), some (pw_i wt), some (.ref 185), none] [] (fun h' v => pw_I h' ∧ pw_E [169] h h' ∧ ∃ a : Int, v = .inl (some (pw_i a)) ∧ 0 ≤ a ∧ a ≤ 1) := by
  have E : pm_ent 310 = some (6, 7, 13, 0, pmc_310) := rfl
  refine pw_ld E (pc' := 2) (st' := [.ref 185]) rfl (fun _ => rfl) ?_
  refine pw_ld E (pc' := 3) (st' := [pw_i 0, .ref 185]) rfl (fun _ => rfl) ?_
  refine pw_ld E (pc' := 4) (st' := [.ref 16, pw_i 0, .ref 185]) rfl (fun _ => rfl) ?_
  refine pw_ld E (pc' := 5) (st' := [pw_i bk, .ref 16, pw_i 0, .ref 185]) rfl (fun _ => rfl) ?_
  refine pw_ld E (pc' := 6) (st' := [pw_i b, pw_i bk, .ref 16, pw_i 0, .ref 185]) rfl (fun _ => rfl) ?_
  refine pw_ld E (pc' := 7) (st' := [pw_i e, pw_i b, pw_i bk, .ref 16, pw_i 0, .ref 185]) rfl (fun _ => rfl) ?_
  refine pw_ld E (pc' := 9) (st' := [pw_i wt, pw_i e, pw_i b, pw_i bk, .ref 16, pw_i 0, .ref 185]) rfl (fun _ => rfl) ?_
  obtain ⟨fl, fh, -⟩ := pw_obj (c := 0) I rfl
  refine pw_callH (m' := 169) (As := [.ref 16, pw_i bk, pw_i b, pw_i e, pw_i wt]) (rest := [pw_i 0, .ref 185]) (ls'' := [some (.ref 16), some (pw_i bk), some (pw_i b), some (pw_i e), some (pw_i wt), none, none]) (by omega) E rfl (fun _ => pw_iVh rfl rfl rfl rfl (pw_cellI fh rfl)) (rfl : pm_ent 169 = some (5, 7, 11, 0, pmc_169)) rfl rfl (cm_169 (by omega) I bk (by omega) (by omega) b (by omega) (by omega) e (by omega) (by omega) wt (by omega) (by omega)) ?_
  rintro h1 v1 ⟨rfl, rfl | ⟨a, rfl, ha, hb⟩⟩
  · exact Or.inl ⟨rfl, I, pw_E.rf _ _, 1, rfl, by decide, by decide⟩
  · refine Or.inr ⟨_, rfl, ?_⟩
    show pw X d h 310 12 [some (.ref 16), some (pw_i bk), some (pw_i b), some (pw_i e), some (pw_i wt), some (.ref 185), none] [pw_i a, pw_i 0, .ref 185] _
    refine pw_ld E (pc' := 13) (st' := [.long ((Int32.ofInt a).toInt64), pw_i 0, .ref 185]) rfl (fun _ => rfl) ?_
    refine pw_last I E (c := 169) (pc' := 14) rfl rfl rfl (by decide) (by decide) (by decide) rfl ?_
    intro I2 E2
    have E3 := (pw_E.rf _ _ : pw_E [169] h h).tr (E2.wk (W' := [169]) (by first | rfl | decide))
    refine pw_goto E (pc' := 21) rfl (by decide) ?_
    refine pw_ld E (pc' := 22) (st' := [pw_i 0]) rfl (fun _ => rfl) ?_
    refine pw_iret E rfl ?_
    exact ⟨I2, E3, 0, rfl, by decide, by decide⟩
set_option maxHeartbeats 1000000 in
theorem cm_311 {X : List (Nat × List Value)} {d : Nat} {h : pm_H} (hd : 6 ≤ d) (I : pw_I h) (a0 : Int) (ha01 : (-2147483648) ≤ a0) (ha02 : a0 ≤ 2147483647) (a1 : Int) (ha11 : (-2147483648) ≤ a1) (ha12 : a1 ≤ 2147483647) (a2 : Int) (ha21 : (-2147483648) ≤ a2) (ha22 : a2 ≤ 2147483647) (a3 : Int) (ha31 : (-2147483648) ≤ a3) (ha32 : a3 ≤ 2147483647) : pw X d h 311 0 [some (.ref 16), some (pw_i a0), some (pw_i a1), some (pw_i a2), some (pw_i a3), some (.ref 185), none] [] (fun h' v => pw_I h' ∧ pw_E [17, 18, 22, 169] h h' ∧ ∃ a : Int, v = .inl (some (pw_i a)) ∧ 0 ≤ a ∧ a ≤ 1) := by
  have E : pm_ent 311 = some (6, 7, 13, 0, pmc_311) := rfl
  refine pw_ld E (pc' := 2) (st' := [.ref 185]) rfl (fun _ => rfl) ?_
  refine pw_ld E (pc' := 3) (st' := [pw_i 0, .ref 185]) rfl (fun _ => rfl) ?_
  refine pw_ld E (pc' := 4) (st' := [.ref 16, pw_i 0, .ref 185]) rfl (fun _ => rfl) ?_
  refine pw_ld E (pc' := 5) (st' := [pw_i a0, .ref 16, pw_i 0, .ref 185]) rfl (fun _ => rfl) ?_
  refine pw_ld E (pc' := 6) (st' := [pw_i a1, pw_i a0, .ref 16, pw_i 0, .ref 185]) rfl (fun _ => rfl) ?_
  refine pw_ld E (pc' := 7) (st' := [pw_i a2, pw_i a1, pw_i a0, .ref 16, pw_i 0, .ref 185]) rfl (fun _ => rfl) ?_
  refine pw_ld E (pc' := 9) (st' := [pw_i a3, pw_i a2, pw_i a1, pw_i a0, .ref 16, pw_i 0, .ref 185]) rfl (fun _ => rfl) ?_
  obtain ⟨fl, fh, -⟩ := pw_obj (c := 0) I rfl
  refine pw_callH (m' := 171) (As := [.ref 16, pw_i a0, pw_i a1, pw_i a2, pw_i a3]) (rest := [pw_i 0, .ref 185]) (ls'' := [some (.ref 16), some (pw_i a0), some (pw_i a1), some (pw_i a2), some (pw_i a3), none]) (by omega) E rfl (fun _ => pw_iVh rfl rfl rfl rfl (pw_cellI fh rfl)) (rfl : pm_ent 171 = some (5, 6, 11, 2, pmc_171)) rfl rfl (cm_171 (by omega) I a0 (by omega) (by omega) a1 (by omega) (by omega) a2 (by omega) (by omega) a3 (by omega) (by omega)) ?_
  rintro h1 v1 ⟨I1, E1, rfl | ⟨w, rfl⟩⟩
  · exact Or.inl ⟨rfl, I1, (E1.wk (W' := [17, 18, 22, 169]) (by first | rfl | decide)), 1, rfl, by decide, by decide⟩
  · refine Or.inr ⟨_, rfl, ?_⟩
    show pw X d h1 311 12 [some (.ref 16), some (pw_i a0), some (pw_i a1), some (pw_i a2), some (pw_i a3), some (.ref 185), none] [.long w, pw_i 0, .ref 185] _
    refine pw_last I1 E (c := 169) (pc' := 13) rfl rfl rfl (by decide) (by decide) (by decide) rfl ?_
    intro I2 E2
    have E3 := ((E1.wk (W' := [17, 18, 22, 169]) (by first | rfl | decide)) : pw_E [17, 18, 22, 169] h h1).tr (E2.wk (W' := [17, 18, 22, 169]) (by first | rfl | decide))
    refine pw_goto E (pc' := 20) rfl (by decide) ?_
    refine pw_ld E (pc' := 21) (st' := [pw_i 0]) rfl (fun _ => rfl) ?_
    refine pw_iret E rfl ?_
    exact ⟨I2, E3, 0, rfl, by decide, by decide⟩
set_option maxHeartbeats 1000000 in
theorem cm_312 {X : List (Nat × List Value)} {d : Nat} {h : pm_H} (hd : 6 ≤ d) (I : pw_I h) (a0 : Int) (ha01 : (-2147483648) ≤ a0) (ha02 : a0 ≤ 2147483647) (a1 : Int) (ha11 : (-2147483648) ≤ a1) (ha12 : a1 ≤ 2147483647) (a2 : Int) (ha21 : (-2147483648) ≤ a2) (ha22 : a2 ≤ 2147483647) (a3 : Int) (ha31 : (-2147483648) ≤ a3) (ha32 : a3 ≤ 2147483647) : pw X d h 312 0 [some (.ref 16), some (pw_i a0), some (pw_i a1), some (pw_i a2), some (pw_i a3), some (.ref 185), none] [] (fun h' v => pw_I h' ∧ pw_E [17, 18, 22, 23, 169] h h' ∧ ∃ a : Int, v = .inl (some (pw_i a)) ∧ 0 ≤ a ∧ a ≤ 1) := by
  have E : pm_ent 312 = some (6, 7, 13, 0, pmc_312) := rfl
  refine pw_ld E (pc' := 2) (st' := [.ref 185]) rfl (fun _ => rfl) ?_
  refine pw_ld E (pc' := 3) (st' := [pw_i 0, .ref 185]) rfl (fun _ => rfl) ?_
  refine pw_ld E (pc' := 4) (st' := [.ref 16, pw_i 0, .ref 185]) rfl (fun _ => rfl) ?_
  refine pw_ld E (pc' := 5) (st' := [pw_i a0, .ref 16, pw_i 0, .ref 185]) rfl (fun _ => rfl) ?_
  refine pw_ld E (pc' := 6) (st' := [pw_i a1, pw_i a0, .ref 16, pw_i 0, .ref 185]) rfl (fun _ => rfl) ?_
  refine pw_ld E (pc' := 7) (st' := [pw_i a2, pw_i a1, pw_i a0, .ref 16, pw_i 0, .ref 185]) rfl (fun _ => rfl) ?_
  refine pw_ld E (pc' := 9) (st' := [pw_i a3, pw_i a2, pw_i a1, pw_i a0, .ref 16, pw_i 0, .ref 185]) rfl (fun _ => rfl) ?_
  obtain ⟨fl, fh, -⟩ := pw_obj (c := 0) I rfl
  refine pw_callH (m' := 172) (As := [.ref 16, pw_i a0, pw_i a1, pw_i a2, pw_i a3]) (rest := [pw_i 0, .ref 185]) (ls'' := [some (.ref 16), some (pw_i a0), some (pw_i a1), some (pw_i a2), some (pw_i a3), none]) (by omega) E rfl (fun _ => pw_iVh rfl rfl rfl rfl (pw_cellI fh rfl)) (rfl : pm_ent 172 = some (5, 6, 11, 2, pmc_172)) rfl rfl (cm_172 (by omega) I a0 (by omega) (by omega) a1 (by omega) (by omega) a2 (by omega) (by omega) a3 (by omega) (by omega)) ?_
  rintro h1 v1 ⟨I1, E1, rfl | ⟨w, rfl⟩⟩
  · exact Or.inl ⟨rfl, I1, (E1.wk (W' := [17, 18, 22, 23, 169]) (by first | rfl | decide)), 1, rfl, by decide, by decide⟩
  · refine Or.inr ⟨_, rfl, ?_⟩
    show pw X d h1 312 12 [some (.ref 16), some (pw_i a0), some (pw_i a1), some (pw_i a2), some (pw_i a3), some (.ref 185), none] [.long w, pw_i 0, .ref 185] _
    refine pw_last I1 E (c := 169) (pc' := 13) rfl rfl rfl (by decide) (by decide) (by decide) rfl ?_
    intro I2 E2
    have E3 := ((E1.wk (W' := [17, 18, 22, 23, 169]) (by first | rfl | decide)) : pw_E [17, 18, 22, 23, 169] h h1).tr (E2.wk (W' := [17, 18, 22, 23, 169]) (by first | rfl | decide))
    refine pw_goto E (pc' := 20) rfl (by decide) ?_
    refine pw_ld E (pc' := 21) (st' := [pw_i 0]) rfl (fun _ => rfl) ?_
    refine pw_iret E rfl ?_
    exact ⟨I2, E3, 0, rfl, by decide, by decide⟩
set_option maxHeartbeats 1000000 in
theorem cm_313 {X : List (Nat × List Value)} {d : Nat} {h : pm_H} (hd : 6 ≤ d) (I : pw_I h) (a0 : Int) (ha01 : (-2147483648) ≤ a0) (ha02 : a0 ≤ 2147483647) (a1 : Int) (ha11 : (-2147483648) ≤ a1) (ha12 : a1 ≤ 2147483647) (a2 : Int) (ha21 : (-2147483648) ≤ a2) (ha22 : a2 ≤ 2147483647) : pw X d h 313 0 [some (.ref 16), some (pw_i a0), some (pw_i a1), some (pw_i a2), some (.ref 185), none] [] (fun h' v => pw_I h' ∧ pw_E [17, 18, 22, 169] h h' ∧ ∃ a : Int, v = .inl (some (pw_i a)) ∧ 0 ≤ a ∧ a ≤ 1) := by
  have E : pm_ent 313 = some (5, 6, 13, 0, pmc_313) := rfl
  refine pw_ld E (pc' := 2) (st' := [.ref 185]) rfl (fun _ => rfl) ?_
  refine pw_ld E (pc' := 3) (st' := [pw_i 0, .ref 185]) rfl (fun _ => rfl) ?_
  refine pw_ld E (pc' := 4) (st' := [.ref 16, pw_i 0, .ref 185]) rfl (fun _ => rfl) ?_
  refine pw_ld E (pc' := 5) (st' := [pw_i a0, .ref 16, pw_i 0, .ref 185]) rfl (fun _ => rfl) ?_
  refine pw_ld E (pc' := 6) (st' := [pw_i a1, pw_i a0, .ref 16, pw_i 0, .ref 185]) rfl (fun _ => rfl) ?_
  refine pw_ld E (pc' := 7) (st' := [pw_i a2, pw_i a1, pw_i a0, .ref 16, pw_i 0, .ref 185]) rfl (fun _ => rfl) ?_
  obtain ⟨fl, fh, -⟩ := pw_obj (c := 0) I rfl
  refine pw_callH (m' := 173) (As := [.ref 16, pw_i a0, pw_i a1, pw_i a2]) (rest := [pw_i 0, .ref 185]) (ls'' := [some (.ref 16), some (pw_i a0), some (pw_i a1), some (pw_i a2)]) (by omega) E rfl (fun _ => pw_iVh rfl rfl rfl rfl (pw_cellI fh rfl)) (rfl : pm_ent 173 = some (4, 4, 11, 2, pmc_173)) rfl rfl (cm_173 (by omega) I a0 (by omega) (by omega) a1 (by omega) (by omega) a2 (by omega) (by omega)) ?_
  rintro h1 v1 ⟨I1, E1, rfl | ⟨w, rfl⟩⟩
  · exact Or.inl ⟨rfl, I1, (E1.wk (W' := [17, 18, 22, 169]) (by first | rfl | decide)), 1, rfl, by decide, by decide⟩
  · refine Or.inr ⟨_, rfl, ?_⟩
    show pw X d h1 313 10 [some (.ref 16), some (pw_i a0), some (pw_i a1), some (pw_i a2), some (.ref 185), none] [.long w, pw_i 0, .ref 185] _
    refine pw_last I1 E (c := 169) (pc' := 11) rfl rfl rfl (by decide) (by decide) (by decide) rfl ?_
    intro I2 E2
    have E3 := ((E1.wk (W' := [17, 18, 22, 169]) (by first | rfl | decide)) : pw_E [17, 18, 22, 169] h h1).tr (E2.wk (W' := [17, 18, 22, 169]) (by first | rfl | decide))
    refine pw_goto E (pc' := 18) rfl (by decide) ?_
    refine pw_ld E (pc' := 19) (st' := [pw_i 0]) rfl (fun _ => rfl) ?_
    refine pw_iret E rfl ?_
    exact ⟨I2, E3, 0, rfl, by decide, by decide⟩
set_option maxHeartbeats 1000000 in
theorem cm_314 {X : List (Nat × List Value)} {d : Nat} {h : pm_H} (hd : 5 ≤ d) (I : pw_I h) (b : Int) (hb1 : (-2147483648) ≤ b) (hb2 : b ≤ 2147483647) (e : Int) (he1 : (-2147483648) ≤ e) (he2 : e ≤ 2147483647) (z : Int) (hz1 : 0 ≤ z) (hz2 : z ≤ 1) (wt : Int) (hwt1 : (-2147483648) ≤ wt) (hwt2 : wt ≤ 2147483647) : pw X d h 314 0 [some (.ref 16), some (pw_i b), some (pw_i e), some (pw_i z), some (pw_i wt), some (.ref 185), none] [] (fun h' v => pw_I h' ∧ pw_E [17, 18, 22, 169] h h' ∧ ∃ a : Int, v = .inl (some (pw_i a)) ∧ 0 ≤ a ∧ a ≤ 1) := by
  have E : pm_ent 314 = some (6, 7, 13, 0, pmc_314) := rfl
  refine pw_ld E (pc' := 2) (st' := [.ref 185]) rfl (fun _ => rfl) ?_
  refine pw_ld E (pc' := 3) (st' := [pw_i 0, .ref 185]) rfl (fun _ => rfl) ?_
  refine pw_ld E (pc' := 4) (st' := [.ref 16, pw_i 0, .ref 185]) rfl (fun _ => rfl) ?_
  refine pw_ld E (pc' := 5) (st' := [pw_i b, .ref 16, pw_i 0, .ref 185]) rfl (fun _ => rfl) ?_
  refine pw_ld E (pc' := 6) (st' := [pw_i e, pw_i b, .ref 16, pw_i 0, .ref 185]) rfl (fun _ => rfl) ?_
  refine pw_ld E (pc' := 7) (st' := [pw_i z, pw_i e, pw_i b, .ref 16, pw_i 0, .ref 185]) rfl (fun _ => rfl) ?_
  refine pw_ld E (pc' := 9) (st' := [pw_i wt, pw_i z, pw_i e, pw_i b, .ref 16, pw_i 0, .ref 185]) rfl (fun _ => rfl) ?_
  obtain ⟨fl, fh, -⟩ := pw_obj (c := 0) I rfl
  refine pw_callH (m' := 177) (As := [.ref 16, pw_i b, pw_i e, pw_i z, pw_i wt]) (rest := [pw_i 0, .ref 185]) (ls'' := [some (.ref 16), some (pw_i b), some (pw_i e), some (pw_i z), some (pw_i wt), none, none]) (by omega) E rfl (fun _ => pw_iVh rfl rfl rfl rfl (pw_cellI fh rfl)) (rfl : pm_ent 177 = some (5, 7, 11, 2, pmc_177)) rfl rfl (cm_177 (by omega) I b (by omega) (by omega) e (by omega) (by omega) z (by omega) (by omega) wt (by omega) (by omega)) ?_
  rintro h1 v1 ⟨I1, E1, rfl | ⟨w, rfl⟩⟩
  · exact Or.inl ⟨rfl, I1, (E1.wk (W' := [17, 18, 22, 169]) (by first | rfl | decide)), 1, rfl, by decide, by decide⟩
  · refine Or.inr ⟨_, rfl, ?_⟩
    show pw X d h1 314 12 [some (.ref 16), some (pw_i b), some (pw_i e), some (pw_i z), some (pw_i wt), some (.ref 185), none] [.long w, pw_i 0, .ref 185] _
    refine pw_last I1 E (c := 169) (pc' := 13) rfl rfl rfl (by decide) (by decide) (by decide) rfl ?_
    intro I2 E2
    have E3 := ((E1.wk (W' := [17, 18, 22, 169]) (by first | rfl | decide)) : pw_E [17, 18, 22, 169] h h1).tr (E2.wk (W' := [17, 18, 22, 169]) (by first | rfl | decide))
    refine pw_goto E (pc' := 20) rfl (by decide) ?_
    refine pw_ld E (pc' := 21) (st' := [pw_i 0]) rfl (fun _ => rfl) ?_
    refine pw_iret E rfl ?_
    exact ⟨I2, E3, 0, rfl, by decide, by decide⟩
set_option maxHeartbeats 1000000 in
theorem cm_315 {X : List (Nat × List Value)} {d : Nat} {h : pm_H} (hd : 6 ≤ d) (I : pw_I h) (a0 : Int) (ha01 : (-2147483648) ≤ a0) (ha02 : a0 ≤ 2147483647) (a1 : Int) (ha11 : (-2147483648) ≤ a1) (ha12 : a1 ≤ 2147483647) (a2 : Int) (ha21 : (-2147483648) ≤ a2) (ha22 : a2 ≤ 2147483647) (a3 : Int) (ha31 : (-2147483648) ≤ a3) (ha32 : a3 ≤ 2147483647) : pw X d h 315 0 [some (.ref 16), some (pw_i a0), some (pw_i a1), some (pw_i a2), some (pw_i a3), some (.ref 185), none] [] (fun h' v => pw_I h' ∧ pw_E [17, 18, 22, 19, 169] h h' ∧ ∃ a : Int, v = .inl (some (pw_i a)) ∧ 0 ≤ a ∧ a ≤ 1) := by
  have E : pm_ent 315 = some (6, 7, 13, 0, pmc_315) := rfl
  refine pw_ld E (pc' := 2) (st' := [.ref 185]) rfl (fun _ => rfl) ?_
  refine pw_ld E (pc' := 3) (st' := [pw_i 0, .ref 185]) rfl (fun _ => rfl) ?_
  refine pw_ld E (pc' := 4) (st' := [.ref 16, pw_i 0, .ref 185]) rfl (fun _ => rfl) ?_
  refine pw_ld E (pc' := 5) (st' := [pw_i a0, .ref 16, pw_i 0, .ref 185]) rfl (fun _ => rfl) ?_
  refine pw_ld E (pc' := 6) (st' := [pw_i a1, pw_i a0, .ref 16, pw_i 0, .ref 185]) rfl (fun _ => rfl) ?_
  refine pw_ld E (pc' := 7) (st' := [pw_i a2, pw_i a1, pw_i a0, .ref 16, pw_i 0, .ref 185]) rfl (fun _ => rfl) ?_
  refine pw_ld E (pc' := 9) (st' := [pw_i a3, pw_i a2, pw_i a1, pw_i a0, .ref 16, pw_i 0, .ref 185]) rfl (fun _ => rfl) ?_
  obtain ⟨fl, fh, -⟩ := pw_obj (c := 0) I rfl
  refine pw_callH (m' := 178) (As := [.ref 16, pw_i a0, pw_i a1, pw_i a2, pw_i a3]) (rest := [pw_i 0, .ref 185]) (ls'' := [some (.ref 16), some (pw_i a0), some (pw_i a1), some (pw_i a2), some (pw_i a3), none]) (by omega) E rfl (fun _ => pw_iVh rfl rfl rfl rfl (pw_cellI fh rfl)) (rfl : pm_ent 178 = some (5, 6, 11, 2, pmc_178)) rfl rfl (cm_178 (by omega) I a0 (by omega) (by omega) a1 (by omega) (by omega) a2 (by omega) (by omega) a3 (by omega) (by omega)) ?_
  rintro h1 v1 ⟨I1, E1, rfl | ⟨w, rfl⟩⟩
  · exact Or.inl ⟨rfl, I1, (E1.wk (W' := [17, 18, 22, 19, 169]) (by first | rfl | decide)), 1, rfl, by decide, by decide⟩
  · refine Or.inr ⟨_, rfl, ?_⟩
    show pw X d h1 315 12 [some (.ref 16), some (pw_i a0), some (pw_i a1), some (pw_i a2), some (pw_i a3), some (.ref 185), none] [.long w, pw_i 0, .ref 185] _
    refine pw_last I1 E (c := 169) (pc' := 13) rfl rfl rfl (by decide) (by decide) (by decide) rfl ?_
    intro I2 E2
    have E3 := ((E1.wk (W' := [17, 18, 22, 19, 169]) (by first | rfl | decide)) : pw_E [17, 18, 22, 19, 169] h h1).tr (E2.wk (W' := [17, 18, 22, 19, 169]) (by first | rfl | decide))
    refine pw_goto E (pc' := 20) rfl (by decide) ?_
    refine pw_ld E (pc' := 21) (st' := [pw_i 0]) rfl (fun _ => rfl) ?_
    refine pw_iret E rfl ?_
    exact ⟨I2, E3, 0, rfl, by decide, by decide⟩
set_option maxHeartbeats 1000000 in
theorem cm_316 {X : List (Nat × List Value)} {d : Nat} {h : pm_H} (hd : 5 ≤ d) (I : pw_I h) (a0 : Int) (ha01 : (-2147483648) ≤ a0) (ha02 : a0 ≤ 2147483647) (a1 : Int) (ha11 : (-2147483648) ≤ a1) (ha12 : a1 ≤ 2147483647) (a2 : Int) (ha21 : (-2147483648) ≤ a2) (ha22 : a2 ≤ 2147483647) : pw X d h 316 0 [some (.ref 16), some (pw_i a0), some (pw_i a1), some (pw_i a2), some (.ref 185), none] [] (fun h' v => pw_I h' ∧ pw_E [17, 18, 22, 169] h h' ∧ ∃ a : Int, v = .inl (some (pw_i a)) ∧ 0 ≤ a ∧ a ≤ 1) := by
  have E : pm_ent 316 = some (5, 6, 13, 0, pmc_316) := rfl
  refine pw_ld E (pc' := 2) (st' := [.ref 185]) rfl (fun _ => rfl) ?_
  refine pw_ld E (pc' := 3) (st' := [pw_i 0, .ref 185]) rfl (fun _ => rfl) ?_
  refine pw_ld E (pc' := 4) (st' := [.ref 16, pw_i 0, .ref 185]) rfl (fun _ => rfl) ?_
  refine pw_ld E (pc' := 5) (st' := [pw_i a0, .ref 16, pw_i 0, .ref 185]) rfl (fun _ => rfl) ?_
  refine pw_ld E (pc' := 6) (st' := [pw_i a1, pw_i a0, .ref 16, pw_i 0, .ref 185]) rfl (fun _ => rfl) ?_
  refine pw_ld E (pc' := 7) (st' := [pw_i a2, pw_i a1, pw_i a0, .ref 16, pw_i 0, .ref 185]) rfl (fun _ => rfl) ?_
  obtain ⟨fl, fh, -⟩ := pw_obj (c := 0) I rfl
  refine pw_callH (m' := 179) (As := [.ref 16, pw_i a0, pw_i a1, pw_i a2]) (rest := [pw_i 0, .ref 185]) (ls'' := [some (.ref 16), some (pw_i a0), some (pw_i a1), some (pw_i a2), none]) (by omega) E rfl (fun _ => pw_iVh rfl rfl rfl rfl (pw_cellI fh rfl)) (rfl : pm_ent 179 = some (4, 5, 11, 2, pmc_179)) rfl rfl (cm_179 (by omega) I a0 (by omega) (by omega) a1 (by omega) (by omega) a2 (by omega) (by omega)) ?_
  rintro h1 v1 ⟨I1, E1, rfl | ⟨w, rfl⟩⟩
  · exact Or.inl ⟨rfl, I1, (E1.wk (W' := [17, 18, 22, 169]) (by first | rfl | decide)), 1, rfl, by decide, by decide⟩
  · refine Or.inr ⟨_, rfl, ?_⟩
    show pw X d h1 316 10 [some (.ref 16), some (pw_i a0), some (pw_i a1), some (pw_i a2), some (.ref 185), none] [.long w, pw_i 0, .ref 185] _
    refine pw_last I1 E (c := 169) (pc' := 11) rfl rfl rfl (by decide) (by decide) (by decide) rfl ?_
    intro I2 E2
    have E3 := ((E1.wk (W' := [17, 18, 22, 169]) (by first | rfl | decide)) : pw_E [17, 18, 22, 169] h h1).tr (E2.wk (W' := [17, 18, 22, 169]) (by first | rfl | decide))
    refine pw_goto E (pc' := 18) rfl (by decide) ?_
    refine pw_ld E (pc' := 19) (st' := [pw_i 0]) rfl (fun _ => rfl) ?_
    refine pw_iret E rfl ?_
    exact ⟨I2, E3, 0, rfl, by decide, by decide⟩
set_option maxHeartbeats 1000000 in
theorem cm_318 {X : List (Nat × List Value)} {d : Nat} {h : pm_H} (hd : 4 ≤ d) (I : pw_I h) (z : Int) (hz1 : 0 ≤ z) (hz2 : z ≤ 1) (wt : Int) (hwt1 : (-2147483648) ≤ wt) (hwt2 : wt ≤ 2147483647) : pw X d h 318 0 [some (.ref 16), some (pw_i z), some (pw_i wt), some (.ref 185), none] [] (fun h' v => pw_I h' ∧ pw_E [22, 169] h h' ∧ ∃ a : Int, v = .inl (some (pw_i a)) ∧ 0 ≤ a ∧ a ≤ 1) := by
  have E : pm_ent 318 = some (4, 5, 13, 0, pmc_318) := rfl
  refine pw_ld E (pc' := 1) (st' := [.ref 185]) rfl (fun _ => rfl) ?_
  refine pw_ld E (pc' := 2) (st' := [pw_i 0, .ref 185]) rfl (fun _ => rfl) ?_
  refine pw_ld E (pc' := 3) (st' := [.ref 16, pw_i 0, .ref 185]) rfl (fun _ => rfl) ?_
  refine pw_ld E (pc' := 4) (st' := [pw_i z, .ref 16, pw_i 0, .ref 185]) rfl (fun _ => rfl) ?_
  refine pw_ld E (pc' := 5) (st' := [pw_i wt, pw_i z, .ref 16, pw_i 0, .ref 185]) rfl (fun _ => rfl) ?_
  obtain ⟨fl, fh, -⟩ := pw_obj (c := 0) I rfl
  refine pw_callH (m' := 181) (As := [.ref 16, pw_i z, pw_i wt]) (rest := [pw_i 0, .ref 185]) (ls'' := [some (.ref 16), some (pw_i z), some (pw_i wt)]) (by omega) E rfl (fun _ => pw_iVh rfl rfl rfl rfl (pw_cellI fh rfl)) (rfl : pm_ent 181 = some (3, 3, 11, 2, pmc_181)) rfl rfl (cm_181 (by omega) I z (by omega) (by omega) wt (by omega) (by omega)) ?_
  rintro h1 v1 ⟨I1, E1, rfl | ⟨w, rfl⟩⟩
  · exact Or.inl ⟨rfl, I1, (E1.wk (W' := [22, 169]) (by first | rfl | decide)), 1, rfl, by decide, by decide⟩
  · refine Or.inr ⟨_, rfl, ?_⟩
    show pw X d h1 318 8 [some (.ref 16), some (pw_i z), some (pw_i wt), some (.ref 185), none] [.long w, pw_i 0, .ref 185] _
    refine pw_last I1 E (c := 169) (pc' := 9) rfl rfl rfl (by decide) (by decide) (by decide) rfl ?_
    intro I2 E2
    have E3 := ((E1.wk (W' := [22, 169]) (by first | rfl | decide)) : pw_E [22, 169] h h1).tr (E2.wk (W' := [22, 169]) (by first | rfl | decide))
    refine pw_goto E (pc' := 16) rfl (by decide) ?_
    refine pw_ld E (pc' := 17) (st' := [pw_i 0]) rfl (fun _ => rfl) ?_
    refine pw_iret E rfl ?_
    exact ⟨I2, E3, 0, rfl, by decide, by decide⟩
set_option maxHeartbeats 1000000 in
theorem cm_319 {X : List (Nat × List Value)} {d : Nat} {h : pm_H} (hd : 7 ≤ d) (I : pw_I h) (wr : Int) (hwr1 : (-2147483648) ≤ wr) (hwr2 : wr ≤ 2147483647) (wt : Int) (hwt1 : (-2147483648) ≤ wt) (hwt2 : wt ≤ 2147483647) : pw X d h 319 0 [some (.ref 16), some (pw_i wr), some (pw_i wt), some (.ref 185), none] [] (fun h' v => pw_I h' ∧ pw_E [17, 18, 22, 95, 51, 65, 79, 93, 169] h h' ∧ ∃ a : Int, v = .inl (some (pw_i a)) ∧ 0 ≤ a ∧ a ≤ 1) := by
  have E : pm_ent 319 = some (4, 5, 13, 0, pmc_319) := rfl
  refine pw_ld E (pc' := 1) (st' := [.ref 185]) rfl (fun _ => rfl) ?_
  refine pw_ld E (pc' := 2) (st' := [pw_i 0, .ref 185]) rfl (fun _ => rfl) ?_
  refine pw_ld E (pc' := 3) (st' := [.ref 16, pw_i 0, .ref 185]) rfl (fun _ => rfl) ?_
  refine pw_ld E (pc' := 4) (st' := [pw_i wr, .ref 16, pw_i 0, .ref 185]) rfl (fun _ => rfl) ?_
  refine pw_ld E (pc' := 5) (st' := [pw_i wt, pw_i wr, .ref 16, pw_i 0, .ref 185]) rfl (fun _ => rfl) ?_
  obtain ⟨fl, fh, -⟩ := pw_obj (c := 0) I rfl
  refine pw_callH (m' := 182) (As := [.ref 16, pw_i wr, pw_i wt]) (rest := [pw_i 0, .ref 185]) (ls'' := [some (.ref 16), some (pw_i wr), some (pw_i wt), none]) (by omega) E rfl (fun _ => pw_iVh rfl rfl rfl rfl (pw_cellI fh rfl)) (rfl : pm_ent 182 = some (3, 4, 11, 2, pmc_182)) rfl rfl (cm_182 (by omega) I wr (by omega) (by omega) wt (by omega) (by omega)) ?_
  rintro h1 v1 ⟨I1, E1, rfl | ⟨w, rfl⟩⟩
  · exact Or.inl ⟨rfl, I1, (E1.wk (W' := [17, 18, 22, 95, 51, 65, 79, 93, 169]) (by first | rfl | decide)), 1, rfl, by decide, by decide⟩
  · refine Or.inr ⟨_, rfl, ?_⟩
    show pw X d h1 319 8 [some (.ref 16), some (pw_i wr), some (pw_i wt), some (.ref 185), none] [.long w, pw_i 0, .ref 185] _
    refine pw_last I1 E (c := 169) (pc' := 9) rfl rfl rfl (by decide) (by decide) (by decide) rfl ?_
    intro I2 E2
    have E3 := ((E1.wk (W' := [17, 18, 22, 95, 51, 65, 79, 93, 169]) (by first | rfl | decide)) : pw_E [17, 18, 22, 95, 51, 65, 79, 93, 169] h h1).tr (E2.wk (W' := [17, 18, 22, 95, 51, 65, 79, 93, 169]) (by first | rfl | decide))
    refine pw_goto E (pc' := 16) rfl (by decide) ?_
    refine pw_ld E (pc' := 17) (st' := [pw_i 0]) rfl (fun _ => rfl) ?_
    refine pw_iret E rfl ?_
    exact ⟨I2, E3, 0, rfl, by decide, by decide⟩
set_option maxHeartbeats 1000000 in
theorem cm_320 {X : List (Nat × List Value)} {d : Nat} {h : pm_H} (hd : 7 ≤ d) (I : pw_I h) (wt : Int) (hwt1 : (-2147483648) ≤ wt) (hwt2 : wt ≤ 2147483647) : pw X d h 320 0 [some (.ref 16), some (pw_i wt), some (.ref 185), none] [] (fun h' v => pw_I h' ∧ pw_E [17, 18, 22, 23, 95, 51, 65, 79, 93, 169] h h' ∧ ∃ a : Int, v = .inl (some (pw_i a)) ∧ 0 ≤ a ∧ a ≤ 1) := by
  have E : pm_ent 320 = some (3, 4, 13, 0, pmc_320) := rfl
  refine pw_ld E (pc' := 1) (st' := [.ref 185]) rfl (fun _ => rfl) ?_
  refine pw_ld E (pc' := 2) (st' := [pw_i 0, .ref 185]) rfl (fun _ => rfl) ?_
  refine pw_ld E (pc' := 3) (st' := [.ref 16, pw_i 0, .ref 185]) rfl (fun _ => rfl) ?_
  refine pw_ld E (pc' := 4) (st' := [pw_i wt, .ref 16, pw_i 0, .ref 185]) rfl (fun _ => rfl) ?_
  obtain ⟨fl, fh, -⟩ := pw_obj (c := 0) I rfl
  refine pw_callH (m' := 184) (As := [.ref 16, pw_i wt]) (rest := [pw_i 0, .ref 185]) (ls'' := [some (.ref 16), some (pw_i wt), none, none, none, none]) (by omega) E rfl (fun _ => pw_iVh rfl rfl rfl rfl (pw_cellI fh rfl)) (rfl : pm_ent 184 = some (2, 6, 11, 2, pmc_184)) rfl rfl (cm_184 (by omega) I wt (by omega) (by omega)) ?_
  rintro h1 v1 ⟨I1, E1, rfl | ⟨w, rfl⟩⟩
  · exact Or.inl ⟨rfl, I1, (E1.wk (W' := [17, 18, 22, 23, 95, 51, 65, 79, 93, 169]) (by first | rfl | decide)), 1, rfl, by decide, by decide⟩
  · refine Or.inr ⟨_, rfl, ?_⟩
    show pw X d h1 320 7 [some (.ref 16), some (pw_i wt), some (.ref 185), none] [.long w, pw_i 0, .ref 185] _
    refine pw_last I1 E (c := 169) (pc' := 8) rfl rfl rfl (by decide) (by decide) (by decide) rfl ?_
    intro I2 E2
    have E3 := ((E1.wk (W' := [17, 18, 22, 23, 95, 51, 65, 79, 93, 169]) (by first | rfl | decide)) : pw_E [17, 18, 22, 23, 95, 51, 65, 79, 93, 169] h h1).tr (E2.wk (W' := [17, 18, 22, 23, 95, 51, 65, 79, 93, 169]) (by first | rfl | decide))
    refine pw_goto E (pc' := 14) rfl (by decide) ?_
    refine pw_ld E (pc' := 15) (st' := [pw_i 0]) rfl (fun _ => rfl) ?_
    refine pw_iret E rfl ?_
    exact ⟨I2, E3, 0, rfl, by decide, by decide⟩
set_option maxHeartbeats 1000000 in
theorem cm_321 {X : List (Nat × List Value)} {d : Nat} {h : pm_H} (hd : 6 ≤ d) (I : pw_I h) (k : Int) (hk1 : (-2147483648) ≤ k) (hk2 : k ≤ 2147483647) (mo : Int) (hmo1 : (-2147483648) ≤ mo) (hmo2 : mo ≤ 2147483647) (wt : Int) (hwt1 : (-2147483648) ≤ wt) (hwt2 : wt ≤ 2147483647) : pw X d h 321 0 [some (.ref 16), some (pw_i k), some (pw_i mo), some (pw_i wt), some (.ref 185), none] [] (fun h' v => pw_I h' ∧ pw_E [169] h h' ∧ ∃ a : Int, v = .inl (some (pw_i a)) ∧ 0 ≤ a ∧ a ≤ 1) := by
  have E : pm_ent 321 = some (5, 6, 13, 0, pmc_321) := rfl
  refine pw_ld E (pc' := 2) (st' := [.ref 185]) rfl (fun _ => rfl) ?_
  refine pw_ld E (pc' := 3) (st' := [pw_i 0, .ref 185]) rfl (fun _ => rfl) ?_
  refine pw_ld E (pc' := 4) (st' := [.ref 16, pw_i 0, .ref 185]) rfl (fun _ => rfl) ?_
  refine pw_ld E (pc' := 5) (st' := [pw_i k, .ref 16, pw_i 0, .ref 185]) rfl (fun _ => rfl) ?_
  refine pw_ld E (pc' := 6) (st' := [pw_i mo, pw_i k, .ref 16, pw_i 0, .ref 185]) rfl (fun _ => rfl) ?_
  refine pw_ld E (pc' := 7) (st' := [pw_i wt, pw_i mo, pw_i k, .ref 16, pw_i 0, .ref 185]) rfl (fun _ => rfl) ?_
  obtain ⟨fl, fh, -⟩ := pw_obj (c := 0) I rfl
  refine pw_callH (m' := 187) (As := [.ref 16, pw_i k, pw_i mo, pw_i wt]) (rest := [pw_i 0, .ref 185]) (ls'' := [some (.ref 16), some (pw_i k), some (pw_i mo), some (pw_i wt)]) (by omega) E rfl (fun _ => pw_iVh rfl rfl rfl rfl (pw_cellI fh rfl)) (rfl : pm_ent 187 = some (4, 4, 11, 2, pmc_187)) rfl rfl (cm_187 (by omega) I k (by omega) (by omega) mo (by omega) (by omega) wt (by omega) (by omega)) ?_
  rintro h1 v1 ⟨rfl, rfl | ⟨w, rfl⟩⟩
  · exact Or.inl ⟨rfl, I, pw_E.rf _ _, 1, rfl, by decide, by decide⟩
  · refine Or.inr ⟨_, rfl, ?_⟩
    show pw X d h 321 10 [some (.ref 16), some (pw_i k), some (pw_i mo), some (pw_i wt), some (.ref 185), none] [.long w, pw_i 0, .ref 185] _
    refine pw_last I E (c := 169) (pc' := 11) rfl rfl rfl (by decide) (by decide) (by decide) rfl ?_
    intro I2 E2
    have E3 := (pw_E.rf _ _ : pw_E [169] h h).tr (E2.wk (W' := [169]) (by first | rfl | decide))
    refine pw_goto E (pc' := 18) rfl (by decide) ?_
    refine pw_ld E (pc' := 19) (st' := [pw_i 0]) rfl (fun _ => rfl) ?_
    refine pw_iret E rfl ?_
    exact ⟨I2, E3, 0, rfl, by decide, by decide⟩
set_option maxHeartbeats 1000000 in
theorem cm_322 {X : List (Nat × List Value)} {d : Nat} {h : pm_H} (hd : 7 ≤ d) (I : pw_I h) (bk : Int) (hbk1 : (-2147483648) ≤ bk) (hbk2 : bk ≤ 2147483647) (b : Int) (hb1 : (-2147483648) ≤ b) (hb2 : b ≤ 2147483647) (e : Int) (he1 : (-2147483648) ≤ e) (he2 : e ≤ 2147483647) (wt : Int) (hwt1 : (-2147483648) ≤ wt) (hwt2 : wt ≤ 2147483647) : pw X d h 322 0 [some (.ref 16), some (pw_i bk), some (pw_i b), some (pw_i e), some (pw_i wt), some (.ref 185), none] [] (fun h' v => pw_I h' ∧ pw_E [169] h h' ∧ ∃ a : Int, v = .inl (some (pw_i a)) ∧ 0 ≤ a ∧ a ≤ 1) := by
  have E : pm_ent 322 = some (6, 7, 13, 0, pmc_322) := rfl
  refine pw_ld E (pc' := 2) (st' := [.ref 185]) rfl (fun _ => rfl) ?_
  refine pw_ld E (pc' := 3) (st' := [pw_i 0, .ref 185]) rfl (fun _ => rfl) ?_
  refine pw_ld E (pc' := 4) (st' := [.ref 16, pw_i 0, .ref 185]) rfl (fun _ => rfl) ?_
  refine pw_ld E (pc' := 5) (st' := [pw_i bk, .ref 16, pw_i 0, .ref 185]) rfl (fun _ => rfl) ?_
  refine pw_ld E (pc' := 6) (st' := [pw_i b, pw_i bk, .ref 16, pw_i 0, .ref 185]) rfl (fun _ => rfl) ?_
  refine pw_ld E (pc' := 7) (st' := [pw_i e, pw_i b, pw_i bk, .ref 16, pw_i 0, .ref 185]) rfl (fun _ => rfl) ?_
  refine pw_ld E (pc' := 9) (st' := [pw_i wt, pw_i e, pw_i b, pw_i bk, .ref 16, pw_i 0, .ref 185]) rfl (fun _ => rfl) ?_
  obtain ⟨fl, fh, -⟩ := pw_obj (c := 0) I rfl
  refine pw_callH (m' := 193) (As := [.ref 16, pw_i bk, pw_i b, pw_i e, pw_i wt]) (rest := [pw_i 0, .ref 185]) (ls'' := [some (.ref 16), some (pw_i bk), some (pw_i b), some (pw_i e), some (pw_i wt), none, none, none]) (by omega) E rfl (fun _ => pw_iVh rfl rfl rfl rfl (pw_cellI fh rfl)) (rfl : pm_ent 193 = some (5, 8, 11, 2, pmc_193)) rfl rfl (cm_193 (by omega) I bk (by omega) (by omega) b (by omega) (by omega) e (by omega) (by omega) wt (by omega) (by omega)) ?_
  rintro h1 v1 ⟨rfl, rfl | ⟨w, rfl⟩⟩
  · exact Or.inl ⟨rfl, I, pw_E.rf _ _, 1, rfl, by decide, by decide⟩
  · refine Or.inr ⟨_, rfl, ?_⟩
    show pw X d h 322 12 [some (.ref 16), some (pw_i bk), some (pw_i b), some (pw_i e), some (pw_i wt), some (.ref 185), none] [.long w, pw_i 0, .ref 185] _
    refine pw_last I E (c := 169) (pc' := 13) rfl rfl rfl (by decide) (by decide) (by decide) rfl ?_
    intro I2 E2
    have E3 := (pw_E.rf _ _ : pw_E [169] h h).tr (E2.wk (W' := [169]) (by first | rfl | decide))
    refine pw_goto E (pc' := 20) rfl (by decide) ?_
    refine pw_ld E (pc' := 21) (st' := [pw_i 0]) rfl (fun _ => rfl) ?_
    refine pw_iret E rfl ?_
    exact ⟨I2, E3, 0, rfl, by decide, by decide⟩
set_option maxHeartbeats 1000000 in
theorem cm_323 {X : List (Nat × List Value)} {d : Nat} {h : pm_H} (hd : 6 ≤ d) (I : pw_I h) (a0 : Int) (ha01 : (-2147483648) ≤ a0) (ha02 : a0 ≤ 2147483647) (a1 : Int) (ha11 : (-2147483648) ≤ a1) (ha12 : a1 ≤ 2147483647) (a2 : Int) (ha21 : (-2147483648) ≤ a2) (ha22 : a2 ≤ 2147483647) : pw X d h 323 0 [some (.ref 16), some (pw_i a0), some (pw_i a1), some (pw_i a2), some (.ref 185), none] [] (fun h' v => pw_I h' ∧ pw_E [17, 18, 22, 169] h h' ∧ ∃ a : Int, v = .inl (some (pw_i a)) ∧ 0 ≤ a ∧ a ≤ 1) := by
  have E : pm_ent 323 = some (5, 6, 13, 0, pmc_323) := rfl
  refine pw_ld E (pc' := 2) (st' := [.ref 185]) rfl (fun _ => rfl) ?_
  refine pw_ld E (pc' := 3) (st' := [pw_i 0, .ref 185]) rfl (fun _ => rfl) ?_
  refine pw_ld E (pc' := 4) (st' := [.ref 16, pw_i 0, .ref 185]) rfl (fun _ => rfl) ?_
  refine pw_ld E (pc' := 5) (st' := [pw_i a0, .ref 16, pw_i 0, .ref 185]) rfl (fun _ => rfl) ?_
  refine pw_ld E (pc' := 6) (st' := [pw_i a1, pw_i a0, .ref 16, pw_i 0, .ref 185]) rfl (fun _ => rfl) ?_
  refine pw_ld E (pc' := 7) (st' := [pw_i a2, pw_i a1, pw_i a0, .ref 16, pw_i 0, .ref 185]) rfl (fun _ => rfl) ?_
  obtain ⟨fl, fh, -⟩ := pw_obj (c := 0) I rfl
  refine pw_callH (m' := 195) (As := [.ref 16, pw_i a0, pw_i a1, pw_i a2]) (rest := [pw_i 0, .ref 185]) (ls'' := [some (.ref 16), some (pw_i a0), some (pw_i a1), some (pw_i a2), none, none, none]) (by omega) E rfl (fun _ => pw_iVh rfl rfl rfl rfl (pw_cellI fh rfl)) (rfl : pm_ent 195 = some (4, 7, 11, 2, pmc_195)) rfl rfl (cm_195 (by omega) I a0 (by omega) (by omega) a1 (by omega) (by omega) a2 (by omega) (by omega)) ?_
  rintro h1 v1 ⟨I1, E1, rfl | ⟨w, rfl⟩⟩
  · exact Or.inl ⟨rfl, I1, (E1.wk (W' := [17, 18, 22, 169]) (by first | rfl | decide)), 1, rfl, by decide, by decide⟩
  · refine Or.inr ⟨_, rfl, ?_⟩
    show pw X d h1 323 10 [some (.ref 16), some (pw_i a0), some (pw_i a1), some (pw_i a2), some (.ref 185), none] [.long w, pw_i 0, .ref 185] _
    refine pw_last I1 E (c := 169) (pc' := 11) rfl rfl rfl (by decide) (by decide) (by decide) rfl ?_
    intro I2 E2
    have E3 := ((E1.wk (W' := [17, 18, 22, 169]) (by first | rfl | decide)) : pw_E [17, 18, 22, 169] h h1).tr (E2.wk (W' := [17, 18, 22, 169]) (by first | rfl | decide))
    refine pw_goto E (pc' := 18) rfl (by decide) ?_
    refine pw_ld E (pc' := 19) (st' := [pw_i 0]) rfl (fun _ => rfl) ?_
    refine pw_iret E rfl ?_
    exact ⟨I2, E3, 0, rfl, by decide, by decide⟩
end
section
/-! the law's helpers and what it compares, exactly (printed by wip/tool/mhelpx.py) -/
theorem pv_gm_eqA {h : pm_H} {c n k : Nat} {lo hi b : Int} (I : pw_I h) (hs : pw_T[c]? = some (.inl (3, n, lo, hi))) (hk : k < n) (h1 : -4611686018427387904 ≤ b) (h2 : b ≤ 4611686018427387904) : pw_gm (pw_w h c k (.long (Int64.ofInt b))) c k = b := by
  obtain ⟨l, e1, e2, -⟩ := pw_arr I hs
  unfold pw_gm pw_gl
  rw [pw_at_w (by unfold pw_at; rw [e1]; show (l[k]?).isSome = true; rw [List.getElem?_eq_getElem (by omega)]; rfl), if_pos ⟨rfl, rfl⟩]
  exact pw_lToInt h1 h2
theorem pv_c0 {a b : Int64} {c : Int} (h : (c = -1 ∧ a < b) ∨ (c = 0 ∧ a = b) ∨ (c = 1 ∧ b < a)) (e : a = b) : c = 0 := by
  subst e
  rcases h with ⟨-, q⟩ | ⟨q, -⟩ | ⟨-, q⟩
  · exact (Int64.lt_irrefl q).elim
  · exact q
  · exact (Int64.lt_irrefl q).elim
theorem pv_out {h h' : pm_H} {x k : Int} (e : pw_gm h' 169 0 = pw_gm h 169 0) (hc : k = 0 → pw_gm h 169 0 = x) : k = 0 → pw_gl h' 169 0 = Int64.ofInt x := by
  intro q
  rw [← hc q, ← e]
  unfold pw_gm
  rw [Int64.ofInt_toInt]
section Pm
variable {X : List (Nat × List Value)} {K : Nat} {h h' : pm_H} {pc pc' len na nl own rt : Nat} {C : pm_T (Instr × Nat)} {ls ls' : pm_L} {st st' r : List Value} {Q : pm_H → (Option Value ⊕ Unit) → Prop} {i : Instr}
theorem pwl_lald {c n a : Nat} {lo hi : Int} {j : Int} (I : pw_I h) (he : pm_ent 309 = some (na, nl, own, rt, C)) (hq : pm_get C pc = some (.laload, len)) (hs : pw_T[c]? = some (.inl (3, n, lo, hi))) (ha : 16 + c = a) (hn : n ≤ 2147483647) (h0 : 0 ≤ j) (h1 : j < n) (hc : pc + len = pc') (H : pwl X K h pc' ls (.long (pw_gl h c j.toNat) :: r) Q) : pwl X (K + 1) h pc ls (pw_i j :: .ref a :: r) Q := by
  subst hc
  obtain ⟨l, v, e1, e2, e3, w, rfl⟩ := pw_el I hs h0 h1
  have e : pw_gl h c j.toNat = w := by unfold pw_gl; rw [e3]; rfl
  rw [e] at H
  refine pwl_ld he hq (st' := .long w :: r) (pc' := pc + len) (fun ih => ?_) H
  show pm_gLald X ih 50 h 309 own pc len ls (pw_i j :: .ref a :: r) = _
  unfold pm_gLald pw_i
  dsimp only
  rw [pw_rowI e1 ha]
  show cond (Nat.beq 3 3) (cond (decide (Int32.ofInt j < 0)) none (match pm_nth l (Int32.ofInt j).toNatClampNeg with
        | some (.long x) => pm_fn (pc + len) fun q => ih 50 h 309 q ls (.long x :: r)
        | _ => none)) none = _
  rw [Nat.beq_refl, cond_true, decide_eq_false (pw_neg h0 (by omega)), cond_false, pw_clamp h0 (by omega), pm_nth_eq, e2]
  show pm_fn (pc + len) _ = _
  rw [pm_fn_eq]
theorem pwl_lcmp {a b : Int64} (he : pm_ent 309 = some (na, nl, own, rt, C)) (hq : pm_get C pc = some (.lcmp, len)) (hc : pc + len = pc') (H : ∀ c : Int, (c = -1 ∧ a < b) ∨ (c = 0 ∧ a = b) ∨ (c = 1 ∧ b < a) → pwl X K h pc' ls (pw_i c :: r) Q) : pwl X (K + 1) h pc ls (.long b :: .long a :: r) Q := by
  subst hc
  refine pwl_ld he hq (st' := Value.int (lg_cmp a b) :: r) (pc' := pc + len) (fun ih => ?_) ?_
  · exact pm_fn_eq (pc + len) (fun q => ih 50 h 309 q ls (Value.int (lg_cmp a b) :: r))
  · unfold lg_cmp
    by_cases h1 : a > b
    · rw [if_pos h1]
      exact H 1 (Or.inr (Or.inr ⟨rfl, h1⟩))
    · by_cases h2 : a = b
      · rw [if_neg h1, if_pos h2]
        exact H 0 (Or.inr (Or.inl ⟨rfl, h2⟩))
      · rw [if_neg h1, if_neg h2]
        exact H (-1) (Or.inl ⟨rfl, Int64.lt_of_le_of_ne (Int64.not_lt.mp h1) h2⟩)
end Pm
set_option maxHeartbeats 1000000 in
theorem cm_317_x {X : List (Nat × List Value)} {d : Nat} {h : pm_H} (hd : 6 ≤ d) (I : pw_I h) (b : Int) (hb1 : (-2147483648) ≤ b) (hb2 : b ≤ 2147483647) (e : Int) (he1 : (-2147483648) ≤ e) (he2 : e ≤ 2147483647) (dd : Int) (hdd1 : (-2147483648) ≤ dd) (hdd2 : dd ≤ 2147483647) (wt : Int) (hwt1 : (-2147483648) ≤ wt) (hwt2 : wt ≤ 2147483647) : pw X d h 317 0 [some (.ref 16), some (pw_i b), some (pw_i e), some (pw_i dd), some (pw_i wt), some (.ref 185), none] [] (fun h' v => pw_I h' ∧ pw_E [17, 18, 22, 23, 169] h h' ∧ ∃ a : Int, v = .inl (some (pw_i a)) ∧ 0 ≤ a ∧ a ≤ 1 ∧ ((a = 1 ∧ (¬ (0 ≤ b ∧ b ≤ 11 ∧ 0 ≤ e ∧ e ≤ 11 ∧ b ≠ e ∧ (-99) ≤ dd ∧ dd ≤ 99 ∧ 0 ≤ wt ∧ wt ≤ 1) ∨ ¬ pv_OK (pv_sdc h b e))) ∨ (a = 0 ∧ ((0 ≤ b ∧ b ≤ 11 ∧ 0 ≤ e ∧ e ≤ 11 ∧ b ≠ e ∧ (-99) ≤ dd ∧ dd ≤ 99 ∧ 0 ≤ wt ∧ wt ≤ 1) ∧ pv_OK (pv_sdc h b e) ∧ (pw_gm h' 169 0) = pv_LW (pv_U (pv_sdc h b e) (pv_chc h b e) - dd * (e - b) * pv_D (pv_sdc h b e)) (pv_D (pv_sdc h b e)) wt)))) := by
  have E : pm_ent 317 = some (6, 7, 13, 0, pmc_317) := rfl
  refine pw_ld E (pc' := 2) (st' := [.ref 185]) rfl (fun _ => rfl) ?_
  refine pw_ld E (pc' := 3) (st' := [pw_i 0, .ref 185]) rfl (fun _ => rfl) ?_
  refine pw_ld E (pc' := 4) (st' := [.ref 16, pw_i 0, .ref 185]) rfl (fun _ => rfl) ?_
  refine pw_ld E (pc' := 5) (st' := [pw_i b, .ref 16, pw_i 0, .ref 185]) rfl (fun _ => rfl) ?_
  refine pw_ld E (pc' := 6) (st' := [pw_i e, pw_i b, .ref 16, pw_i 0, .ref 185]) rfl (fun _ => rfl) ?_
  refine pw_ld E (pc' := 7) (st' := [pw_i dd, pw_i e, pw_i b, .ref 16, pw_i 0, .ref 185]) rfl (fun _ => rfl) ?_
  refine pw_ld E (pc' := 9) (st' := [pw_i wt, pw_i dd, pw_i e, pw_i b, .ref 16, pw_i 0, .ref 185]) rfl (fun _ => rfl) ?_
  obtain ⟨fl, fh, -⟩ := pw_obj (c := 0) I rfl
  refine pw_callH (m' := 180) (As := [.ref 16, pw_i b, pw_i e, pw_i dd, pw_i wt]) (rest := [pw_i 0, .ref 185]) (ls'' := [some (.ref 16), some (pw_i b), some (pw_i e), some (pw_i dd), some (pw_i wt)]) (by omega) E rfl (fun _ => pw_iVh rfl rfl rfl rfl (pw_cellI fh rfl)) (rfl : pm_ent 180 = some (5, 5, 11, 2, pmc_180)) rfl rfl (cm_180_s (by omega) I b (by omega) (by omega) e (by omega) (by omega) dd (by omega) (by omega) wt (by omega) (by omega)) ?_
  rintro h1 v1 ⟨I1, E1, ⟨rfl, ht⟩ | ⟨a, rfl, ha, hb, hr⟩⟩
  · exact Or.inl ⟨rfl, I1, (E1.wk (W' := [17, 18, 22, 23, 169]) (by first | rfl | decide)), 1, rfl, by decide, by decide, Or.inl ⟨rfl, ht⟩⟩
  · refine Or.inr ⟨_, rfl, ?_⟩
    show pw X d h1 317 12 [some (.ref 16), some (pw_i b), some (pw_i e), some (pw_i dd), some (pw_i wt), some (.ref 185), none] [.long (Int64.ofInt a), pw_i 0, .ref 185] _
    refine pw_last I1 E (c := 169) (pc' := 13) rfl rfl rfl (by decide) (by decide) (by decide) rfl ?_
    intro I2 E2
    have E3 := ((E1.wk (W' := [17, 18, 22, 23, 169]) (by first | rfl | decide)) : pw_E [17, 18, 22, 23, 169] h h1).tr (E2.wk (W' := [17, 18, 22, 23, 169]) (by first | rfl | decide))
    refine pw_goto E (pc' := 20) rfl (by decide) ?_
    refine pw_ld E (pc' := 21) (st' := [pw_i 0]) rfl (fun _ => rfl) ?_
    refine pw_iret E rfl ?_
    have eo : pw_gm (pw_w h1 169 (Int.toNat 0) (.long (Int64.ofInt a))) 169 0 = a := pv_gm_eqA (k := 0) I1 rfl (by decide) (by omega) (by omega)
    refine ⟨I2, E3, 0, rfl, by decide, by decide, Or.inr ⟨rfl, ?_⟩⟩
    rw [eo]
    exact hr
set_option maxHeartbeats 1000000 in
theorem cm_197 {X : List (Nat × List Value)} {d : Nat} {h : pm_H} (hd : 1 ≤ d) (I : pw_I h) : pw X d h 197 0 [some (.ref 141)] [] (fun h' v => h = h' ∧ ∃ a : Int, v = .inl (some (pw_i a)) ∧ 0 ≤ a ∧ a ≤ 1 ∧ (a = pw_g h 125 0)) := by
  have E : pm_ent 197 = some (1, 1, 12, 0, pmc_197) := rfl
  refine pw_ld E (pc' := 1) (st' := [.ref 141]) rfl (fun _ => rfl) ?_
  refine pw_getI I E (c := 125) (k := 0) (pc' := 4) rfl rfl rfl rfl rfl rfl (fun ha hb hc hd => ?_)
  refine pw_iret E rfl ?_
  exact ⟨rfl, _, rfl, by omega, by omega, rfl⟩
end
