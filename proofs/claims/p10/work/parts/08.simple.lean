/-! soundness, the instructions that leave the heap alone -/
def pm_rv (ad : Nat → Nat) (v : Value) : Value := match v with
  | .ref a => .ref (ad a)
  | v => v
theorem pm_rv_cat (ad : Nat → Nat) (v : Value) : (pm_rv ad v).category = v.category := by cases v <;> rfl
/-- the locals: what the picture knows of them holds -/
def pm_lr (ad : Nat → Nat) (nL : Nat) (ls : pm_L) (LS : Array Slot) : Prop := LS.size = nL ∧ ls.length = nL ∧ lv_wf LS ∧ ∀ (i : Nat) (v : Value), ls[i]? = some (some v) → LS[i]? = some (.val (pm_rv ad v))
def pm_prz (ad : Nat → Nat) (ls : pm_L) : List (Nat × Value) := (List.range ls.length).filterMap (fun i => match ls[i]? with
  | some (some v) => some (i, pm_rv ad v)
  | _ => none)
theorem pm_prz_of {ad : Nat → Nat} {ls : pm_L} {i : Nat} {v : Value} (h : ls[i]? = some (some v)) : (i, pm_rv ad v) ∈ pm_prz ad ls := by
  unfold pm_prz
  refine List.mem_filterMap.mpr ⟨i, List.mem_range.mpr (List.getElem?_eq_some_iff.mp h).1, ?_⟩
  rw [h]
theorem pm_prz_mem {ad : Nat → Nat} {ls : pm_L} {q : Nat × Value} (h : q ∈ pm_prz ad ls) : ∃ v, ls[q.1]? = some (some v) ∧ q.2 = pm_rv ad v := by
  unfold pm_prz at h
  obtain ⟨i, -, hi⟩ := List.mem_filterMap.mp h
  split at hi
  · rename_i v hv
    cases hi
    exact ⟨v, hv, rfl⟩
  · cases hi
theorem pm_lr.has {ad : Nat → Nat} {nL : Nat} {ls : pm_L} {LS : Array Slot} (h : pm_lr ad nL ls LS) : lv_has LS nL (pm_prz ad ls) := by
  refine ⟨h.1, h.2.2.1, fun q hq => ?_⟩
  obtain ⟨v, h1, h2⟩ := pm_prz_mem hq
  rw [h2]
  exact h.2.2.2 _ _ h1
theorem pm_kill_len (ls : pm_L) (i : Nat) : (pm_kill ls i).length = ls.length := by
  cases i with
  | zero => rfl
  | succ j =>
    show List.length (match pm_nth ls j with
      | some (some v) => cond (Nat.beq v.category 2) (pm_set ls j none) ls
      | _ => ls) = _
    split
    · rename_i v _
      cases Nat.beq v.category 2
      · rfl
      · rw [cond_true, pm_set_eq]; simp
    · rfl
theorem pm_kill_get {ls : pm_L} {i k : Nat} {v : Value} (h : (pm_kill ls i)[k]? = some (some v)) : ls[k]? = some (some v) ∧ ¬ (k + 1 = i ∧ v.category = 2) := by
  cases i with
  | zero => exact ⟨h, fun q => by omega⟩
  | succ j =>
    have e : pm_kill ls (j + 1) = (match pm_nth ls j with
      | some (some v) => cond (Nat.beq v.category 2) (pm_set ls j none) ls
      | _ => ls) := rfl
    rw [e] at h
    split at h
    · rename_i w hw
      rw [pm_nth_eq] at hw
      cases hc : Nat.beq w.category 2 with
      | false =>
        rw [hc, cond_false] at h
        refine ⟨h, fun q => ?_⟩
        obtain ⟨q1, q2⟩ := q
        have q3 : k = j := by omega
        subst q3
        rw [hw] at h
        cases h
        rw [q2] at hc
        cases hc
      | true =>
        rw [hc, cond_true, pm_set_eq] at h
        by_cases hk : j = k
        · subst hk
          rw [List.getElem?_set_self (List.getElem?_eq_some_iff.mp hw).1] at h
          cases h
        · rw [List.getElem?_set_ne hk] at h
          exact ⟨h, fun q => hk (by omega)⟩
    · rename_i hn
      refine ⟨h, fun q => ?_⟩
      have q3 : k = j := by omega
      subst q3
      exact hn v (by rw [pm_nth_eq]; exact h)
theorem pm_put1_len (ls : pm_L) (i : Nat) (v : Value) : (pm_put1 ls i v).length = ls.length := by
  unfold pm_put1
  rw [pm_set_eq, List.length_set, pm_kill_len]
theorem pm_put2_len (ls : pm_L) (i : Nat) (v : Value) : (pm_put2 ls i v).length = ls.length := by
  unfold pm_put2
  rw [pm_set_eq, pm_set_eq, List.length_set, List.length_set, pm_kill_len]
theorem pm_put1_get {ls : pm_L} {i k : Nat} {v w : Value} (hi : i < ls.length) (h : (pm_put1 ls i v)[k]? = some (some w)) : (k = i ∧ w = v) ∨ (k ≠ i ∧ ls[k]? = some (some w) ∧ ¬ (k + 1 = i ∧ w.category = 2)) := by
  unfold pm_put1 at h
  rw [pm_set_eq] at h
  by_cases hk : i = k
  · subst hk
    rw [List.getElem?_set_self (by rw [pm_kill_len]; exact hi)] at h
    cases h
    exact Or.inl ⟨rfl, rfl⟩
  · rw [List.getElem?_set_ne hk] at h
    exact Or.inr ⟨fun q => hk q.symm, pm_kill_get h⟩
theorem pm_lr.put1 {ad : Nat → Nat} {nL i : Nat} {ls : pm_L} {LS LS' : Array Slot} {v : Value} (h : pm_lr ad nL ls LS) (hi : i < ls.length)
    (h' : lv_has LS' nL ((i, pm_rv ad v) :: (pm_prz ad ls).filter (fun q => !(q.1 == i) && !(q.1 + 1 == i && q.2.category == 2)))) : pm_lr ad nL (pm_put1 ls i v) LS' := by
  refine ⟨h'.1, by rw [pm_put1_len]; exact h.2.1, h'.2.1, fun k w hk => ?_⟩
  rcases pm_put1_get hi hk with ⟨rfl, rfl⟩ | ⟨h1, h2, h3⟩
  · exact h'.2.2 _ List.mem_cons_self
  · refine h'.2.2 (k, pm_rv ad w) (List.mem_cons_of_mem _ (List.mem_filter.mpr ⟨pm_prz_of h2, ?_⟩))
    show (!(k == i) && !(k + 1 == i && (pm_rv ad w).category == 2)) = true
    rw [pm_rv_cat]
    simp only [Bool.and_eq_true, Bool.not_eq_true', beq_eq_false_iff_ne, ne_eq, Bool.and_eq_false_imp, beq_iff_eq]
    exact ⟨h1, fun q r => h3 ⟨q, r⟩⟩
theorem pm_lr.put2 {ad : Nat → Nat} {nL i : Nat} {ls : pm_L} {LS LS' : Array Slot} {v : Value} (h : pm_lr ad nL ls LS) (hi : i + 1 < ls.length)
    (h' : lv_has LS' nL ((i, pm_rv ad v) :: (pm_prz ad ls).filter (fun q => !(q.1 == i) && (!(q.1 == i + 1) && !(q.1 + 1 == i && q.2.category == 2))))) : pm_lr ad nL (pm_put2 ls i v) LS' := by
  refine ⟨h'.1, by rw [pm_put2_len]; exact h.2.1, h'.2.1, fun k w hk => ?_⟩
  have e : pm_put2 ls i v = (pm_put1 ls i v).set (i + 1) none := by unfold pm_put2 pm_put1; rw [pm_set_eq]
  rw [e] at hk
  by_cases hz : i + 1 = k
  · subst hz
    rw [List.getElem?_set_self (by rw [pm_put1_len]; exact hi)] at hk
    cases hk
  · rw [List.getElem?_set_ne hz] at hk
    rcases pm_put1_get (by omega) hk with ⟨rfl, rfl⟩ | ⟨h1, h2, h3⟩
    · exact h'.2.2 _ List.mem_cons_self
    · refine h'.2.2 (k, pm_rv ad w) (List.mem_cons_of_mem _ (List.mem_filter.mpr ⟨pm_prz_of h2, ?_⟩))
      show (!(k == i) && (!(k == i + 1) && !(k + 1 == i && (pm_rv ad w).category == 2))) = true
      rw [pm_rv_cat]
      simp only [Bool.and_eq_true, Bool.not_eq_true', beq_eq_false_iff_ne, ne_eq, Bool.and_eq_false_imp, beq_iff_eq]
      exact ⟨h1, fun q => hz q.symm, fun q r => h3 ⟨q, r⟩⟩
theorem pm_to_some {z : Int} {K : Nat → pm_R} {o : pm_H × (Option Value ⊕ Unit)} (h : pm_to z K = some o) : ∃ t : Nat, z = (t : Int) ∧ K t = some o := by
  unfold pm_to at h
  split at h
  · rename_i t
    rw [pm_fn_eq] at h
    exact ⟨t, rfl, h⟩
  · cases h
section PmS
variable {p : Program} {l : Launch} {e : Env} {R : Room} {s : State} {m : MethodId} {args : Array Value} {below : List Frame} {meth : Method} {c : Code} {H : Heap} {locs : List Loc} {cells slots : Nat} {Q : State → Prop}
variable {ad : Nat → Nat} {nL pc len : Nat} {ls : pm_L} {st : List Value} {K : Nat → pm_L → List Value → pm_R} {o : pm_H × (Option Value ⊕ Unit)}
/-- the frame of the picture, at every frame of the machine that it is a picture of -/
def pm_J (p : Program) (l : Launch) (e : Env) (R : Room) (s : State) (m : MethodId) (args : Array Value) (below : List Frame) (meth : Method) (c : Code) (H : Heap) (locs : List Loc) (cells slots : Nat) (Q : State → Prop) (ad : Nat → Nat) (nL pc : Nat) (ls : pm_L) (st : List Value) : Prop :=
  ∀ LS : Array Slot, pm_lr ad nL ls LS → W p l e R s m args below meth c H locs cells slots Q (F0 m pc LS (st.map (pm_rv ad)))
theorem pm_jC {v : Value} (row : ∀ (LS : Array Slot) (rest : List Value), W p l e R s m args below meth c H locs cells slots Q (F0 m (pc + len) LS (v :: rest)) → W p l e R s m args below meth c H locs cells slots Q (F0 m pc LS rest)) (hv : pm_rv ad v = v)
    (hK : ∀ q ls st, K q ls st = some o → pm_J p l e R s m args below meth c H locs cells slots Q ad nL q ls st) (h : pm_sC v K pc len ls st = some o) : pm_J p l e R s m args below meth c H locs cells slots Q ad nL pc ls st := by
  intro LS hl
  unfold pm_sC at h
  rw [pm_fn_eq] at h
  have := hK _ _ _ h LS hl
  rw [List.map_cons, hv] at this
  exact row _ _ this
theorem pm_jIld {k : Nat} (row : ∀ (x : Int32) (LS : Array Slot) (rest : List Value), LS[k]? = some (.val (.int x)) → W p l e R s m args below meth c H locs cells slots Q (F0 m (pc + len) LS (.int x :: rest)) → W p l e R s m args below meth c H locs cells slots Q (F0 m pc LS rest))
    (hK : ∀ q ls st, K q ls st = some o → pm_J p l e R s m args below meth c H locs cells slots Q ad nL q ls st) (h : pm_sIld k K pc len ls st = some o) : pm_J p l e R s m args below meth c H locs cells slots Q ad nL pc ls st := by
  intro LS hl
  unfold pm_sIld at h
  split at h
  · rename_i x hx
    rw [pm_fn_eq] at h
    rw [pm_nth_eq] at hx
    exact row _ _ _ (hl.2.2.2 _ _ hx) (hK _ _ _ h LS hl)
  · cases h
theorem pm_jLld {k : Nat} (row : ∀ (x : Int64) (LS : Array Slot) (rest : List Value), LS[k]? = some (.val (.long x)) → W p l e R s m args below meth c H locs cells slots Q (F0 m (pc + len) LS (.long x :: rest)) → W p l e R s m args below meth c H locs cells slots Q (F0 m pc LS rest))
    (hK : ∀ q ls st, K q ls st = some o → pm_J p l e R s m args below meth c H locs cells slots Q ad nL q ls st) (h : pm_sLld k K pc len ls st = some o) : pm_J p l e R s m args below meth c H locs cells slots Q ad nL pc ls st := by
  intro LS hl
  unfold pm_sLld at h
  split at h
  · rename_i x hx
    rw [pm_fn_eq] at h
    rw [pm_nth_eq] at hx
    exact row _ _ _ (hl.2.2.2 _ _ hx) (hK _ _ _ h LS hl)
  · cases h
theorem pm_jAld {k : Nat} (row : ∀ (x : Nat) (LS : Array Slot) (rest : List Value), LS[k]? = some (.val (.ref x)) → W p l e R s m args below meth c H locs cells slots Q (F0 m (pc + len) LS (.ref x :: rest)) → W p l e R s m args below meth c H locs cells slots Q (F0 m pc LS rest))
    (hK : ∀ q ls st, K q ls st = some o → pm_J p l e R s m args below meth c H locs cells slots Q ad nL q ls st) (h : pm_sAld k K pc len ls st = some o) : pm_J p l e R s m args below meth c H locs cells slots Q ad nL pc ls st := by
  intro LS hl
  unfold pm_sAld at h
  split at h
  · rename_i x hx
    rw [pm_fn_eq] at h
    rw [pm_nth_eq] at hx
    exact row _ _ _ (hl.2.2.2 _ _ hx) (hK _ _ _ h LS hl)
  · cases h
theorem pm_jIst {k : Nat} (row : ∀ (x : Int32) (LS : Array Slot) (rest : List Value) (lv : List (Nat × Value)), lv_has LS nL lv → k < nL → (∀ LS' : Array Slot, lv_has LS' nL ((k, Value.int x) :: lv.filter (fun q => !(q.1 == k) && !(q.1 + 1 == k && q.2.category == 2))) → W p l e R s m args below meth c H locs cells slots Q (F0 m (pc + len) LS' rest)) → W p l e R s m args below meth c H locs cells slots Q (F0 m pc LS (.int x :: rest)))
    (hK : ∀ q ls st, K q ls st = some o → pm_J p l e R s m args below meth c H locs cells slots Q ad nL q ls st) (h : pm_sIst k K pc len ls st = some o) : pm_J p l e R s m args below meth c H locs cells slots Q ad nL pc ls st := by
  intro LS hl
  unfold pm_sIst at h
  split at h
  · rename_i x r
    rw [pm_len_eq] at h
    cases hb : Nat.blt k ls.length with
    | false => rw [hb] at h; cases h
    | true =>
      rw [hb, cond_true, pm_fi_eq, pm_fn_eq] at h
      have hk : k < ls.length := Nat.le_of_ble_eq_true hb
      exact row _ _ _ _ hl.has (by rw [← hl.2.1]; exact hk) fun LS' h' => hK _ _ _ h LS' (hl.put1 (v := .int x) hk h')
  · cases h
theorem pm_jAst {k : Nat} (row : ∀ (x : Nat) (LS : Array Slot) (rest : List Value) (lv : List (Nat × Value)), lv_has LS nL lv → k < nL → (∀ LS' : Array Slot, lv_has LS' nL ((k, Value.ref x) :: lv.filter (fun q => !(q.1 == k) && !(q.1 + 1 == k && q.2.category == 2))) → W p l e R s m args below meth c H locs cells slots Q (F0 m (pc + len) LS' rest)) → W p l e R s m args below meth c H locs cells slots Q (F0 m pc LS (.ref x :: rest)))
    (hK : ∀ q ls st, K q ls st = some o → pm_J p l e R s m args below meth c H locs cells slots Q ad nL q ls st) (h : pm_sAst k K pc len ls st = some o) : pm_J p l e R s m args below meth c H locs cells slots Q ad nL pc ls st := by
  intro LS hl
  unfold pm_sAst at h
  split at h
  · rename_i x r
    rw [pm_len_eq] at h
    cases hb : Nat.blt k ls.length with
    | false => rw [hb] at h; cases h
    | true =>
      rw [hb, cond_true, pm_fn_eq] at h
      have hk : k < ls.length := Nat.le_of_ble_eq_true hb
      exact row _ _ _ _ hl.has (by rw [← hl.2.1]; exact hk) fun LS' h' => hK _ _ _ h LS' (hl.put1 (v := .ref x) hk h')
  · cases h
theorem pm_jLst {k : Nat} (row : ∀ (x : Int64) (LS : Array Slot) (rest : List Value) (lv : List (Nat × Value)), lv_has LS nL lv → k + 1 < nL → (∀ LS' : Array Slot, lv_has LS' nL ((k, Value.long x) :: lv.filter (fun q => !(q.1 == k) && (!(q.1 == k + 1) && !(q.1 + 1 == k && q.2.category == 2)))) → W p l e R s m args below meth c H locs cells slots Q (F0 m (pc + len) LS' rest)) → W p l e R s m args below meth c H locs cells slots Q (F0 m pc LS (.long x :: rest)))
    (hK : ∀ q ls st, K q ls st = some o → pm_J p l e R s m args below meth c H locs cells slots Q ad nL q ls st) (h : pm_sLst k K pc len ls st = some o) : pm_J p l e R s m args below meth c H locs cells slots Q ad nL pc ls st := by
  intro LS hl
  unfold pm_sLst at h
  split at h
  · rename_i x r
    rw [pm_len_eq] at h
    cases hb : Nat.blt (k + 1) ls.length with
    | false => rw [hb] at h; cases h
    | true =>
      rw [hb, cond_true, pm_fl_eq, pm_fn_eq] at h
      have hk : k + 1 < ls.length := Nat.le_of_ble_eq_true hb
      exact row _ _ _ _ hl.has (by rw [← hl.2.1]; exact hk) fun LS' h' => hK _ _ _ h LS' (hl.put2 (v := .long x) hk h')
  · cases h
theorem pm_jInc {k : Nat} {n : Int} (row : ∀ (x : Int32) (LS : Array Slot) (rest : List Value) (lv : List (Nat × Value)) (j : Nat), lv_has LS nL lv → lv[j]? = some (k, .int x) → k < nL → (∀ LS' : Array Slot, lv_has LS' nL ((k, Value.int (x + Int32.ofInt n)) :: lv.filter (fun q => !(q.1 == k) && !(q.1 + 1 == k && q.2.category == 2))) → W p l e R s m args below meth c H locs cells slots Q (F0 m (pc + 3) LS' rest)) → W p l e R s m args below meth c H locs cells slots Q (F0 m pc LS rest))
    (hK : ∀ q ls st, K q ls st = some o → pm_J p l e R s m args below meth c H locs cells slots Q ad nL q ls st) (h : pm_sInc k n K pc len ls st = some o) : pm_J p l e R s m args below meth c H locs cells slots Q ad nL pc ls st := by
  intro LS hl
  unfold pm_sInc at h
  split at h
  · rename_i x hx
    rw [pm_nth_eq] at hx
    cases hb : Nat.beq len 3 with
    | false => rw [hb] at h; cases h
    | true =>
      rw [hb, cond_true, pm_fi_eq, pm_fn_eq, Nat.eq_of_beq_eq_true hb] at h
      have hk : k < ls.length := (List.getElem?_eq_some_iff.mp hx).1
      obtain ⟨j, hj⟩ := List.getElem?_of_mem (pm_prz_of (ad := ad) hx)
      exact row x _ _ _ j hl.has hj (by rw [← hl.2.1]; exact hk) fun LS' h' => hK _ _ _ h LS' (hl.put1 (v := .int (x + Int32.ofInt n)) hk h')
  · cases h
theorem pm_jII {f : Int32 → Int32 → Int32} (row : ∀ (x y : Int32) (LS : Array Slot) (rest : List Value), W p l e R s m args below meth c H locs cells slots Q (F0 m (pc + len) LS (.int (f x y) :: rest)) → W p l e R s m args below meth c H locs cells slots Q (F0 m pc LS (.int y :: .int x :: rest)))
    (hK : ∀ q ls st, K q ls st = some o → pm_J p l e R s m args below meth c H locs cells slots Q ad nL q ls st) (h : pm_sII f K pc len ls st = some o) : pm_J p l e R s m args below meth c H locs cells slots Q ad nL pc ls st := by
  intro LS hl
  unfold pm_sII at h
  split at h
  · rw [pm_fn_eq] at h
    exact row _ _ _ _ (hK _ _ _ h LS hl)
  · cases h
theorem pm_jIIz {f : Int32 → Int32 → Int32} (row : ∀ (x y : Int32) (LS : Array Slot) (rest : List Value), ¬ y = 0 → W p l e R s m args below meth c H locs cells slots Q (F0 m (pc + len) LS (.int (f x y) :: rest)) → W p l e R s m args below meth c H locs cells slots Q (F0 m pc LS (.int y :: .int x :: rest)))
    (hK : ∀ q ls st, K q ls st = some o → pm_J p l e R s m args below meth c H locs cells slots Q ad nL q ls st) (h : pm_sIIz f K pc len ls st = some o) : pm_J p l e R s m args below meth c H locs cells slots Q ad nL pc ls st := by
  intro LS hl
  unfold pm_sIIz at h
  split at h
  · rename_i y x r
    by_cases hy : y = 0
    · rw [decide_eq_true hy] at h; cases h
    · rw [decide_eq_false hy, cond_false, pm_fn_eq] at h
      exact row _ _ _ _ hy (hK _ _ _ h LS hl)
  · cases h
theorem pm_jI {f : Int32 → Int32} (row : ∀ (x : Int32) (LS : Array Slot) (rest : List Value), W p l e R s m args below meth c H locs cells slots Q (F0 m (pc + len) LS (.int (f x) :: rest)) → W p l e R s m args below meth c H locs cells slots Q (F0 m pc LS (.int x :: rest)))
    (hK : ∀ q ls st, K q ls st = some o → pm_J p l e R s m args below meth c H locs cells slots Q ad nL q ls st) (h : pm_sI f K pc len ls st = some o) : pm_J p l e R s m args below meth c H locs cells slots Q ad nL pc ls st := by
  intro LS hl
  unfold pm_sI at h
  split at h
  · rw [pm_fn_eq] at h
    exact row _ _ _ (hK _ _ _ h LS hl)
  · cases h
theorem pm_jLL {f : Int64 → Int64 → Int64} (row : ∀ (x y : Int64) (LS : Array Slot) (rest : List Value), W p l e R s m args below meth c H locs cells slots Q (F0 m (pc + len) LS (.long (f x y) :: rest)) → W p l e R s m args below meth c H locs cells slots Q (F0 m pc LS (.long y :: .long x :: rest)))
    (hK : ∀ q ls st, K q ls st = some o → pm_J p l e R s m args below meth c H locs cells slots Q ad nL q ls st) (h : pm_sLL f K pc len ls st = some o) : pm_J p l e R s m args below meth c H locs cells slots Q ad nL pc ls st := by
  intro LS hl
  unfold pm_sLL at h
  split at h
  · rw [pm_fn_eq] at h
    exact row _ _ _ _ (hK _ _ _ h LS hl)
  · cases h
theorem pm_jLLz {f : Int64 → Int64 → Int64} (row : ∀ (x y : Int64) (LS : Array Slot) (rest : List Value), ¬ y = 0 → W p l e R s m args below meth c H locs cells slots Q (F0 m (pc + len) LS (.long (f x y) :: rest)) → W p l e R s m args below meth c H locs cells slots Q (F0 m pc LS (.long y :: .long x :: rest)))
    (hK : ∀ q ls st, K q ls st = some o → pm_J p l e R s m args below meth c H locs cells slots Q ad nL q ls st) (h : pm_sLLz f K pc len ls st = some o) : pm_J p l e R s m args below meth c H locs cells slots Q ad nL pc ls st := by
  intro LS hl
  unfold pm_sLLz at h
  split at h
  · rename_i y x r
    by_cases hy : y = 0
    · rw [decide_eq_true hy] at h; cases h
    · rw [decide_eq_false hy, cond_false, pm_fn_eq] at h
      exact row _ _ _ _ hy (hK _ _ _ h LS hl)
  · cases h
theorem pm_jLI {f : Int64 → Int32 → Int64} (row : ∀ (x : Int64) (y : Int32) (LS : Array Slot) (rest : List Value), W p l e R s m args below meth c H locs cells slots Q (F0 m (pc + len) LS (.long (f x y) :: rest)) → W p l e R s m args below meth c H locs cells slots Q (F0 m pc LS (.int y :: .long x :: rest)))
    (hK : ∀ q ls st, K q ls st = some o → pm_J p l e R s m args below meth c H locs cells slots Q ad nL q ls st) (h : pm_sLI f K pc len ls st = some o) : pm_J p l e R s m args below meth c H locs cells slots Q ad nL pc ls st := by
  intro LS hl
  unfold pm_sLI at h
  split at h
  · rw [pm_fn_eq] at h
    exact row _ _ _ _ (hK _ _ _ h LS hl)
  · cases h
theorem pm_jL {f : Int64 → Int64} (row : ∀ (x : Int64) (LS : Array Slot) (rest : List Value), W p l e R s m args below meth c H locs cells slots Q (F0 m (pc + len) LS (.long (f x) :: rest)) → W p l e R s m args below meth c H locs cells slots Q (F0 m pc LS (.long x :: rest)))
    (hK : ∀ q ls st, K q ls st = some o → pm_J p l e R s m args below meth c H locs cells slots Q ad nL q ls st) (h : pm_sL f K pc len ls st = some o) : pm_J p l e R s m args below meth c H locs cells slots Q ad nL pc ls st := by
  intro LS hl
  unfold pm_sL at h
  split at h
  · rw [pm_fn_eq] at h
    exact row _ _ _ (hK _ _ _ h LS hl)
  · cases h
theorem pm_jIL {f : Int32 → Int64} (row : ∀ (x : Int32) (LS : Array Slot) (rest : List Value), W p l e R s m args below meth c H locs cells slots Q (F0 m (pc + len) LS (.long (f x) :: rest)) → W p l e R s m args below meth c H locs cells slots Q (F0 m pc LS (.int x :: rest)))
    (hK : ∀ q ls st, K q ls st = some o → pm_J p l e R s m args below meth c H locs cells slots Q ad nL q ls st) (h : pm_sIL f K pc len ls st = some o) : pm_J p l e R s m args below meth c H locs cells slots Q ad nL pc ls st := by
  intro LS hl
  unfold pm_sIL at h
  split at h
  · rw [pm_fn_eq] at h
    exact row _ _ _ (hK _ _ _ h LS hl)
  · cases h
theorem pm_jLi {f : Int64 → Int32} (row : ∀ (x : Int64) (LS : Array Slot) (rest : List Value), W p l e R s m args below meth c H locs cells slots Q (F0 m (pc + len) LS (.int (f x) :: rest)) → W p l e R s m args below meth c H locs cells slots Q (F0 m pc LS (.long x :: rest)))
    (hK : ∀ q ls st, K q ls st = some o → pm_J p l e R s m args below meth c H locs cells slots Q ad nL q ls st) (h : pm_sLi f K pc len ls st = some o) : pm_J p l e R s m args below meth c H locs cells slots Q ad nL pc ls st := by
  intro LS hl
  unfold pm_sLi at h
  split at h
  · rw [pm_fn_eq] at h
    exact row _ _ _ (hK _ _ _ h LS hl)
  · cases h
theorem pm_jCmp (row : ∀ (x y : Int64) (LS : Array Slot) (rest : List Value), W p l e R s m args below meth c H locs cells slots Q (F0 m (pc + len) LS (.int (lg_cmp x y) :: rest)) → W p l e R s m args below meth c H locs cells slots Q (F0 m pc LS (.long y :: .long x :: rest)))
    (hK : ∀ q ls st, K q ls st = some o → pm_J p l e R s m args below meth c H locs cells slots Q ad nL q ls st) (h : pm_sCmp K pc len ls st = some o) : pm_J p l e R s m args below meth c H locs cells slots Q ad nL pc ls st := by
  intro LS hl
  unfold pm_sCmp at h
  split at h
  · rw [pm_fn_eq] at h
    exact row _ _ _ _ (hK _ _ _ h LS hl)
  · cases h
theorem pm_jDup (row : ∀ (v : Value) (LS : Array Slot) (rest : List Value), v.category = 1 → W p l e R s m args below meth c H locs cells slots Q (F0 m (pc + len) LS (v :: v :: rest)) → W p l e R s m args below meth c H locs cells slots Q (F0 m pc LS (v :: rest)))
    (hK : ∀ q ls st, K q ls st = some o → pm_J p l e R s m args below meth c H locs cells slots Q ad nL q ls st) (h : pm_sDup K pc len ls st = some o) : pm_J p l e R s m args below meth c H locs cells slots Q ad nL pc ls st := by
  intro LS hl
  unfold pm_sDup at h
  split at h
  · rename_i v r
    cases hb : Nat.beq v.category 1 with
    | false => rw [hb] at h; cases h
    | true =>
      rw [hb, cond_true, pm_fn_eq] at h
      exact row _ _ _ (by rw [pm_rv_cat]; exact Nat.eq_of_beq_eq_true hb) (hK _ _ _ h LS hl)
  · cases h
theorem pm_jPop (row : ∀ (v : Value) (LS : Array Slot) (rest : List Value), v.category = 1 → W p l e R s m args below meth c H locs cells slots Q (F0 m (pc + len) LS rest) → W p l e R s m args below meth c H locs cells slots Q (F0 m pc LS (v :: rest)))
    (hK : ∀ q ls st, K q ls st = some o → pm_J p l e R s m args below meth c H locs cells slots Q ad nL q ls st) (h : pm_sPop K pc len ls st = some o) : pm_J p l e R s m args below meth c H locs cells slots Q ad nL pc ls st := by
  intro LS hl
  unfold pm_sPop at h
  split at h
  · rename_i v r
    cases hb : Nat.beq v.category 1 with
    | false => rw [hb] at h; cases h
    | true =>
      rw [hb, cond_true, pm_fn_eq] at h
      exact row _ _ _ (by rw [pm_rv_cat]; exact Nat.eq_of_beq_eq_true hb) (hK _ _ _ h LS hl)
  · cases h
theorem pm_jPop2 (row : ∀ (v : Value) (LS : Array Slot) (rest : List Value), v.category = 2 → W p l e R s m args below meth c H locs cells slots Q (F0 m (pc + len) LS rest) → W p l e R s m args below meth c H locs cells slots Q (F0 m pc LS (v :: rest)))
    (hK : ∀ q ls st, K q ls st = some o → pm_J p l e R s m args below meth c H locs cells slots Q ad nL q ls st) (h : pm_sPop2 K pc len ls st = some o) : pm_J p l e R s m args below meth c H locs cells slots Q ad nL pc ls st := by
  intro LS hl
  unfold pm_sPop2 at h
  split at h
  · rename_i v r
    cases hb : Nat.beq v.category 2 with
    | false => rw [hb] at h; cases h
    | true =>
      rw [hb, cond_true, pm_fn_eq] at h
      exact row _ _ _ (by rw [pm_rv_cat]; exact Nat.eq_of_beq_eq_true hb) (hK _ _ _ h LS hl)
  · cases h
theorem pm_jIf {cd : ClassFile.Cond} {off : Int} (row : ∀ (x : Int32) (LS : Array Slot) (rest : List Value) (t : Nat), (pc : Int) + off = (t : Int) → (pm_cnd cd x 0 = true → W p l e R s m args below meth c H locs cells slots Q (F0 m t LS rest)) → (pm_cnd cd x 0 = false → W p l e R s m args below meth c H locs cells slots Q (F0 m (pc + 3) LS rest)) → W p l e R s m args below meth c H locs cells slots Q (F0 m pc LS (.int x :: rest)))
    (hK : ∀ q ls st, K q ls st = some o → pm_J p l e R s m args below meth c H locs cells slots Q ad nL q ls st) (h : pm_sIf cd off K pc len ls st = some o) : pm_J p l e R s m args below meth c H locs cells slots Q ad nL pc ls st := by
  intro LS hl
  unfold pm_sIf at h
  split at h
  · rename_i x r
    obtain ⟨t, ht, h⟩ := pm_to_some h
    refine row x LS _ t ht (fun hc => ?_) (fun hc => ?_)
    · rw [hc, cond_true] at h
      exact hK _ _ _ h LS hl
    · rw [hc, cond_false, pm_fn_eq] at h
      exact hK _ _ _ h LS hl
  · cases h
theorem pm_jIf2 {cd : ClassFile.Cond} {off : Int} (row : ∀ (x y : Int32) (LS : Array Slot) (rest : List Value) (t : Nat), (pc : Int) + off = (t : Int) → (pm_cnd cd x y = true → W p l e R s m args below meth c H locs cells slots Q (F0 m t LS rest)) → (pm_cnd cd x y = false → W p l e R s m args below meth c H locs cells slots Q (F0 m (pc + 3) LS rest)) → W p l e R s m args below meth c H locs cells slots Q (F0 m pc LS (.int y :: .int x :: rest)))
    (hK : ∀ q ls st, K q ls st = some o → pm_J p l e R s m args below meth c H locs cells slots Q ad nL q ls st) (h : pm_sIf2 cd off K pc len ls st = some o) : pm_J p l e R s m args below meth c H locs cells slots Q ad nL pc ls st := by
  intro LS hl
  unfold pm_sIf2 at h
  split at h
  · rename_i y x r
    obtain ⟨t, ht, h⟩ := pm_to_some h
    refine row x y LS _ t ht (fun hc => ?_) (fun hc => ?_)
    · rw [hc, cond_true] at h
      exact hK _ _ _ h LS hl
    · rw [hc, cond_false, pm_fn_eq] at h
      exact hK _ _ _ h LS hl
  · cases h
theorem pm_jGo {off : Int} (row : ∀ (LS : Array Slot) (rest : List Value) (t : Nat), (pc : Int) + off = (t : Int) → W p l e R s m args below meth c H locs cells slots Q (F0 m t LS rest) → W p l e R s m args below meth c H locs cells slots Q (F0 m pc LS rest))
    (hK : ∀ q ls st, K q ls st = some o → pm_J p l e R s m args below meth c H locs cells slots Q ad nL q ls st) (h : pm_sGo off K pc len ls st = some o) : pm_J p l e R s m args below meth c H locs cells slots Q ad nL pc ls st := by
  intro LS hl
  unfold pm_sGo at h
  obtain ⟨t, ht, h⟩ := pm_to_some h
  exact row LS _ t ht (hK _ _ _ h LS hl)
theorem pm_jTsw {d lo hi : Int} {offs : Array Int} {cc : ByteArray} (hx : p.tables.exec = Jvm.exec) (hb : c.code = cc) (hd : decode cc pc = .ok (.tableswitch d lo hi offs, len))
    (hK : ∀ q ls st, K q ls st = some o → pm_J p l e R s m args below meth c H locs cells slots Q ad nL q ls st) (h : pm_sTsw d lo hi offs K pc len ls st = some o) : pm_J p l e R s m args below meth c H locs cells slots Q ad nL pc ls st := by
  intro LS hl
  unfold pm_sTsw at h
  split at h
  · rename_i x r
    unfold pm_tsw at h
    split at h
    · rename_i hc
      obtain ⟨t, ht, h⟩ := pm_to_some h
      exact lv_tableOut hx hb hd hc ht (hK _ _ _ h LS hl)
    · rename_i hc
      split at h
      · rename_i o2 ho
        obtain ⟨t, ht, h⟩ := pm_to_some h
        rw [pm_nth_eq] at ho
        exact lv_tableIn hx hb hd (fun q => hc (Or.inl q)) (fun q => hc (Or.inr q)) (by rw [← Array.getElem?_toList]; exact ho) ht (hK _ _ _ h LS hl)
      · cases h
  · cases h
theorem pm_jLsw {d : Int} {ps : Array (Int × Int)} {cc : ByteArray} (hx : p.tables.exec = Jvm.exec) (hb : c.code = cc) (hd : decode cc pc = .ok (.lookupswitch d ps, len))
    (hK : ∀ q ls st, K q ls st = some o → pm_J p l e R s m args below meth c H locs cells slots Q ad nL q ls st) (h : pm_sLsw d ps K pc len ls st = some o) : pm_J p l e R s m args below meth c H locs cells slots Q ad nL pc ls st := by
  intro LS hl
  unfold pm_sLsw at h
  split at h
  · rename_i x r
    cases hp : (ps.toList.zip (ps.toList.drop 1)).all (fun (a, next) => a.1 < next.1) with
    | false => rw [hp] at h; cases h
    | true =>
      rw [hp, cond_true] at h
      obtain ⟨t, ht, h⟩ := pm_to_some h
      exact lv_lookup hx hb hd hp rfl ht (hK _ _ _ h LS hl)
  · cases h
theorem pm_rowIf {cc : ByteArray} (hx : p.tables.exec = Jvm.exec) (hb : c.code = cc) {cd : ClassFile.Cond} {off : Int} (hd : decode cc pc = .ok (.ifCond cd off, 3)) (x : Int32) (LS : Array Slot) (rest : List Value) (t : Nat) (ht : (pc : Int) + off = (t : Int)) (k1 : pm_cnd cd x 0 = true → W p l e R s m args below meth c H locs cells slots Q (F0 m t LS rest)) (k2 : pm_cnd cd x 0 = false → W p l e R s m args below meth c H locs cells slots Q (F0 m (pc + 3) LS rest)) : W p l e R s m args below meth c H locs cells slots Q (F0 m pc LS (.int x :: rest)) := by
  cases cd with
  | eq => exact lv_if_eq hx hb hd ht (fun h => k1 (decide_eq_true h)) (fun h => k2 (decide_eq_false h))
  | ne => exact lv_if_ne hx hb hd ht (fun h => k1 (by show (!decide (x = 0)) = true; rw [decide_eq_false h]; rfl)) (fun h => k2 (by show (!decide (x = 0)) = false; rw [decide_eq_true h]; rfl))
  | lt => exact lv_if_lt hx hb hd ht (fun h => k1 (decide_eq_true h)) (fun h => k2 (decide_eq_false h))
  | ge => exact lv_if_ge hx hb hd ht (fun h => k1 (decide_eq_true h)) (fun h => k2 (decide_eq_false h))
  | gt => exact lv_if_gt hx hb hd ht (fun h => k1 (decide_eq_true h)) (fun h => k2 (decide_eq_false h))
  | le => exact lv_if_le hx hb hd ht (fun h => k1 (decide_eq_true h)) (fun h => k2 (decide_eq_false h))
theorem pm_rowIf2 {cc : ByteArray} (hx : p.tables.exec = Jvm.exec) (hb : c.code = cc) {cd : ClassFile.Cond} {off : Int} (hd : decode cc pc = .ok (.if_icmp cd off, 3)) (x y : Int32) (LS : Array Slot) (rest : List Value) (t : Nat) (ht : (pc : Int) + off = (t : Int)) (k1 : pm_cnd cd x y = true → W p l e R s m args below meth c H locs cells slots Q (F0 m t LS rest)) (k2 : pm_cnd cd x y = false → W p l e R s m args below meth c H locs cells slots Q (F0 m (pc + 3) LS rest)) : W p l e R s m args below meth c H locs cells slots Q (F0 m pc LS (.int y :: .int x :: rest)) := by
  cases cd with
  | eq => exact lv_icmp_eq hx hb hd ht (fun h => k1 (decide_eq_true h)) (fun h => k2 (decide_eq_false h))
  | ne => exact lv_icmp_ne hx hb hd ht (fun h => k1 (by show (!decide (x = y)) = true; rw [decide_eq_false h]; rfl)) (fun h => k2 (by show (!decide (x = y)) = false; rw [decide_eq_true h]; rfl))
  | lt => exact lv_icmp_lt hx hb hd ht (fun h => k1 (decide_eq_true h)) (fun h => k2 (decide_eq_false h))
  | ge => exact lv_icmp_ge hx hb hd ht (fun h => k1 (decide_eq_true h)) (fun h => k2 (decide_eq_false h))
  | gt => exact lv_icmp_gt hx hb hd ht (fun h => k1 (decide_eq_true h)) (fun h => k2 (decide_eq_false h))
  | le => exact lv_icmp_le hx hb hd ht (fun h => k1 (decide_eq_true h)) (fun h => k2 (decide_eq_false h))
end PmS
