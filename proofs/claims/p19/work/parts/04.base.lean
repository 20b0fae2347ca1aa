/-! THE PICTURE MACHINE (own text). A pure function that runs the methods' bytecode over a picture of the heap: a list of cells; a reference is a place: below 16 a thing that is there at the start (script, static tables, String constants), from 16 on the cell k - 16 of the picture. Written over recursors: the kernel runs it. -/
abbrev pm_C : Type := (Nat × List Value) ⊕ (Nat × List Value)
abbrev pm_H : Type := List pm_C
abbrev pm_L : Type := List (Option Value)
abbrev pm_T (α : Type) : Type := List (List (Nat × α))
/-- a link: its kind, and three numbers -/
abbrev pm_K : Type := Nat × Nat × Nat × Nat
/-- a method: number of arguments (the receiver too), locals, its class' number, what it answers (0 int, 1 boolean, 2 long, 3 a reference, 4 nothing, 5 char, 6 byte), its code -/
abbrev pm_M : Type := Nat × Nat × Nat × Nat × pm_T (Instr × Nat)
abbrev pm_R : Type := Option (pm_H × (Option Value ⊕ Unit))
noncomputable def pm_nth {α : Type} (l : List α) : Nat → Option α :=
  List.rec (fun _ => none) (fun a _ ih n => Nat.rec (some a) (fun j _ => ih j) n) l
noncomputable def pm_set {α : Type} (l : List α) : Nat → α → List α :=
  List.rec (fun _ _ => []) (fun a t ih n x => Nat.rec (x :: t) (fun j _ => a :: ih j x) n) l
noncomputable def pm_fnd {α : Type} (k : Nat) (l : List (Nat × α)) : Option α :=
  List.rec none (fun q _ ih => cond (Nat.beq q.1 k) (some q.2) ih) l
noncomputable def pm_len {α : Type} (l : List α) : Nat := List.rec 0 (fun _ _ ih => Nat.succ ih) l
noncomputable def pm_all {α : Type} (p : α → Bool) (l : List α) : Bool := List.rec true (fun a _ ih => cond (p a) ih false) l
noncomputable def pm_rep {α : Type} (n : Nat) (v : α) : List α := Nat.rec [] (fun _ ih => v :: ih) n
noncomputable def pm_get {α : Type} (t : pm_T α) (k : Nat) : Option α := Option.rec none (fun c => pm_fnd k c) (pm_nth t (k / 16))
theorem pm_nth_eq {α : Type} : ∀ (l : List α) (n : Nat), pm_nth l n = l[n]?
  | [], n => by
    have h : pm_nth ([] : List α) n = none := rfl
    rw [h]; simp
  | a :: l, 0 => rfl
  | a :: l, n + 1 => by
    have h : pm_nth (a :: l) (n + 1) = pm_nth l n := rfl
    rw [h, pm_nth_eq l n]; simp
theorem pm_set_eq {α : Type} : ∀ (l : List α) (n : Nat) (x : α), pm_set l n x = l.set n x
  | [], n, x => rfl
  | a :: l, 0, x => rfl
  | a :: l, n + 1, x => by
    have h : pm_set (a :: l) (n + 1) x = a :: pm_set l n x := rfl
    rw [h, pm_set_eq l n x]; rfl
theorem pm_len_eq {α : Type} : ∀ (l : List α), pm_len l = l.length
  | [] => rfl
  | a :: l => by
    have h : pm_len (a :: l) = Nat.succ (pm_len l) := rfl
    rw [h, pm_len_eq l]; rfl
theorem pm_all_eq {α : Type} (p : α → Bool) : ∀ (l : List α), pm_all p l = l.all p
  | [] => rfl
  | a :: l => by
    have h : pm_all p (a :: l) = cond (p a) (pm_all p l) false := rfl
    rw [h, pm_all_eq p l, List.all_cons]; cases p a <;> rfl
theorem pm_rep_eq {α : Type} (v : α) : ∀ (n : Nat), pm_rep n v = List.replicate n v
  | 0 => rfl
  | n + 1 => by
    have h : pm_rep (n + 1) v = v :: pm_rep n v := rfl
    rw [h, pm_rep_eq v n]; rfl
theorem pm_fnd_mem {α : Type} {k : Nat} {v : α} : ∀ {l : List (Nat × α)}, pm_fnd k l = some v → (k, v) ∈ l
  | [], h => by cases h
  | q :: l, h => by
    have e : pm_fnd k (q :: l) = cond (Nat.beq q.1 k) (some q.2) (pm_fnd k l) := rfl
    rw [e] at h
    cases hb : Nat.beq q.1 k with
    | true =>
      rw [hb] at h
      have h1 : q.1 = k := Nat.eq_of_beq_eq_true hb
      have h2 : q.2 = v := Option.some.inj h
      obtain ⟨a, b⟩ := q
      dsimp only at h1 h2
      subst h1; subst h2
      exact List.mem_cons_self
    | false =>
      rw [hb] at h
      exact List.mem_cons_of_mem _ (pm_fnd_mem h)
theorem pm_get_mem {α : Type} {t : pm_T α} {k : Nat} {v : α} (h : pm_get t k = some v) : ∃ c ∈ t, (k, v) ∈ c := by
  unfold pm_get at h
  cases hc : pm_nth t (k / 16) with
  | none => rw [hc] at h; cases h
  | some c =>
    rw [hc] at h
    rw [pm_nth_eq] at hc
    exact ⟨c, List.mem_of_getElem? hc, pm_fnd_mem h⟩
/-- forced: the same, with its number written out -/
noncomputable def pm_fn {β : Type} (n : Nat) (k : Nat → β) : β := Nat.rec (k 0) (fun q _ => k (Nat.succ q)) n
theorem pm_fn_eq {β : Type} (n : Nat) (k : Nat → β) : pm_fn n k = k n := by cases n <;> rfl
noncomputable def pm_fi {β : Type} (x : Int32) (k : Int32 → β) : β := Nat.rec (k (Int32.ofNat 0)) (fun q _ => k (Int32.ofNat (Nat.succ q))) x.toBitVec.toNat
noncomputable def pm_fl {β : Type} (x : Int64) (k : Int64 → β) : β := Nat.rec (k (Int64.ofNat 0)) (fun q _ => k (Int64.ofNat (Nat.succ q))) x.toBitVec.toNat
theorem pm_i_nat (x : Int32) : Int32.ofNat x.toBitVec.toNat = x := by
  apply Int32.toBitVec_inj.mp
  simp
theorem pm_l_nat (x : Int64) : Int64.ofNat x.toBitVec.toNat = x := by
  apply Int64.toBitVec_inj.mp
  simp
theorem pm_fi_eq {β : Type} (x : Int32) (k : Int32 → β) : pm_fi x k = k x := by
  have h : pm_fi x k = k (Int32.ofNat x.toBitVec.toNat) := by
    unfold pm_fi
    cases x.toBitVec.toNat <;> rfl
  rw [h, pm_i_nat]
theorem pm_fl_eq {β : Type} (x : Int64) (k : Int64 → β) : pm_fl x k = k x := by
  have h : pm_fl x k = k (Int64.ofNat x.toBitVec.toNat) := by
    unfold pm_fl
    cases x.toBitVec.toNat <;> rfl
  rw [h, pm_l_nat]
