/-! the heap behind both constructors: 170 cells (printed by wip/tool/heap.py). A field: 0 an int between two numbers, 1 a long, 2 this reference, 3 an array of ints of at most 1000, 4 a long between two numbers; an array: its type, its length, its elements between two numbers (of references: the first, and how far apart) -/
abbrev pw_F : Type := Nat × Int × Int
abbrev pw_S : Type := (Nat × Nat × Int × Int) ⊕ (Nat × List pw_F)
def pw_T : List pw_S := [.inr (11, [(2, 17, 0), (2, 23, 0), (2, 26, 0), (2, 28, 0), (2, 30, 0), (2, 31, 0), (0, 0, 10), (2, 32, 0), (2, 38, 0), (2, 39, 0), (2, 40, 0), (2, 42, 0), (2, 44, 0), (2, 46, 0), (2, 53, 0), (2, 54, 0), (2, 111, 0), (2, 112, 0), (2, 116, 0), (2, 120, 0)]),
  .inr (6, [(2, 18, 0), (2, 19, 0), (2, 20, 0), (2, 21, 0), (2, 22, 0)]),
  .inl (1, 24, 0, 1),
  .inl (1, 24, 0, 1),
  .inl (0, 24, 0, 1),
  .inl (0, 24, 0, 999),
  .inl (0, 24, 0, 99),
  .inr (0, [(2, 24, 0), (2, 25, 0)]),
  .inl (0, 24, 0, 999),
  .inl (0, 24, (-99), 99),
  .inr (2, [(2, 27, 0)]),
  .inl (0, 288, (-2), 9999),
  .inr (2, [(2, 29, 0)]),
  .inl (0, 288, (-2), 9999),
  .inl (0, 288, 0, 999),
  .inl (0, 288, 0, 99999),
  .inr (8, [(2, 33, 0), (2, 34, 0), (2, 35, 0), (2, 36, 0), (2, 37, 0)]),
  .inl (0, 24, (-1), 1),
  .inl (0, 24, (-2147483648), 2147483647),
  .inl (0, 24, (-2147483648), 2147483647),
  .inl (0, 512, (-2147483648), 2147483647),
  .inl (0, 512, (-2147483648), 2147483647),
  .inr (1, [(1, 0, 0), (1, 0, 0)]),
  .inr (1, [(1, 0, 0), (1, 0, 0)]),
  .inr (9, [(2, 41, 0), (0, 0, 1000), (0, 0, 1000), (0, 0, 1000), (0, 0, 4), (0, (-2147483648), 2147483647)]),
  .inl (2, 1000, 0, 65535),
  .inr (5, [(2, 4, 0), (2, 5, 0), (2, 1, 0), (2, 43, 0), (0, 0, 40), (0, (-2147483648), 2147483647), (0, (-2147483648), 2147483647), (0, 0, 5), (0, 0, 3)]),
  .inl (0, 40, 0, 9),
  .inr (5, [(2, 6, 0), (2, 7, 0), (2, 2, 0), (2, 45, 0), (0, 0, 40), (0, (-2147483648), 2147483647), (0, (-2147483648), 2147483647), (0, 0, 5), (0, 0, 3)]),
  .inl (0, 40, 0, 9),
  .inr (7, [(2, 52, 0), (0, 0, 1000), (2, 47, 0), (2, 48, 0), (2, 49, 0), (2, 50, 0), (2, 51, 0)]),
  .inl (1, 4, 0, 1),
  .inl (0, 4, 0, 1000),
  .inl (0, 4, 0, 1000),
  .inl (0, 4, 0, 11),
  .inl (0, 40, (-2147483648), 2147483647),
  .inl (0, 1000, (-2147483648), 2147483647),
  .inl (12, 4, 55, 14),
  .inl (12, 4, 62, 14),
  .inr (7, [(3, 0, 0), (0, 0, 1000), (2, 56, 0), (2, 57, 0), (2, 58, 0), (2, 59, 0), (2, 60, 0)]),
  .inl (1, 4, 0, 1),
  .inl (0, 4, 0, 1000),
  .inl (0, 4, 0, 1000),
  .inl (0, 4, 0, 11),
  .inl (0, 40, (-2147483648), 2147483647),
  .inl (0, 0, (-2147483648), 2147483647),
  .inr (7, [(3, 0, 0), (0, 0, 1000), (2, 63, 0), (2, 64, 0), (2, 65, 0), (2, 66, 0), (2, 67, 0)]),
  .inl (1, 4, 0, 1),
  .inl (0, 4, 0, 1000),
  .inl (0, 4, 0, 1000),
  .inl (0, 4, 0, 11),
  .inl (0, 40, (-2147483648), 2147483647),
  .inl (0, 0, (-2147483648), 2147483647),
  .inr (7, [(3, 0, 0), (0, 0, 1000), (2, 70, 0), (2, 71, 0), (2, 72, 0), (2, 73, 0), (2, 74, 0)]),
  .inl (1, 4, 0, 1),
  .inl (0, 4, 0, 1000),
  .inl (0, 4, 0, 1000),
  .inl (0, 4, 0, 11),
  .inl (0, 40, (-2147483648), 2147483647),
  .inl (0, 0, (-2147483648), 2147483647),
  .inr (7, [(3, 0, 0), (0, 0, 1000), (2, 77, 0), (2, 78, 0), (2, 79, 0), (2, 80, 0), (2, 81, 0)]),
  .inl (1, 4, 0, 1),
  .inl (0, 4, 0, 1000),
  .inl (0, 4, 0, 1000),
  .inl (0, 4, 0, 11),
  .inl (0, 40, (-2147483648), 2147483647),
  .inl (0, 0, (-2147483648), 2147483647),
  .inr (7, [(3, 0, 0), (0, 0, 1000), (2, 84, 0), (2, 85, 0), (2, 86, 0), (2, 87, 0), (2, 88, 0)]),
  .inl (1, 4, 0, 1),
  .inl (0, 4, 0, 1000),
  .inl (0, 4, 0, 1000),
  .inl (0, 4, 0, 11),
  .inl (0, 40, (-2147483648), 2147483647),
  .inl (0, 0, (-2147483648), 2147483647),
  .inr (7, [(3, 0, 0), (0, 0, 1000), (2, 91, 0), (2, 92, 0), (2, 93, 0), (2, 94, 0), (2, 95, 0)]),
  .inl (1, 4, 0, 1),
  .inl (0, 4, 0, 1000),
  .inl (0, 4, 0, 1000),
  .inl (0, 4, 0, 11),
  .inl (0, 40, (-2147483648), 2147483647),
  .inl (0, 0, (-2147483648), 2147483647),
  .inr (7, [(3, 0, 0), (0, 0, 1000), (2, 98, 0), (2, 99, 0), (2, 100, 0), (2, 101, 0), (2, 102, 0)]),
  .inl (1, 4, 0, 1),
  .inl (0, 4, 0, 1000),
  .inl (0, 4, 0, 1000),
  .inl (0, 4, 0, 11),
  .inl (0, 40, (-2147483648), 2147483647),
  .inl (0, 0, (-2147483648), 2147483647),
  .inr (7, [(3, 0, 0), (0, 0, 1000), (2, 105, 0), (2, 106, 0), (2, 107, 0), (2, 108, 0), (2, 109, 0)]),
  .inl (1, 4, 0, 1),
  .inl (0, 4, 0, 1000),
  .inl (0, 4, 0, 1000),
  .inl (0, 4, 0, 11),
  .inl (0, 40, (-2147483648), 2147483647),
  .inl (0, 0, (-2147483648), 2147483647),
  .inl (0, 9, (-2147483648), 2147483647),
  .inr (10, [(2, 17, 0), (2, 26, 0), (2, 23, 0), (2, 113, 0), (2, 115, 0), (1, 0, 0)]),
  .inr (2, [(2, 114, 0)]),
  .inl (0, 288, (-2), 9999),
  .inl (0, 10, (-2147483648), 2147483647),
  .inr (4, [(2, 117, 0), (2, 118, 0), (2, 119, 0), (0, 0, 20)]),
  .inl (0, 20, (-9999), 9999),
  .inl (0, 20, 0, 999),
  .inl (1, 20, 0, 1),
  .inl (8, 4, 121, 5),
  .inr (3, [(2, 122, 0), (2, 124, 0), (0, 0, 20), (0, 0, 1)]),
  .inr (2, [(2, 123, 0)]),
  .inl (0, 288, (-2), 9999),
  .inr (2, [(2, 125, 0)]),
  .inl (0, 288, (-2), 9999),
  .inr (3, [(2, 127, 0), (2, 129, 0), (0, 0, 20), (0, 0, 1)]),
  .inr (2, [(2, 128, 0)]),
  .inl (0, 288, (-2), 9999),
  .inr (2, [(2, 130, 0)]),
  .inl (0, 288, (-2), 9999),
  .inr (3, [(2, 132, 0), (2, 134, 0), (0, 0, 20), (0, 0, 1)]),
  .inr (2, [(2, 133, 0)]),
  .inl (0, 288, (-2), 9999),
  .inr (2, [(2, 135, 0)]),
  .inl (0, 288, (-2), 9999),
  .inr (3, [(2, 137, 0), (2, 139, 0), (0, 0, 20), (0, 0, 1)]),
  .inr (2, [(2, 138, 0)]),
  .inl (0, 288, (-2), 9999),
  .inr (2, [(2, 140, 0)]),
  .inl (0, 288, (-2), 9999),
  .inr (12, [(0, 0, 1), (2, 142, 0), (0, 0, 1000), (0, 0, 1000), (2, 143, 0), (2, 144, 0), (2, 145, 0), (0, 0, 1001), (0, (-2147483648), 2147483647), (2, 146, 0), (2, 147, 0), (2, 148, 0), (2, 149, 0), (2, 150, 0), (2, 151, 0), (0, 0, 10), (2, 152, 0), (2, 153, 0), (2, 154, 0), (2, 155, 0), (2, 156, 0), (2, 157, 0), (2, 158, 0), (2, 159, 0), (1, 0, 0), (4, 0, 1099511627776), (1, 0, 0), (4, 0, 24), (1, 0, 0), (4, 0, 24), (2, 160, 0), (2, 161, 0), (0, 0, 1100), (2, 162, 0), (2, 163, 0), (2, 164, 0), (2, 165, 0), (2, 166, 0), (2, 167, 0), (2, 168, 0), (2, 169, 0), (0, 0, 20), (2, 170, 0), (2, 171, 0), (2, 172, 0), (0, 0, 1), (2, 173, 0), (2, 174, 0), (2, 175, 0), (2, 176, 0), (2, 177, 0), (2, 178, 0), (2, 179, 0), (2, 180, 0), (2, 181, 0), (2, 182, 0), (2, 183, 0), (2, 184, 0)]),
  .inl (0, 1000, 0, 126),
  .inl (0, 1002, 0, 4),
  .inl (0, 1002, 0, 1000),
  .inl (3, 1002, (-2147483648), 2147483647),
  .inl (3, 28, (-2147483648), 2147483647),
  .inl (1, 24, 0, 1),
  .inl (0, 24, 0, 1),
  .inl (0, 24, 0, 999),
  .inl (0, 24, 0, 99),
  .inl (1, 24, 0, 1),
  .inl (0, 24, 0, 999),
  .inl (0, 24, (-99), 99),
  .inl (0, 288, 0, 99),
  .inl (0, 288, 0, 99),
  .inl (0, 288, 0, 99),
  .inl (0, 288, 0, 99),
  .inl (0, 288, 0, 99),
  .inl (0, 288, 0, 99),
  .inl (0, 24, (-2147483648), 2147483647),
  .inl (0, 20, (-1), 1100),
  .inl (0, 9900, 0, 10),
  .inl (0, 9900, (-2147483648), 2147483647),
  .inl (0, 9, 0, 27),
  .inl (0, 10, (-2147483648), 2147483647),
  .inl (0, 1100, (-2147483648), 2147483647),
  .inl (0, 288, 0, 99),
  .inl (0, 288, 0, 99),
  .inl (1, 288, 0, 1),
  .inl (0, 20, (-9999), 9999),
  .inl (0, 20, 0, 999),
  .inl (1, 20, 0, 1),
  .inl (0, 4, (-1), 1100),
  .inl (0, 4, 0, 11),
  .inl (0, 4, 0, 11),
  .inl (0, 4, (-1), 10),
  .inl (0, 4, (-1), 1100),
  .inl (0, 288, 0, 999),
  .inl (0, 288, 0, 99999),
  .inl (0, 9, (-2147483648), 2147483647),
  .inl (0, 9, (-2147483648), 2147483647),
  .inl (1, 4, 0, 1),
  .inl (0, 4, 0, 20),
  .inl (0, 6912, 0, 99),
  .inl (3, 1, (-2147483648), 2147483647)]
def pw_l (a : Int) : Value := .long (Int64.ofInt a)
def pw_ints (l : List Value) : Prop := ∀ (j : Nat) (v : Value), l[j]? = some v → ∃ x : Int32, v = .int x
def pw_vk (h : pm_H) (sp : pw_F) (v : Value) : Prop := match sp.1 with
  | 0 => ∃ a : Int, v = pw_i a ∧ sp.2.1 ≤ a ∧ a ≤ sp.2.2 ∧ -2147483648 ≤ a ∧ a ≤ 2147483647
  | 1 => ∃ w : Int64, v = .long w
  | 2 => v = .ref sp.2.1.toNat
  | 4 => ∃ a : Int, v = pw_l a ∧ sp.2.1 ≤ a ∧ a ≤ sp.2.2 ∧ -4611686018427387904 ≤ a ∧ a ≤ 4611686018427387904
  | _ => ∃ (c : Nat) (l : List Value), v = .ref (16 + c) ∧ h[c]? = some (.inl (0, l)) ∧ l.length ≤ 1000 ∧ pw_ints l
def pw_ve (t : Nat) (lo hi : Int) (j : Nat) (v : Value) : Prop := match t with
  | 0 => ∃ a : Int, v = pw_i a ∧ lo ≤ a ∧ a ≤ hi ∧ -2147483648 ≤ a ∧ a ≤ 2147483647
  | 1 => ∃ a : Int, v = pw_i a ∧ lo ≤ a ∧ a ≤ hi ∧ -2147483648 ≤ a ∧ a ≤ 2147483647
  | 2 => ∃ a : Int, v = pw_i a ∧ lo ≤ a ∧ a ≤ hi ∧ -2147483648 ≤ a ∧ a ≤ 2147483647
  | 3 => ∃ w : Int64, v = .long w
  | _ => v = .ref (lo + hi * j).toNat
def pw_ok (h : pm_H) (s : pw_S) (q : pm_C) : Prop := match s, q with
  | .inl (t, n, lo, hi), .inl (t', l) => t' = t ∧ l.length = n ∧ ∀ (j : Nat) (v : Value), l[j]? = some v → pw_ve t lo hi j v
  | .inr (ci, sps), .inr (cj, fs) => cj = ci ∧ fs.length = sps.length ∧ ∀ (k : Nat) (sp : pw_F) (v : Value), sps[k]? = some sp → fs[k]? = some v → pw_vk h sp v
  | _, _ => False
/-- what holds of the heap between two instructions -/
def pw_I (h : pm_H) : Prop := (∀ (c : Nat) (s : pw_S), pw_T[c]? = some s → ∃ q, h[c]? = some q ∧ pw_ok h s q) ∧ pm_scH h = true
/-- what stands in a cell's place -/
def pw_at (h : pm_H) (c k : Nat) : Option Value := match h[c]? with
  | some (.inl q) => q.2[k]?
  | some (.inr q) => q.2[k]?
  | none => none
def pw_iv (v : Option Value) : Int := match v with
  | some (.int x) => x.toInt
  | _ => 0
def pw_lv (v : Option Value) : Int64 := match v with
  | some (.long x) => x
  | _ => 0
def pw_g (h : pm_H) (c k : Nat) : Int := pw_iv (pw_at h c k)
def pw_gl (h : pm_H) (c k : Nat) : Int64 := pw_lv (pw_at h c k)
def pw_w (h : pm_H) (c k : Nat) (v : Value) : pm_H := match h[c]? with
  | some (.inl q) => h.set c (.inl (q.1, q.2.set k v))
  | some (.inr q) => h.set c (.inr (q.1, q.2.set k v))
  | none => h
/-- the model's fields that are looked after one by one: taped 2, ofTen 15, riversMany 41; in W they are 1000 and more -/
def pw_pf (k : Nat) : Prop := k = 2 ∨ k = 15 ∨ k = 41
/-- nothing has changed but the cells W; no cell is new, and none has another size -/
def pw_E (W : List Nat) (h h' : pm_H) : Prop := (h'.length = h.length ∧ pm_slt h' = pm_slt h) ∧ (∀ c : Nat, c < h.length → c ∉ W → h'[c]? = h[c]?) ∧ ∀ k : Nat, pw_pf k → 1000 + k ∉ W → pw_at h' 125 k = pw_at h 125 k
theorem pw_E.rf (W : List Nat) (h : pm_H) : pw_E W h h := ⟨⟨rfl, rfl⟩, fun _ _ _ => rfl, fun _ _ _ => rfl⟩
theorem pw_E.tr {W : List Nat} {a b c : pm_H} (h1 : pw_E W a b) (h2 : pw_E W b c) : pw_E W a c := ⟨⟨h2.1.1.trans h1.1.1, h2.1.2.trans h1.1.2⟩, fun q hq hn => (h2.2.1 q (by rw [h1.1.1]; exact hq) hn).trans (h1.2.1 q hq hn), fun k hk hn => (h2.2.2 k hk hn).trans (h1.2.2 k hk hn)⟩
theorem pw_E.wk {W W' : List Nat} {a b : pm_H} (h1 : pw_E W a b) (hs : W.all (fun c => W'.contains c) = true) : pw_E W' a b := ⟨h1.1, fun q hq hn => h1.2.1 q hq fun hm => hn (by
  have := List.all_eq_true.mp hs q hm
  exact List.contains_iff_mem.mp this), fun k hk hn => h1.2.2 k hk fun hm => hn (by
  have := List.all_eq_true.mp hs _ hm
  exact List.contains_iff_mem.mp this)⟩
theorem pw_E.at {W : List Nat} {a b : pm_H} (h1 : pw_E W a b) {c : Nat} (hc : c < a.length) (hn : W.contains c = false) (k : Nat) : pw_at b c k = pw_at a c k := by
  unfold pw_at
  rw [h1.2.1 c hc (fun hm => by
    have := List.contains_iff_mem.mpr hm
    rw [hn] at this; cases this)]
/-- one of those fields, where W has it not -/
theorem pw_Ef {W : List Nat} {h h' : pm_H} (E : pw_E W h h') {k : Nat} (hk : pw_pf k) (hn : W.contains (1000 + k) = false) : pw_g h' 125 k = pw_g h 125 k := congrArg pw_iv (E.2.2 k hk (fun hm => by
  have := List.contains_iff_mem.mpr hm
  rw [hn] at this; cases this))
/-- a field that isn't looked after by itself -/
def pw_np (c k : Nat) : Bool := cond (Nat.beq k 2 || (Nat.beq k 15 || Nat.beq k 41)) (!Nat.beq c 125) true
theorem pw_iv_i {a : Int} (h1 : -2147483648 ≤ a) (h2 : a ≤ 2147483647) : pw_iv (some (pw_i a)) = a := pw_toInt h1 h2
theorem pw_cellI {h : pm_H} {c a : Nat} {q : pm_C} (hc : h[c]? = some q) (ha : 16 + c = a) : pm_cell h a = some q := by
  subst ha
  unfold pm_cell
  have : Nat.blt (16 + c) 16 = false := by
    cases hb : Nat.blt (16 + c) 16 with
    | false => rfl
    | true => have := pm_blt hb; omega
  rw [this, cond_false, pm_nth_eq, Nat.add_sub_cancel_left]
  exact hc
theorem pw_rowI {X : List (Nat × List Value)} {h : pm_H} {c a : Nat} {q : Nat × List Value} (hc : h[c]? = some (.inl q)) (ha : 16 + c = a) : pm_row X h a = some q := by
  subst ha
  unfold pm_row
  have : Nat.blt (16 + c) 16 = false := by
    cases hb : Nat.blt (16 + c) 16 with
    | false => rfl
    | true => have := pm_blt hb; omega
  rw [this, cond_false, pm_nth_eq, Nat.add_sub_cancel_left, hc]
theorem pw_obj {h : pm_H} {c ci : Nat} {sps : List pw_F} (I : pw_I h) (hs : pw_T[c]? = some (.inr (ci, sps))) : ∃ fs, h[c]? = some (.inr (ci, fs)) ∧ fs.length = sps.length ∧ ∀ (k : Nat) (sp : pw_F) (v : Value), sps[k]? = some sp → fs[k]? = some v → pw_vk h sp v := by
  obtain ⟨q, h1, h2⟩ := I.1 c _ hs
  match q, h1, h2 with
  | .inr (cj, fs), h1, h2 =>
    obtain ⟨rfl, e2, e3⟩ := h2
    exact ⟨fs, h1, e2, e3⟩
theorem pw_arr {h : pm_H} {c t n : Nat} {lo hi : Int} (I : pw_I h) (hs : pw_T[c]? = some (.inl (t, n, lo, hi))) : ∃ l, h[c]? = some (.inl (t, l)) ∧ l.length = n ∧ ∀ (j : Nat) (v : Value), l[j]? = some v → pw_ve t lo hi j v := by
  obtain ⟨q, h1, h2⟩ := I.1 c _ hs
  match q, h1, h2 with
  | .inl (cj, l), h1, h2 =>
    obtain ⟨rfl, e2, e3⟩ := h2
    exact ⟨l, h1, e2, e3⟩
theorem pw_fld {h : pm_H} {c ci k : Nat} {sps : List pw_F} {sp : pw_F} (I : pw_I h) (hs : pw_T[c]? = some (.inr (ci, sps))) (hk : sps[k]? = some sp) : ∃ fs v, h[c]? = some (.inr (ci, fs)) ∧ fs[k]? = some v ∧ pw_at h c k = some v ∧ pw_vk h sp v := by
  obtain ⟨fs, h1, h2, h3⟩ := pw_obj I hs
  have hlt : k < fs.length := by rw [h2]; exact (List.getElem?_eq_some_iff.mp hk).1
  refine ⟨fs, fs[k], h1, List.getElem?_eq_getElem hlt, ?_, h3 k sp _ hk (List.getElem?_eq_getElem hlt)⟩
  unfold pw_at
  rw [h1]
  exact List.getElem?_eq_getElem hlt
theorem pw_gI {h : pm_H} {c ci k : Nat} {sps : List pw_F} {lo hi : Int} (I : pw_I h) (hs : pw_T[c]? = some (.inr (ci, sps))) (hk : sps[k]? = some (0, lo, hi)) : lo ≤ pw_g h c k ∧ pw_g h c k ≤ hi ∧ -2147483648 ≤ pw_g h c k ∧ pw_g h c k ≤ 2147483647 := by
  obtain ⟨fs, v, h1, h2, h3, a, rfl, h4, h5, h6, h7⟩ := pw_fld I hs hk
  have e : pw_g h c k = a := by unfold pw_g; rw [h3, pw_iv_i h6 h7]
  rw [e]
  exact ⟨h4, h5, h6, h7⟩
section Ph
variable {X : List (Nat × List Value)} {d : Nat} {h : pm_H} {m pc pc' len na nl own rt : Nat} {C : pm_T (Instr × Nat)} {ls ls' : pm_L} {st st' r : List Value} {Q : pm_H → (Option Value ⊕ Unit) → Prop} {i : Instr}
theorem pw_get0 {ix c ci k t a : Nat} {fs : List Value} {v : Value} (he : pm_ent m = some (na, nl, own, rt, C)) (hq : pm_get C pc = some (.getfield ix, len)) (hl : pm_get (pm_lnk own) ix = some (0, ci, k, t)) (h1 : h[c]? = some (.inr (ci, fs))) (h2 : fs[k]? = some v) (ha : 16 + c = a) (hc : pc + len = pc') (H : pw X d h m pc' ls (v :: r) Q) : pw X d h m pc ls (.ref a :: r) Q := by
  subst hc
  refine pw_ld he hq (st' := v :: r) (pc' := pc + len) (fun ih => ?_) H
  show pm_gGet ix ih d h m own pc len ls (.ref a :: r) = _
  unfold pm_gGet
  dsimp only
  rw [hl, pw_cellI h1 ha]
  show cond (Nat.beq ci ci) (match pm_nth fs k with
        | some v => pm_fn (pc + len) fun q => ih d h m q ls (v :: r)
        | none => none) none = _
  rw [Nat.beq_refl, cond_true, pm_nth_eq, h2]
  show (pm_fn (pc + len) fun q => ih d h m q ls (v :: r)) = _
  rw [pm_fn_eq]
theorem pw_getI {ix c ci k t a : Nat} {sps : List pw_F} {lo hi : Int} (I : pw_I h) (he : pm_ent m = some (na, nl, own, rt, C)) (hq : pm_get C pc = some (.getfield ix, len)) (hl : pm_get (pm_lnk own) ix = some (0, ci, k, t)) (hs : pw_T[c]? = some (.inr (ci, sps))) (hk : sps[k]? = some (0, lo, hi)) (ha : 16 + c = a) (hc : pc + len = pc') (H : lo ≤ pw_g h c k → pw_g h c k ≤ hi → -2147483648 ≤ pw_g h c k → pw_g h c k ≤ 2147483647 → pw X d h m pc' ls (pw_i (pw_g h c k) :: r) Q) : pw X d h m pc ls (.ref a :: r) Q := by
  obtain ⟨fs, v, h1, h2, h3, b, rfl, h4, h5, h6, h7⟩ := pw_fld I hs hk
  have e : pw_g h c k = b := by unfold pw_g; rw [h3, pw_iv_i h6 h7]
  rw [e] at H
  exact pw_get0 he hq hl h1 h2 ha hc (H h4 h5 h6 h7)
theorem pw_getL {ix c ci k t a : Nat} {sps : List pw_F} {lo hi : Int} (I : pw_I h) (he : pm_ent m = some (na, nl, own, rt, C)) (hq : pm_get C pc = some (.getfield ix, len)) (hl : pm_get (pm_lnk own) ix = some (0, ci, k, t)) (hs : pw_T[c]? = some (.inr (ci, sps))) (hk : sps[k]? = some (1, lo, hi)) (ha : 16 + c = a) (hc : pc + len = pc') (H : pw X d h m pc' ls (.long (pw_gl h c k) :: r) Q) : pw X d h m pc ls (.ref a :: r) Q := by
  obtain ⟨fs, v, h1, h2, h3, w, rfl⟩ := pw_fld I hs hk
  have e : pw_gl h c k = w := by unfold pw_gl; rw [h3]; rfl
  rw [e] at H
  exact pw_get0 he hq hl h1 h2 ha hc H
theorem pw_getR {ix c ci k t a b : Nat} {sps : List pw_F} {lo hi : Int} (I : pw_I h) (he : pm_ent m = some (na, nl, own, rt, C)) (hq : pm_get C pc = some (.getfield ix, len)) (hl : pm_get (pm_lnk own) ix = some (0, ci, k, t)) (hs : pw_T[c]? = some (.inr (ci, sps))) (hk : sps[k]? = some (2, lo, hi)) (ha : 16 + c = a) (hb : lo.toNat = b) (hc : pc + len = pc') (H : pw X d h m pc' ls (.ref b :: r) Q) : pw X d h m pc ls (.ref a :: r) Q := by
  obtain ⟨fs, v, h1, h2, h3, hv⟩ := pw_fld I hs hk
  have hv : v = .ref lo.toNat := hv
  rw [hb] at hv
  subst hv
  exact pw_get0 he hq hl h1 h2 ha hc H
theorem pw_getC {ix c ci k t a : Nat} {sps : List pw_F} {lo hi : Int} (I : pw_I h) (he : pm_ent m = some (na, nl, own, rt, C)) (hq : pm_get C pc = some (.getfield ix, len)) (hl : pm_get (pm_lnk own) ix = some (0, ci, k, t)) (hs : pw_T[c]? = some (.inr (ci, sps))) (hk : sps[k]? = some (3, lo, hi)) (ha : 16 + c = a) (hc : pc + len = pc') (H : ∀ (c2 : Nat) (l : List Value), h[c2]? = some (.inl (0, l)) → l.length ≤ 1000 → pw_ints l → pw X d h m pc' ls (.ref (16 + c2) :: r) Q) : pw X d h m pc ls (.ref a :: r) Q := by
  obtain ⟨fs, v, h1, h2, h3, c2, l, rfl, h4, h5, h6⟩ := pw_fld I hs hk
  exact pw_get0 he hq hl h1 h2 ha hc (H c2 l h4 h5 h6)
theorem pw_veI {t : Nat} {lo hi : Int} {j : Nat} {v : Value} (ht : t < 3) (h : pw_ve t lo hi j v) : ∃ a : Int, v = pw_i a ∧ lo ≤ a ∧ a ≤ hi ∧ -2147483648 ≤ a ∧ a ≤ 2147483647 := by
  match t, ht, h with
  | 0, _, h => exact h
  | 1, _, h => exact h
  | 2, _, h => exact h
theorem pw_el {c t n : Nat} {lo hi : Int} {j : Int} (I : pw_I h) (hs : pw_T[c]? = some (.inl (t, n, lo, hi))) (h0 : 0 ≤ j) (h1 : j < n) : ∃ l v, h[c]? = some (.inl (t, l)) ∧ l[j.toNat]? = some v ∧ pw_at h c j.toNat = some v ∧ pw_ve t lo hi j.toNat v := by
  obtain ⟨l, e1, e2, e3⟩ := pw_arr I hs
  have hlt : j.toNat < l.length := by omega
  refine ⟨l, l[j.toNat], e1, List.getElem?_eq_getElem hlt, ?_, e3 _ _ (List.getElem?_eq_getElem hlt)⟩
  unfold pw_at
  rw [e1]
  exact List.getElem?_eq_getElem hlt
theorem pw_gA {c t n : Nat} {lo hi : Int} {j : Int} (I : pw_I h) (hs : pw_T[c]? = some (.inl (t, n, lo, hi))) (ht : t < 3) (h0 : 0 ≤ j) (h1 : j < n) : lo ≤ pw_g h c j.toNat ∧ pw_g h c j.toNat ≤ hi ∧ -2147483648 ≤ pw_g h c j.toNat ∧ pw_g h c j.toNat ≤ 2147483647 := by
  obtain ⟨l, v, e1, e2, e3, e4⟩ := pw_el I hs h0 h1
  obtain ⟨a, rfl, h4, h5, h6, h7⟩ := pw_veI ht e4
  have e : pw_g h c j.toNat = a := by unfold pw_g; rw [e3, pw_iv_i h6 h7]
  rw [e]
  exact ⟨h4, h5, h6, h7⟩
theorem pw_ald {c t t' n a : Nat} {lo hi : Int} {j : Int} (I : pw_I h) (he : pm_ent m = some (na, nl, own, rt, C)) (hq : pm_get C pc = some (i, len)) (hdi : pm_dsp X i = pm_gAld X t t') (hs : pw_T[c]? = some (.inl (t, n, lo, hi))) (ht : t < 3) (ha : 16 + c = a) (hn : n ≤ 2147483647) (h0 : 0 ≤ j) (h1 : j < n) (hc : pc + len = pc') (H : lo ≤ pw_g h c j.toNat → pw_g h c j.toNat ≤ hi → -2147483648 ≤ pw_g h c j.toNat → pw_g h c j.toNat ≤ 2147483647 → pw X d h m pc' ls (pw_i (pw_g h c j.toNat) :: r) Q) : pw X d h m pc ls (pw_i j :: .ref a :: r) Q := by
  subst hc
  obtain ⟨l, v, e1, e2, e3, e4⟩ := pw_el I hs h0 h1
  obtain ⟨b, rfl, h4, h5, h6, h7⟩ := pw_veI ht e4
  have e : pw_g h c j.toNat = b := by unfold pw_g; rw [e3, pw_iv_i h6 h7]
  rw [e] at H
  refine pw_ld he hq (st' := pw_i b :: r) (pc' := pc + len) (fun ih => ?_) (H h4 h5 h6 h7)
  rw [hdi]
  unfold pm_gAld pw_i
  dsimp only
  rw [pw_rowI e1 ha]
  show cond (Nat.beq t t || Nat.beq t t') (cond (decide (Int32.ofInt j < 0)) none (match pm_nth l (Int32.ofInt j).toNatClampNeg with
        | some (.int x) => pm_fn (pc + len) fun q => ih d h m q ls (.int x :: r)
        | _ => none)) none = _
  rw [Nat.beq_refl, Bool.true_or, cond_true, decide_eq_false (pw_neg h0 (by omega)), cond_false, pw_clamp h0 (by omega), pm_nth_eq, e2]
  show pm_fn (pc + len) _ = _
  rw [pm_fn_eq]
theorem pw_lald {c n a : Nat} {lo hi : Int} {j : Int} (I : pw_I h) (he : pm_ent m = some (na, nl, own, rt, C)) (hq : pm_get C pc = some (.laload, len)) (hs : pw_T[c]? = some (.inl (3, n, lo, hi))) (ha : 16 + c = a) (hn : n ≤ 2147483647) (h0 : 0 ≤ j) (h1 : j < n) (hc : pc + len = pc') (H : pw X d h m pc' ls (.long (pw_gl h c j.toNat) :: r) Q) : pw X d h m pc ls (pw_i j :: .ref a :: r) Q := by
  subst hc
  obtain ⟨l, v, e1, e2, e3, w, rfl⟩ := pw_el I hs h0 h1
  have e : pw_gl h c j.toNat = w := by unfold pw_gl; rw [e3]; rfl
  rw [e] at H
  refine pw_ld he hq (st' := .long w :: r) (pc' := pc + len) (fun ih => ?_) H
  show pm_gLald X ih d h m own pc len ls (pw_i j :: .ref a :: r) = _
  unfold pm_gLald pw_i
  dsimp only
  rw [pw_rowI e1 ha]
  show cond (Nat.beq 3 3) (cond (decide (Int32.ofInt j < 0)) none (match pm_nth l (Int32.ofInt j).toNatClampNeg with
        | some (.long x) => pm_fn (pc + len) fun q => ih d h m q ls (.long x :: r)
        | _ => none)) none = _
  rw [Nat.beq_refl, cond_true, decide_eq_false (pw_neg h0 (by omega)), cond_false, pw_clamp h0 (by omega), pm_nth_eq, e2]
  show pm_fn (pc + len) _ = _
  rw [pm_fn_eq]
theorem pw_aald {c t n a b : Nat} {lo hi : Int} {j : Int} (I : pw_I h) (he : pm_ent m = some (na, nl, own, rt, C)) (hq : pm_get C pc = some (.aaload, len)) (hs : pw_T[c]? = some (.inl (t, n, lo, hi))) (ht : t = 8 ∨ t = 12) (ha : 16 + c = a) (hn : n ≤ 2147483647) (h0 : 0 ≤ j) (h1 : j < n) (hb : (lo + hi * j.toNat).toNat = b) (hc : pc + len = pc') (H : pw X d h m pc' ls (.ref b :: r) Q) : pw X d h m pc ls (pw_i j :: .ref a :: r) Q := by
  subst hc
  obtain ⟨l, v, e1, e2, e3, e4⟩ := pw_el I hs h0 h1
  have hv : v = .ref b := by
    rw [← hb]
    rcases ht with rfl | rfl <;> exact e4
  subst hv
  refine pw_ld he hq (st' := .ref b :: r) (pc' := pc + len) (fun ih => ?_) H
  show pm_gAald ih d h m own pc len ls (pw_i j :: .ref a :: r) = _
  unfold pm_gAald pw_i
  dsimp only
  rw [pw_cellI e1 ha]
  show cond (Nat.beq t 8 || Nat.beq t 12) (cond (decide (Int32.ofInt j < 0)) none (match pm_nth l (Int32.ofInt j).toNatClampNeg with
        | some (.ref x) => pm_fn (pc + len) fun q => ih d h m q ls (.ref x :: r)
        | _ => none)) none = _
  have e8 : (Nat.beq t 8 || Nat.beq t 12) = true := by rcases ht with rfl | rfl <;> rfl
  rw [e8, cond_true, decide_eq_false (pw_neg h0 (by omega)), cond_false, pw_clamp h0 (by omega), pm_nth_eq, e2]
  show pm_fn (pc + len) _ = _
  rw [pm_fn_eq]
theorem pw_alen {t a : Nat} {l : List Value} (he : pm_ent m = some (na, nl, own, rt, C)) (hq : pm_get C pc = some (.arraylength, len)) (hr : pm_row X h a = some (t, l)) (ht : pm_okt t = true) (hc : pc + len = pc') (H : pw X d h m pc' ls (pw_i (l.length : Int) :: r) Q) : pw X d h m pc ls (.ref a :: r) Q := by
  subst hc
  refine pw_ld he hq (st' := pw_i (l.length : Int) :: r) (pc' := pc + len) (fun ih => ?_) H
  show pm_gLen X ih d h m own pc len ls (.ref a :: r) = _
  unfold pm_gLen
  dsimp only
  rw [hr]
  show cond (pm_okt t) (pm_fn (pm_len l) fun z => pm_fn (pc + len) fun q => ih d h m q ls (.int (Int32.ofNat z) :: r)) none = _
  rw [ht, cond_true, pm_fn_eq, pm_fn_eq, pm_len_eq]
  rfl
end Ph

