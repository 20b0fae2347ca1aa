/-! soundness, the heap: what a picture is a picture of -/
def pm_iv (v : Value) : Int32 := match v with
  | .int x => x
  | _ => 0
def pm_gv (v : Value) : Int64 := match v with
  | .long x => x
  | _ => 0
def pm_qv (ad : Nat → Nat) (v : Value) : Option Nat := match v with
  | .ref a => some (ad a)
  | _ => none
def pm_ct (ad : Nat → Nat) (t : Nat) (l : List Value) : (Nat → Int32) ⊕ (Nat → Int64) ⊕ (Nat → UInt32) ⊕ (Nat → UInt64) ⊕ (Nat → Option Nat) :=
  if t = 3 then .inr (.inl (fun j => pm_gv (l.getD j .null))) else if t < 5 then .inl (fun j => pm_iv (l.getD j .null)) else .inr (.inr (.inr (.inr (fun j => pm_qv ad (l.getD j .null)))))
theorem pm_ct3 (ad : Nat → Nat) (l : List Value) : pm_ct ad 3 l = .inr (.inl (fun j => pm_gv (l.getD j .null))) := by simp [pm_ct]
theorem pm_ctI (ad : Nat → Nat) {t : Nat} (l : List Value) (h3 : t ≠ 3) (h5 : t < 5) : pm_ct ad t l = .inl (fun j => pm_iv (l.getD j .null)) := by simp [pm_ct, h3, h5]
theorem pm_ctQ (ad : Nat → Nat) {t : Nat} (l : List Value) (h5 : 5 ≤ t) : pm_ct ad t l = .inr (.inr (.inr (.inr (fun j => pm_qv ad (l.getD j .null))))) := by
  have h3 : t ≠ 3 := by omega
  have h : ¬ t < 5 := by omega
  simp [pm_ct, h3, h]
def pm_re (ad : Nat → Nat) (cA : Nat → ClassId) (c : pm_C) : va_E := match c with
  | .inl q => .inl (cA q.1, q.2.length, pm_ct ad q.1 q.2)
  | .inr q => .inr (q.1, q.2.map (pm_rv ad))
def pm_ws (ad : Nat → Nat) (cA : Nat → ClassId) (h : pm_H) : va_W := h.mapIdx (fun k c => (ad (16 + k), pm_re ad cA c))
theorem pm_ws_get (ad : Nat → Nat) (cA : Nat → ClassId) (h : pm_H) (k : Nat) : (pm_ws ad cA h)[k]? = (h[k]?).map (fun c => (ad (16 + k), pm_re ad cA c)) := by
  unfold pm_ws
  rw [List.getElem?_mapIdx]
theorem pm_ws_at {ad : Nat → Nat} {cA : Nat → ClassId} {h : pm_H} {k : Nat} {c : pm_C} (hk : h[k]? = some c) : (pm_ws ad cA h)[k]? = some (ad (16 + k), pm_re ad cA c) := by
  rw [pm_ws_get, hk]; rfl
theorem pm_ws_set {ad : Nat → Nat} {cA : Nat → ClassId} {h : pm_H} {k : Nat} {c : pm_C} (hk : k < h.length) : pm_ws ad cA (h.set k c) = (pm_ws ad cA h).set k (ad (16 + k), pm_re ad cA c) := by
  apply List.ext_getElem?
  intro j
  rw [pm_ws_get]
  by_cases hj : k = j
  · subst hj
    rw [List.getElem?_set_self hk, List.getElem?_set_self (by unfold pm_ws; simpa using hk)]
    rfl
  · rw [List.getElem?_set_ne hj, List.getElem?_set_ne hj, pm_ws_get]
theorem pm_ws_push (ad : Nat → Nat) (cA : Nat → ClassId) (h : pm_H) (c : pm_C) : pm_ws ad cA (h ++ [c]) = pm_ws ad cA h ++ [(ad (16 + h.length), pm_re ad cA c)] := by
  unfold pm_ws
  rw [List.mapIdx_append]
  simp
/-- the classes of the arrays, by the type codes -/
def pm_tys (cA : Nat → ClassId) : List (ClassId × FieldType) := [(cA 0, .int), (cA 1, .boolean), (cA 2, .char), (cA 3, .long), (cA 4, .byte), (cA 0, .int), (cA 0, .int), (cA 0, .int), (cA 8, .object RX3), (cA 0, .int), (cA 0, .int), (cA 0, .int), (cA 12, .object RX7)]
/-- h is a picture of the cells of H that lie in A; the places to come are the addresses to come -/
def pm_rel (D : va_G) (cA : Nat → ClassId) (A : Nat → Prop) (ad : Nat → Nat) (h : pm_H) (H : Heap) : Prop :=
  va_P D vwCl (pm_ws ad cA h) H ∧ va_D A (pm_ws ad cA h) ∧ ∀ j : Nat, ad (16 + h.length + j) = H.size + j
theorem pm_cell_some {h : pm_H} {a : Nat} {c : pm_C} (hc : pm_cell h a = some c) : ∃ k, a = 16 + k ∧ a - 16 = k ∧ h[k]? = some c := by
  unfold pm_cell at hc
  cases hb : Nat.blt a 16 with
  | true => rw [hb] at hc; cases hc
  | false =>
    rw [hb, cond_false, pm_nth_eq] at hc
    have h16 : ¬ a < 16 := fun q => by
      have : Nat.blt a 16 = true := Nat.ble_eq_true_of_le q
      rw [this] at hb; cases hb
    exact ⟨a - 16, by omega, rfl, hc⟩
/-- the size of the heap when the cells that were made are counted -/
theorem pm_up {p : Program} {l : Launch} {e : Env} {R : Room} {s : State} {m : MethodId} {args : Array Value} {below : List Frame} {meth : Method} {c : Code} {H : Heap} {locs : List Loc} {cells slots : Nat} {Q : State → Prop} {g : JFrame} (k : H.size ≤ s.heap.size + cells → W p l e R s m args below meth c H locs cells slots Q g) : W p l e R s m args below meth c H locs cells slots Q g :=
  fun T hT X => k (by rw [← hT]; exact X.heapSize) T hT X
theorem pm_S_trans {A : Nat → Prop} {H0 H H1 : Heap} {L L1 : List Loc} (h : va_S A H0 H L) (h1 : va_S A H H1 L1) : va_S A H0 H1 L1 :=
  ⟨Nat.le_trans h.1 h1.1, fun q hq hA => (h1.2.1 q (Nat.lt_of_lt_of_le hq h.1) hA).trans (h.2.1 q hq hA), h1.2.2⟩
theorem pm_S_self {A : Nat → Prop} {H0 H : Heap} {L : List Loc} (h : va_S A H0 H L) : va_S A H H L := ⟨Nat.le_refl _, fun _ _ _ => rfl, h.2.2⟩
/-- a store: the same cells, one changed; the heap's size is the old one -/
theorem pm_rel.stored {D : va_G} {cA : Nat → ClassId} {A : Nat → Prop} {ad : Nat → Nat} {h : pm_H} {H H1 : Heap} {k : Nat} {c : pm_C} (hr : pm_rel D cA A ad h H) (hk : k < h.length) (hP : va_P D vwCl ((pm_ws ad cA h).set k (ad (16 + k), pm_re ad cA c)) H1) (hD : va_D A ((pm_ws ad cA h).set k (ad (16 + k), pm_re ad cA c))) (hz : H1.size = H.size) : pm_rel D cA A ad (h.set k c) H1 := by
  rw [← pm_ws_set hk] at hP hD
  exact ⟨hP, hD, fun j => by rw [List.length_set, hz]; exact hr.2.2 j⟩
/-- a new cell at the heap's end -/
theorem pm_rel.made {D : va_G} {cA : Nat → ClassId} {A : Nat → Prop} {ad : Nat → Nat} {h : pm_H} {H H1 : Heap} {c : pm_C} (hr : pm_rel D cA A ad h H) (hA : A H.size) (hz : H1.size = H.size + 1) (ho : ∀ q, q < H.size → H1[q]? = H[q]?) (hc : va_at D vwCl (H.size, pm_re ad cA c) H1) : pm_rel D cA A ad (h ++ [c]) H1 := by
  have ha : ad (16 + h.length) = H.size := hr.2.2 0
  refine ⟨?_, ?_, fun j => ?_⟩
  · rw [pm_ws_push, ha]
    refine (hr.1.kept fun k x hx => ho x.1 ((hr.1 k x hx).lt)).app (fun k x hx => ?_)
    have hk : k < 1 := (List.getElem?_eq_some_iff.mp hx).1
    rw [show k = 0 by omega] at hx
    cases hx
    exact hc
  · rw [pm_ws_push, ha]
    exact hr.2.1.push hr.1 rfl hA
  · rw [List.length_append]
    have := hr.2.2 (j + 1)
    show ad (16 + (h.length + 1) + j) = _
    rw [show 16 + (h.length + 1) + j = 16 + h.length + (j + 1) by omega, this, hz]
    omega
theorem pm_row_own {X : List (Nat × List Value)} {h : pm_H} {a t : Nat} {l : List Value} (hr : pm_row X h a = some (t, l)) : (a < 16 ∧ X[a]? = some (t, l) ∧ t = 0) ∨ ∃ k, a = 16 + k ∧ h[k]? = some (.inl (t, l)) := by
  unfold pm_row at hr
  cases hb : Nat.blt a 16 with
  | true =>
    rw [hb, cond_true] at hr
    split at hr
    · rename_i q hq
      rw [pm_nth_eq] at hq
      cases h0 : Nat.beq q.1 0 with
      | false => rw [h0] at hr; cases hr
      | true =>
        rw [h0, cond_true] at hr
        cases hr
        exact Or.inl ⟨Nat.le_of_ble_eq_true hb, hq, Nat.eq_of_beq_eq_true h0⟩
    · cases hr
  | false =>
    rw [hb, cond_false] at hr
    have h16 : ¬ a < 16 := fun q => by
      have : Nat.blt a 16 = true := Nat.ble_eq_true_of_le q
      rw [this] at hb; cases hb
    split at hr
    · rename_i q hq
      rw [pm_nth_eq] at hq
      cases hr
      exact Or.inr ⟨a - 16, by omega, hq⟩
    · cases hr
theorem pm_len_lt {α : Type} {l : List α} {k : Nat} {a : α} (h : l[k]? = some a) : k < l.length := (List.getElem?_eq_some_iff.mp h).1
theorem pm_in_of {i : Int32} {n : Nat} (h : pm_in i n = true) : vp_in i n := by
  unfold pm_in at h
  by_cases hi : i < 0
  · rw [decide_eq_true hi] at h; cases h
  · rw [decide_eq_false hi, cond_false] at h
    have h2 : i.toNatClampNeg < n := Nat.le_of_ble_eq_true h
    rintro (q | q)
    · exact hi q
    · omega
theorem pm_in_lt {i : Int32} {n : Nat} (h : pm_in i n = true) : i.toNatClampNeg < n := by
  unfold pm_in at h
  by_cases hi : i < 0
  · rw [decide_eq_true hi] at h; cases h
  · rw [decide_eq_false hi, cond_false] at h
    exact Nat.le_of_ble_eq_true h
theorem pm_upI (l : List Value) (j : Nat) (x : Int32) (hj : j < l.length) : upd (fun j => pm_iv (l.getD j .null)) j x = fun k => pm_iv ((l.set j (.int x)).getD k .null) := by
  funext k
  unfold upd
  by_cases hk : k = j
  · subst hk
    simp [List.getD_eq_getElem?_getD, List.getElem?_set_self hj, pm_iv]
  · simp [List.getD_eq_getElem?_getD, List.getElem?_set_ne (Ne.symm hk), hk]
theorem pm_upL (l : List Value) (j : Nat) (x : Int64) (hj : j < l.length) : vp_updL (fun j => pm_gv (l.getD j .null)) j x = fun k => pm_gv ((l.set j (.long x)).getD k .null) := by
  funext k
  unfold vp_updL
  by_cases hk : k = j
  · subst hk
    simp [List.getD_eq_getElem?_getD, List.getElem?_set_self hj, pm_gv]
  · simp [List.getD_eq_getElem?_getD, List.getElem?_set_ne (Ne.symm hk), hk]
theorem pm_upQ (ad : Nat → Nat) (l : List Value) (j x : Nat) (hj : j < l.length) : va_up (fun j => pm_qv ad (l.getD j .null)) j (some (ad x)) = fun k => pm_qv ad ((l.set j (.ref x)).getD k .null) := by
  funext k
  unfold va_up
  by_cases hk : k = j
  · subst hk
    simp [List.getD_eq_getElem?_getD, List.getElem?_set_self hj, pm_qv]
  · simp [List.getD_eq_getElem?_getD, List.getElem?_set_ne (Ne.symm hk), hk]
theorem pm_getI {l : List Value} {j : Nat} {x : Int32} (h : l[j]? = some (.int x)) : pm_iv (l.getD j .null) = x := by simp [List.getD_eq_getElem?_getD, h, pm_iv]
theorem pm_getL {l : List Value} {j : Nat} {x : Int64} (h : l[j]? = some (.long x)) : pm_gv (l.getD j .null) = x := by simp [List.getD_eq_getElem?_getD, h, pm_gv]
theorem pm_getQ {ad : Nat → Nat} {l : List Value} {j x : Nat} (h : l[j]? = some (.ref x)) : pm_qv ad (l.getD j .null) = some (ad x) := by simp [List.getD_eq_getElem?_getD, h, pm_qv]
theorem pm_cpy_get (src dst : List Value) (sp dp n k : Nat) (hs : sp + n ≤ src.length) (hd : dp + n ≤ dst.length) : (pm_cpy src dst sp dp n)[k]? = if dp ≤ k ∧ k < dp + n then src[sp + (k - dp)]? else dst[k]? := by
  unfold pm_cpy
  have e1 : (dst.take dp).length = dp := by rw [List.length_take]; omega
  have e2 : ((src.drop sp).take n).length = n := by rw [List.length_take, List.length_drop]; omega
  by_cases h1 : k < dp
  · rw [List.getElem?_append_left (by omega), List.getElem?_take_of_lt h1, if_neg (by omega)]
  · rw [List.getElem?_append_right (by omega), e1]
    by_cases h2 : k < dp + n
    · rw [List.getElem?_append_left (by omega), List.getElem?_take_of_lt (by omega), List.getElem?_drop, if_pos ⟨by omega, h2⟩]
    · rw [List.getElem?_append_right (by omega), e2, List.getElem?_drop, if_neg (by omega)]
      congr 1
      omega
theorem pm_cpy_len (src dst : List Value) (sp dp n : Nat) (hs : sp + n ≤ src.length) (hd : dp + n ≤ dst.length) : (pm_cpy src dst sp dp n).length = dst.length := by
  unfold pm_cpy
  simp only [List.length_append, List.length_take, List.length_drop]
  omega
theorem pm_cpyF {α : Type} (f : Value → α) (src dst : List Value) (sp dp n : Nat) (hs : sp + n ≤ src.length) (hd : dp + n ≤ dst.length) : va_cpy (fun j => f (src.getD j .null)) (fun j => f (dst.getD j .null)) sp dp n = fun k => f ((pm_cpy src dst sp dp n).getD k .null) := by
  funext k
  unfold va_cpy
  simp only [List.getD_eq_getElem?_getD]
  rw [pm_cpy_get _ _ _ _ _ _ hs hd]
  split <;> rfl
