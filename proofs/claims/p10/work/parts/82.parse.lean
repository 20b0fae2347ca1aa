/-! the model (printed by wip/tool/mall.py) -/
/-! what the parser of the model keeps (the model's law and writer) -/
/-- the code from L on, n codes of it, leaves t numbers on the pile -/
def pw_D (h : pm_H) (L : Nat) : Nat → Int → Prop
  | 0, t => t = 0
  | n + 1, t => (pw_g h 146 (L + n) = 1 ∧ pw_D h L n (t - 1)) ∨ (pw_g h 146 (L + n) = 2 ∧ 0 ≤ pw_g h 147 (L + n) ∧ pw_g h 147 (L + n) ≤ 9 ∧ pw_D h L n (t - 1)) ∨ (pw_g h 146 (L + n) = 3 ∧ 1 ≤ t ∧ pw_D h L n t) ∨ (4 ≤ pw_g h 146 (L + n) ∧ 1 ≤ t ∧ pw_D h L n (t + 1))
theorem pw_D.cg {h h' : pm_H} {L L' : Nat} : ∀ {n : Nat} {t : Int}, (∀ j : Nat, j < n → pw_g h' 146 (L' + j) = pw_g h 146 (L + j) ∧ pw_g h' 147 (L' + j) = pw_g h 147 (L + j)) → pw_D h L n t → pw_D h' L' n t := by
  intro n
  induction n with
  | zero => intro t _ H; exact H
  | succ n ih =>
    intro t hc H
    obtain ⟨e1, e2⟩ := hc n (Nat.lt_succ_self n)
    have hc' := fun j (hj : j < n) => hc j (Nat.lt_succ_of_lt hj)
    unfold pw_D at H ⊢
    rw [e1, e2]
    rcases H with ⟨a, b⟩ | ⟨a, b, c, d⟩ | ⟨a, b, c⟩ | ⟨a, b, c⟩
    · exact Or.inl ⟨a, ih hc' b⟩
    · exact Or.inr (Or.inl ⟨a, b, c, ih hc' d⟩)
    · exact Or.inr (Or.inr (Or.inl ⟨a, b, ih hc' c⟩))
    · exact Or.inr (Or.inr (Or.inr ⟨a, b, ih hc' c⟩))
theorem pw_D.le {h : pm_H} {L : Nat} : ∀ {n : Nat} {t : Int}, pw_D h L n t → 0 ≤ t ∧ t ≤ n := by
  intro n
  induction n with
  | zero => intro t H; unfold pw_D at H; omega
  | succ n ih =>
    intro t H
    unfold pw_D at H
    rcases H with ⟨a, b⟩ | ⟨a, b, c, d⟩ | ⟨a, b, c⟩ | ⟨a, b, c⟩
    · have := ih b; omega
    · have := ih d; omega
    · have := ih c; omega
    · have := ih c; omega
theorem pw_D.un {h : pm_H} {L : Nat} : ∀ {n : Nat} {t t' : Int}, pw_D h L n t → pw_D h L n t' → t = t' := by
  intro n
  induction n with
  | zero => intro t t' H H'; unfold pw_D at H H'; omega
  | succ n ih =>
    intro t t' H H'
    unfold pw_D at H H'
    rcases H with ⟨a, b⟩ | ⟨a, -, -, b⟩ | ⟨a, -, b⟩ | ⟨a, -, b⟩ <;> rcases H' with ⟨a', b'⟩ | ⟨a', -, -, b'⟩ | ⟨a', -, b'⟩ | ⟨a', -, b'⟩ <;> first | omega | (have := ih b b'; omega)
theorem pw_D.dn {h : pm_H} {L : Nat} : ∀ {n : Nat} {t : Int}, pw_D h L n t → ∀ j : Nat, j ≤ n → ∃ t', pw_D h L j t' := by
  intro n
  induction n with
  | zero => intro t H j hj; exact ⟨t, by rw [Nat.le_zero.mp hj]; exact H⟩
  | succ n ih =>
    intro t H j hj
    rcases Nat.lt_or_ge n j with hl | hl
    · exact ⟨t, by rw [show j = n + 1 by omega]; exact H⟩
    · unfold pw_D at H
      rcases H with ⟨a, b⟩ | ⟨a, -, -, b⟩ | ⟨a, -, b⟩ | ⟨a, -, b⟩ <;> exact ih b j hl
/-- the tokens end at n, and the parser has not gone past them -/
def pw_A (n : Nat) (h : pm_H) : Prop := n ≤ 1000 ∧ pw_g h 127 n = 0 ∧ pw_g h 125 7 ≤ n ∧ 0 ≤ pw_g h 125 8 ∧ 0 ≤ pw_g h 125 7 ∧ 0 ≤ pw_g h 125 32
def pw_Q (e : Int) (h h' : pm_H) : Prop := (pw_g h' 125 8 = 0 → pw_g h 125 8 = 0) ∧ pw_g h 125 7 ≤ pw_g h' 125 7 ∧ pw_g h 125 32 ≤ pw_g h' 125 32 ∧ pw_g h 125 7 - pw_g h 125 32 + e ≤ pw_g h' 125 7 - pw_g h' 125 32 ∧ 0 ≤ pw_g h 125 32 ∧ ∀ j : Nat, ((j : Int) < 4400 + pw_g h 125 32 ∨ 5500 ≤ j) → pw_g h' 146 j = pw_g h 146 j ∧ pw_g h' 147 j = pw_g h 147 j
def pw_DD (r u : Int) (h h' : pm_H) : Prop := pw_g h' 125 8 = 0 → ∀ (L : Nat) (t : Int), (L : Int) ≤ pw_g h 125 32 → r ≤ t → pw_D h (4400 + L) ((pw_g h 125 32).toNat - L) t → pw_D h' (4400 + L) ((pw_g h' 125 32).toNat - L) (t + u)
def pw_R (e r u : Int) (h h' : pm_H) : Prop := pw_Q e h h' ∧ pw_DD r u h h'
theorem pw_Q.tr {e1 e2 e3 : Int} {a b c : pm_H} (h1 : pw_Q e1 a b) (h2 : pw_Q e2 b c) (he : e3 ≤ e1 + e2) : pw_Q e3 a c := by
  obtain ⟨x1, x2, x3, x4, x5, x6⟩ := h1
  obtain ⟨y1, y2, y3, y4, y5, y6⟩ := h2
  refine ⟨fun q => x1 (y1 q), by omega, by omega, by omega, x5, fun j hj => ?_⟩
  obtain ⟨z1, z2⟩ := x6 j hj
  obtain ⟨w1, w2⟩ := y6 j (by omega)
  exact ⟨w1.trans z1, w2.trans z2⟩
theorem pw_R.tr {e1 e2 e3 r1 r2 u1 u2 u3 : Int} {a b c : pm_H} (h1 : pw_R e1 r1 u1 a b) (h2 : pw_R e2 r2 u2 b c) (he : e3 ≤ e1 + e2) (hr : r2 ≤ r1 + u1) (hu : u3 = u1 + u2) : pw_R e3 r1 u3 a c := by
  refine ⟨h1.1.tr h2.1 he, fun q L t hL ht hD => ?_⟩
  have hb : pw_g b 125 8 = 0 := h2.1.1 q
  have := h2.2 q L (t + u1) (by have := h1.1.2.2.1; omega) (by omega) (h1.2 hb L t hL ht hD)
  rw [hu, ← Int.add_assoc]
  exact this
theorem pw_R.bad {e r u u' : Int} {a b : pm_H} (h1 : pw_R e r u a b) (hb : pw_g b 125 8 ≠ 0) : pw_R e r u' a b := ⟨h1.1, fun q => absurd q hb⟩
theorem pw_R.rf {h : pm_H} (h0 : 0 ≤ pw_g h 125 32) : pw_R 0 0 0 h h := ⟨⟨fun q => q, Int.le_refl _, Int.le_refl _, by omega, h0, fun _ _ => ⟨rfl, rfl⟩⟩, fun _ L t _ _ hD => by rw [Int.add_zero]; exact hD⟩
/-- nothing of the code has changed -/
theorem pw_R.same {e : Int} {h h' : pm_H} (he : 0 ≤ e) (h0 : 0 ≤ pw_g h 125 32) (h8 : pw_g h' 125 8 = 0 → pw_g h 125 8 = 0) (h7 : pw_g h' 125 7 = pw_g h 125 7 + e) (hc : pw_g h' 125 32 = pw_g h 125 32) (ho : ∀ j, pw_g h' 146 j = pw_g h 146 j) (ha : ∀ j, pw_g h' 147 j = pw_g h 147 j) : pw_R e 0 0 h h' := by
  refine ⟨⟨h8, by omega, by omega, by omega, h0, fun j _ => ⟨ho _, ha _⟩⟩, fun _ L t _ _ hD => ?_⟩
  rw [Int.add_zero, hc]
  exact pw_D.cg (fun j _ => ⟨ho _, ha _⟩) hD
/-- one code more -/
theorem pw_Q.emit {h h' : pm_H} (h9 : pw_g h 125 32 < 1100) (h0 : 0 ≤ pw_g h 125 32) (h8 : pw_g h' 125 8 = pw_g h 125 8) (h7 : pw_g h' 125 7 = pw_g h 125 7) (hc : pw_g h' 125 32 = pw_g h 125 32 + 1) (hu : ∀ j : Nat, j ≠ (4400 + pw_g h 125 32).toNat → pw_g h' 146 j = pw_g h 146 j ∧ pw_g h' 147 j = pw_g h 147 j) : pw_Q (-1) h h' :=
  ⟨fun q => by omega, by omega, by omega, by omega, h0, fun j hj => hu _ (by omega)⟩
theorem pw_R.emit {r u c : Int} {h h' : pm_H} (hk : (u = 1 ∧ r = 0 ∧ (c = 1 ∨ (c = 2 ∧ 0 ≤ pw_g h' 147 (4400 + pw_g h 125 32).toNat ∧ pw_g h' 147 (4400 + pw_g h 125 32).toNat ≤ 9))) ∨ (u = 0 ∧ r = 1 ∧ c = 3) ∨ (u = -1 ∧ r = 2 ∧ 4 ≤ c)) (h9 : pw_g h 125 32 < 1100) (h0 : 0 ≤ pw_g h 125 32) (h8 : pw_g h' 125 8 = pw_g h 125 8) (h7 : pw_g h' 125 7 = pw_g h 125 7) (hc : pw_g h' 125 32 = pw_g h 125 32 + 1) (ho : pw_g h' 146 (4400 + pw_g h 125 32).toNat = c) (hu : ∀ j : Nat, j ≠ (4400 + pw_g h 125 32).toNat → pw_g h' 146 j = pw_g h 146 j ∧ pw_g h' 147 j = pw_g h 147 j) : pw_R (-1) r u h h' := by
  refine ⟨pw_Q.emit h9 h0 h8 h7 hc hu, fun _ L t hL hr hD => ?_⟩
  have e1 : (pw_g h' 125 32).toNat - L = ((pw_g h 125 32).toNat - L) + 1 := by omega
  have e2 : (4400 + L) + ((pw_g h 125 32).toNat - L) = (4400 + pw_g h 125 32).toNat := by omega
  have hD' : pw_D h' (4400 + L) ((pw_g h 125 32).toNat - L) t := pw_D.cg (fun j hj => hu _ (by omega)) hD
  rw [e1]
  unfold pw_D
  rw [e2, ho]
  rcases hk with ⟨rfl, rfl, rfl | ⟨rfl, ha, hb⟩⟩ | ⟨rfl, rfl, rfl⟩ | ⟨rfl, rfl, hc4⟩
  · exact Or.inl ⟨rfl, by rw [Int.add_sub_cancel]; exact hD'⟩
  · exact Or.inr (Or.inl ⟨rfl, ha, hb, by rw [Int.add_sub_cancel]; exact hD'⟩)
  · exact Or.inr (Or.inr (Or.inl ⟨rfl, by omega, by rw [Int.add_zero]; exact hD'⟩))
  · exact Or.inr (Or.inr (Or.inr ⟨hc4, by omega, by rw [show t + -1 + 1 = t by omega]; exact hD'⟩))
theorem pw_R.wk {e e' r u : Int} {a b : pm_H} (h1 : pw_R e r u a b) (he : e' ≤ e) : pw_R e' r u a b := ⟨⟨h1.1.1, h1.1.2.1, h1.1.2.2.1, by have := h1.1.2.2.2.1; omega, h1.1.2.2.2.2⟩, h1.2⟩
theorem pw_A.lt {n : Nat} {h : pm_H} (A : pw_A n h) (hs : pw_g h 127 (pw_g h 125 7).toNat ≠ 0) : pw_g h 125 7 < n := by
  obtain ⟨a1, a2, a3, a4, a5, a6⟩ := A
  rcases (by omega : pw_g h 125 7 < n ∨ (n : Int) ≤ pw_g h 125 7) with hl | hl
  · exact hl
  · exact absurd (by rw [show (pw_g h 125 7).toNat = n by omega]; exact a2) hs
/-- a line's code: it leaves one number, and ends -/
def pw_Ln (h : pm_H) (b : Nat) (L : Int) (top : Int) : Prop := ∃ n : Nat, L + n < top ∧ pw_D h (b + L.toNat) n 1 ∧ pw_g h 146 (b + L.toNat + n) = 0
theorem pw_Ln.q {e : Int} {h h' : pm_H} {L : Int} (q : pw_Q e h h') (h0 : 0 ≤ L) (H : pw_Ln h 4400 L (pw_g h 125 32)) : pw_Ln h' 4400 L (pw_g h' 125 32) := by
  obtain ⟨n, h1, h2, h3⟩ := H
  obtain ⟨x1, x2, x3, x4, x5, x6⟩ := q
  refine ⟨n, by omega, pw_D.cg (fun j hj => x6 _ (by omega)) h2, ?_⟩
  rw [(x6 _ (by omega)).1]
  exact h3
/-- the line whose code has just ended -/
theorem pw_Ln.end {e r : Int} {a b c : pm_H} (h0 : 0 ≤ pw_g a 125 32) (hr : r ≤ 0) (R : pw_R e r 1 a b) (hz : pw_g b 125 8 = 0) (hc : pw_g c 125 32 = pw_g b 125 32 + 1) (ho : pw_g c 146 (4400 + pw_g b 125 32).toNat = 0) (hu : ∀ j : Nat, j ≠ (4400 + pw_g b 125 32).toNat → pw_g c 146 j = pw_g b 146 j ∧ pw_g c 147 j = pw_g b 147 j) : pw_Ln c 4400 (pw_g a 125 32) (pw_g c 125 32) := by
  obtain ⟨x1, x2, x3, x4, x5, x6⟩ := R.1
  have hD := R.2 hz (pw_g a 125 32).toNat 0 (by omega) hr (by rw [Nat.sub_self]; exact rfl)
  refine ⟨(pw_g b 125 32).toNat - (pw_g a 125 32).toNat, by omega, pw_D.cg (fun j hj => hu _ (by omega)) hD, ?_⟩
  rw [show 4400 + (pw_g a 125 32).toNat + ((pw_g b 125 32).toNat - (pw_g a 125 32).toNat) = (4400 + pw_g b 125 32).toNat by omega]
  exact ho
/-- one step of a kept code -/
theorem pw_D.st {h : pm_H} {L n j : Nat} {t t1 : Int} (H : pw_D h L n t1) (hj : j < n) (hD : pw_D h L j t) : ((pw_g h 146 (L + j) = 1 ∨ (pw_g h 146 (L + j) = 2 ∧ 0 ≤ pw_g h 147 (L + j) ∧ pw_g h 147 (L + j) ≤ 9)) ∧ pw_D h L (j + 1) (t + 1)) ∨ (pw_g h 146 (L + j) = 3 ∧ 1 ≤ t ∧ pw_D h L (j + 1) t) ∨ (4 ≤ pw_g h 146 (L + j) ∧ 2 ≤ t ∧ pw_D h L (j + 1) (t - 1)) := by
  obtain ⟨t2, H2⟩ := H.dn (j + 1) hj
  have H3 := H2
  unfold pw_D at H3
  rcases H3 with ⟨a, b⟩ | ⟨a, c, d, b⟩ | ⟨a, c, b⟩ | ⟨a, c, b⟩
  · have e := hD.un b
    exact Or.inl ⟨Or.inl a, by rw [show t + 1 = t2 by omega]; exact H2⟩
  · have e := hD.un b
    exact Or.inl ⟨Or.inr ⟨a, c, d⟩, by rw [show t + 1 = t2 by omega]; exact H2⟩
  · have e := hD.un b
    exact Or.inr (Or.inl ⟨a, by omega, by rw [e]; exact H2⟩)
  · have e := hD.un b
    exact Or.inr (Or.inr ⟨a, by omega, by rw [show t - 1 = t2 by omega]; exact H2⟩)
/-- what stands of the laws and the writers that are kept -/
def pw_K (h : pm_H) : Prop := (∀ l k : Nat, l < 4 → k < 4 → pw_g h 145 (4 * l + k) < 0 ∨ pw_Ln h (1100 * l) (pw_g h 145 (4 * l + k)) 1100) ∧ ∀ i : Nat, i < 4 → pw_g h 157 i < 0 ∨ pw_Ln h (1100 * (5 + i)) (pw_g h 157 i) 1100
/-- the lines read so far -/
def pw_Ls (h : pm_H) : Prop := ∀ k : Nat, k < 4 → pw_g h 145 (16 + k) < 0 ∨ pw_Ln h 4400 (pw_g h 145 (16 + k)) (pw_g h 125 32)
theorem pw_Ln.cg {h h' : pm_H} {b b' : Nat} {L top top' : Int} (h0 : 0 ≤ L) (H : pw_Ln h b L top) (ht : top ≤ top') (hc : ∀ j : Nat, (j : Int) < top → pw_g h' 146 (b' + j) = pw_g h 146 (b + j) ∧ pw_g h' 147 (b' + j) = pw_g h 147 (b + j)) : pw_Ln h' b' L top' := by
  obtain ⟨n, h1, h2, h3⟩ := H
  refine ⟨n, by omega, pw_D.cg (fun j hj => ?_) h2, ?_⟩
  · have := hc (L.toNat + j) (by omega)
    rw [Nat.add_assoc, Nat.add_assoc]
    exact this
  · have := hc (L.toNat + n) (by omega)
    rw [Nat.add_assoc, this.1, ← Nat.add_assoc]
    exact h3
theorem pw_K.cg {h h' : pm_H} (H : pw_K h) (h5 : ∀ j, pw_g h' 145 j = pw_g h 145 j) (h6 : ∀ j, pw_g h' 146 j = pw_g h 146 j) (h7 : ∀ j, pw_g h' 147 j = pw_g h 147 j) (h8 : ∀ j, pw_g h' 157 j = pw_g h 157 j) : pw_K h' := by
  refine ⟨fun l k hl hk => ?_, fun i hi => ?_⟩
  · rw [h5]
    rcases Int.lt_or_le (pw_g h 145 (4 * l + k)) 0 with hz | hz
    · exact Or.inl hz
    · exact Or.inr (((H.1 l k hl hk).resolve_left (by omega)).cg hz (Int.le_refl _) (fun j _ => ⟨h6 _, h7 _⟩))
  · rw [h8]
    rcases Int.lt_or_le (pw_g h 157 i) 0 with hz | hz
    · exact Or.inl hz
    · exact Or.inr (((H.2 i hi).resolve_left (by omega)).cg hz (Int.le_refl _) (fun j _ => ⟨h6 _, h7 _⟩))
/-- what is written is what was there -/
theorem pw_w_id {h : pm_H} {c k : Nat} {v : Value} (ha : pw_at h c k = some v) : pw_w h c k v = h := by
  unfold pw_at at ha
  unfold pw_w
  cases hq : h[c]? with
  | none => rfl
  | some q =>
    rw [hq] at ha
    obtain ⟨hc, hg⟩ := List.getElem?_eq_some_iff.mp hq
    match q, ha, hg with
    | .inl (t, l), ha, hg =>
      obtain ⟨hk, hv⟩ := List.getElem?_eq_some_iff.mp (show l[k]? = some v from ha)
      show h.set c (.inl (t, l.set k v)) = h
      rw [← hv, List.set_getElem_self, ← hg, List.set_getElem_self]
    | .inr (t, l), ha, hg =>
      obtain ⟨hk, hv⟩ := List.getElem?_eq_some_iff.mp (show l[k]? = some v from ha)
      show h.set c (.inr (t, l.set k v)) = h
      rw [← hv, List.set_getElem_self, ← hg, List.set_getElem_self]
theorem pw_atI {h : pm_H} {c ci k : Nat} {sps : List pw_F} {lo hi : Int} (I : pw_I h) (hs : pw_T[c]? = some (.inr (ci, sps))) (hk : sps[k]? = some (0, lo, hi)) : pw_at h c k = some (pw_i (pw_g h c k)) := by
  obtain ⟨fs, v, h1, h2, h3, a, rfl, h4, h5, h6, h7⟩ := pw_fld I hs hk
  have e : pw_g h c k = a := by unfold pw_g; rw [h3, pw_iv_i h6 h7]
  rw [e, h3]
/-- a code that can be run from f on -/
def pw_Wk (h : pm_H) (f : Int) : Prop := ∃ n : Nat, n < 1100 ∧ f + n < 9900 ∧ pw_D h f.toNat n 1 ∧ pw_g h 146 (f.toNat + n) = 0
theorem pw_KE {W : List Nat} {h h' : pm_H} (I : pw_I h) (E : pw_E W h h') (H : pw_K h) (hn : (W.contains 145 || (W.contains 146 || (W.contains 147 || W.contains 157))) = false) : pw_K h' := by
  obtain ⟨h1, h2⟩ := Bool.or_eq_false_iff.mp hn
  obtain ⟨h2, h3⟩ := Bool.or_eq_false_iff.mp h2
  obtain ⟨h3, h4⟩ := Bool.or_eq_false_iff.mp h3
  exact H.cg (pw_Eg (c := 145) I E rfl h1) (pw_Eg (c := 146) I E rfl h2) (pw_Eg (c := 147) I E rfl h3) (pw_Eg (c := 157) I E rfl h4)
theorem pw_Wk.of1 {h : pm_H} {l li : Int} (K : pw_K h) (h1 : 0 ≤ l) (h2 : l ≤ 3) (h3 : 0 ≤ li) (h4 : li ≤ 3) (h5 : 0 ≤ pw_g h 145 (4 * l + li).toNat) : pw_Wk h (1100 * l + pw_g h 145 (4 * l + li).toNat) := by
  have H := K.1 l.toNat li.toNat (by omega) (by omega)
  rw [show 4 * l.toNat + li.toNat = (4 * l + li).toNat by omega] at H
  obtain ⟨n, a, b, c⟩ := H.resolve_left (by omega)
  generalize pw_g h 145 (4 * l + li).toNat = L at *
  have e : 1100 * l.toNat + L.toNat = (1100 * l + L).toNat := by omega
  rw [e] at b c
  exact ⟨n, by omega, by omega, b, c⟩
theorem pw_Wk.of2 {W : List Nat} {h h' : pm_H} {i : Int} (I : pw_I h) (E : pw_E W h h') (K : pw_K h) (hn : (W.contains 145 || (W.contains 146 || (W.contains 147 || W.contains 157))) = false) (h1 : 0 ≤ i) (h2 : i ≤ 3) (h5 : 0 ≤ pw_g h 157 i.toNat) : pw_Wk h' (1100 * (5 + i) + pw_g h' 157 i.toNat) := by
  have K' := pw_KE I E K hn
  obtain ⟨_, q2⟩ := Bool.or_eq_false_iff.mp hn
  obtain ⟨_, q3⟩ := Bool.or_eq_false_iff.mp q2
  obtain ⟨_, q4⟩ := Bool.or_eq_false_iff.mp q3
  rw [← pw_Eg (c := 157) I E rfl q4] at h5
  obtain ⟨n, a, b, c⟩ := (K'.2 i.toNat (by omega)).resolve_left (by omega)
  generalize pw_g h' 157 i.toNat = L at *
  have e : 1100 * (5 + i.toNat) + L.toNat = (1100 * (5 + i) + L).toNat := by omega
  rw [e] at b c
  exact ⟨n, by omega, by omega, b, c⟩
theorem pw_ceq {a b : Int64} {c : Int} (h : (c = -1 ∧ a < b) ∨ (c = 0 ∧ a = b) ∨ (c = 1 ∧ b < a)) (hc : c = 0) : a = b := by
  rcases h with ⟨h, _⟩ | ⟨_, h⟩ | ⟨h, _⟩
  · omega
  · exact h
  · omega
/-- k codes of the draft are kept in the part to -/
def pw_KC (h g : pm_H) (to k : Int) : Prop := (∀ j : Nat, (j : Int) < k → pw_g g 146 ((1100 * to).toNat + j) = pw_g h 146 (4400 + j) ∧ pw_g g 147 ((1100 * to).toNat + j) = pw_g h 147 (4400 + j)) ∧ ∀ j : Nat, ((j : Int) < 1100 * to ∨ 1100 * to + 1100 ≤ j) → pw_g g 146 j = pw_g h 146 j ∧ pw_g g 147 j = pw_g h 147 j
theorem pw_KC.rf {h : pm_H} {to : Int} : pw_KC h h to 0 := ⟨fun j hj => by omega, fun _ _ => ⟨rfl, rfl⟩⟩
theorem pw_KC.st {h g g1 g2 : pm_H} {to k : Int} (H : pw_KC h g to k) (I : pw_I g) (h0 : 0 ≤ to) (h1 : to ≤ 8) (h4 : to ≠ 4) (hk : 0 ≤ k) (hk2 : k < 1100) (w1 : pw_w g 146 (1100 * to + k).toNat (pw_i (pw_g g 146 (4400 + k).toNat)) = g1) (w2 : pw_w g1 147 (1100 * to + k).toNat (pw_i (pw_g g1 147 (4400 + k).toNat)) = g2) (I1 : pw_I g1) : pw_KC h g2 to (k + 1) := by
  have r1 := pw_gA (j := 4400 + k) I (c := 146) rfl (by decide) (by omega) (by omega)
  have r2 := pw_gA (j := 4400 + k) I1 (c := 147) rfl (by decide) (by omega) (by omega)
  have e1 : pw_g g1 146 (1100 * to + k).toNat = pw_g g 146 (4400 + k).toNat := by rw [← w1]; exact pw_g_eqA I rfl (by omega) (by omega) (by omega)
  have e2 : pw_g g2 147 (1100 * to + k).toNat = pw_g g1 147 (4400 + k).toNat := by rw [← w2]; exact pw_g_eqA I1 rfl (by omega) (by omega) (by omega)
  have n1 : ∀ j : Nat, j ≠ (1100 * to + k).toNat → pw_g g2 146 j = pw_g g 146 j := fun j hj => by
    rw [← w2, pw_g_ne (by omega), ← w1, pw_g_ne (fun q => hj q.2.symm)]
  have n2 : ∀ j : Nat, j ≠ (1100 * to + k).toNat → pw_g g2 147 j = pw_g g 147 j := fun j hj => by
    rw [← w2, pw_g_ne (fun q => hj q.2.symm), ← w1, pw_g_ne (by omega)]
  have e3 : pw_g g2 146 (1100 * to + k).toNat = pw_g g 146 (4400 + k).toNat := by rw [← w2, pw_g_ne (by omega)]; exact e1
  have e4 : pw_g g1 147 (4400 + k).toNat = pw_g g 147 (4400 + k).toNat := by rw [← w1, pw_g_ne (by omega)]
  refine ⟨fun j hj => ?_, fun j hj => ?_⟩
  · rcases (by omega : (j : Int) = k ∨ (j : Int) < k) with hq | hq
    · have a1 : (1100 * to).toNat + j = (1100 * to + k).toNat := by omega
      have a2 : 4400 + j = (4400 + k).toNat := by omega
      have q := H.2 (4400 + k).toNat (by omega)
      rw [a1, a2, e3, e2, e4]
      exact q
    · rw [n1 _ (by omega), n2 _ (by omega)]
      exact H.1 j hq
  · rw [n1 _ (by omega), n2 _ (by omega)]
    exact H.2 j hj
theorem pw_K.of {h g : pm_H} (K : pw_K h) (h5 : ∀ j : Nat, j < 16 → pw_g g 145 j = pw_g h 145 j) (h6 : ∀ j : Nat, (j < 4400 ∨ 5500 ≤ j) → pw_g g 146 j = pw_g h 146 j ∧ pw_g g 147 j = pw_g h 147 j) (h7 : ∀ j, pw_g g 157 j = pw_g h 157 j) : pw_K g := by
  refine ⟨fun l k hl hk => ?_, fun i hi => ?_⟩
  · rw [h5 _ (by omega)]
    rcases Int.lt_or_le (pw_g h 145 (4 * l + k)) 0 with hz | hz
    · exact Or.inl hz
    · exact Or.inr (((K.1 l k hl hk).resolve_left (by omega)).cg hz (Int.le_refl _) (fun j hj => h6 _ (by omega)))
  · rw [h7]
    rcases Int.lt_or_le (pw_g h 157 i) 0 with hz | hz
    · exact Or.inl hz
    · exact Or.inr (((K.2 i hi).resolve_left (by omega)).cg hz (Int.le_refl _) (fun j hj => h6 _ (by omega)))
/-- a law is kept -/
theorem pw_K.law {h g : pm_H} {l : Int} (K : pw_K h) (h0 : 0 ≤ l) (h3 : l ≤ 3) (hL : pw_Ls h) (hc : pw_g h 125 32 ≤ 1100) (h5 : ∀ k : Nat, k < 4 → pw_g g 145 ((4 * l).toNat + k) = pw_g h 145 (16 + k)) (h6 : ∀ j : Nat, j < 16 → ((j : Int) < 4 * l ∨ 4 * l + 4 ≤ j) → pw_g g 145 j = pw_g h 145 j) (h7 : pw_KC h g l (pw_g h 125 32)) (h8 : ∀ j, pw_g g 157 j = pw_g h 157 j) : pw_K g := by
  refine ⟨fun l' k hl hk => ?_, fun i hi => ?_⟩
  · rcases (by omega : (l' : Int) = l ∨ (l' : Int) ≠ l) with hq | hq
    · have e : 4 * l' + k = (4 * l).toNat + k := by omega
      rw [e, h5 k hk]
      rcases Int.lt_or_le (pw_g h 145 (16 + k)) 0 with hz | hz
      · exact Or.inl hz
      · refine Or.inr (((hL k hk).resolve_left (by omega)).cg hz hc (fun j hj => ?_))
        rw [show 1100 * l' = (1100 * l).toNat by omega]
        exact h7.1 j hj
    · rw [h6 _ (by omega) (by omega)]
      rcases Int.lt_or_le (pw_g h 145 (4 * l' + k)) 0 with hz | hz
      · exact Or.inl hz
      · exact Or.inr (((K.1 l' k hl hk).resolve_left (by omega)).cg hz (Int.le_refl _) (fun j hj => h7.2 _ (by omega)))
  · rw [h8]
    rcases Int.lt_or_le (pw_g h 157 i) 0 with hz | hz
    · exact Or.inl hz
    · exact Or.inr (((K.2 i hi).resolve_left (by omega)).cg hz (Int.le_refl _) (fun j hj => h7.2 _ (by omega)))
/-- a writer is kept -/
theorem pw_K.wri {h g : pm_H} {i : Int} {L : Int} (K : pw_K h) (h0 : 0 ≤ i) (h3 : i ≤ 3) (hL : L < 0 ∨ pw_Ln h 4400 L (pw_g h 125 32)) (hc : pw_g h 125 32 ≤ 1100) (h5 : pw_g g 157 i.toNat = L) (h6 : ∀ j : Nat, j ≠ i.toNat → pw_g g 157 j = pw_g h 157 j) (h7 : pw_KC h g (5 + i) (pw_g h 125 32)) (h8 : ∀ j, pw_g g 145 j = pw_g h 145 j) : pw_K g := by
  refine ⟨fun l' k hl hk => ?_, fun i' hi => ?_⟩
  · rw [h8]
    rcases Int.lt_or_le (pw_g h 145 (4 * l' + k)) 0 with hz | hz
    · exact Or.inl hz
    · exact Or.inr (((K.1 l' k hl hk).resolve_left (by omega)).cg hz (Int.le_refl _) (fun j hj => h7.2 _ (by omega)))
  · rcases (by omega : i' = i.toNat ∨ i' ≠ i.toNat) with hq | hq
    · rw [hq, h5]
      rcases Int.lt_or_le L 0 with hz | hz
      · exact Or.inl hz
      · refine Or.inr ((hL.resolve_left (by omega)).cg hz hc (fun j hj => ?_))
        rw [show 1100 * (5 + i.toNat) = (1100 * (5 + i)).toNat by omega]
        exact h7.1 j hj
    · rw [h6 _ hq]
      rcases Int.lt_or_le (pw_g h 157 i') 0 with hz | hz
      · exact Or.inl hz
      · exact Or.inr (((K.2 i' hi).resolve_left (by omega)).cg hz (Int.le_refl _) (fun j hj => h7.2 _ (by omega)))
theorem pw_KC.cg {h h' g : pm_H} {to k : Int} (H : pw_KC h g to k) (ho : ∀ j, pw_g h 146 j = pw_g h' 146 j) (ha : ∀ j, pw_g h 147 j = pw_g h' 147 j) : pw_KC h' g to k := ⟨fun j hj => ⟨(H.1 j hj).1.trans (ho _), (H.1 j hj).2.trans (ha _)⟩, fun j hj => ⟨(H.2 j hj).1.trans (ho _), (H.2 j hj).2.trans (ha _)⟩⟩
/-- nothing has changed but the draft -/
def pw_O (h g : pm_H) : Prop := (∀ j : Nat, j < 16 → pw_g g 145 j = pw_g h 145 j) ∧ (∀ j : Nat, (j < 4400 ∨ 5500 ≤ j) → pw_g g 146 j = pw_g h 146 j ∧ pw_g g 147 j = pw_g h 147 j) ∧ ∀ j, pw_g g 157 j = pw_g h 157 j
theorem pw_O.tr {a b c : pm_H} (h1 : pw_O a b) (h2 : pw_O b c) : pw_O a c := ⟨fun j hj => (h2.1 j hj).trans (h1.1 j hj), fun j hj => ⟨((h2.2.1 j hj).1).trans (h1.2.1 j hj).1, ((h2.2.1 j hj).2).trans (h1.2.1 j hj).2⟩, fun j => (h2.2.2 j).trans (h1.2.2 j)⟩
theorem pw_O.q {e : Int} {a b : pm_H} (h0 : 0 ≤ pw_g a 125 32) (q : pw_Q e a b) (h5 : ∀ j : Nat, j < 16 → pw_g b 145 j = pw_g a 145 j) (h7 : ∀ j, pw_g b 157 j = pw_g a 157 j) : pw_O a b := ⟨h5, fun j hj => q.2.2.2.2.2 j (by omega), h7⟩
theorem pw_cp4 {h0 g1 g2 g3 g4 : pm_H} {l : Int} (h1 : 0 ≤ l) (h2 : l ≤ 3) (I0 : pw_I h0) (I1 : pw_I g1) (I2 : pw_I g2) (I3 : pw_I g3) (w1 : pw_w h0 145 (4 * l + 0).toNat (pw_i (pw_g h0 145 (16 + 0 : Int).toNat)) = g1) (w2 : pw_w g1 145 (4 * l + (0 + 1)).toNat (pw_i (pw_g g1 145 (16 + (0 + 1) : Int).toNat)) = g2) (w3 : pw_w g2 145 (4 * l + (0 + 1 + 1)).toNat (pw_i (pw_g g2 145 (16 + (0 + 1 + 1) : Int).toNat)) = g3) (w4 : pw_w g3 145 (4 * l + (0 + 1 + 1 + 1)).toNat (pw_i (pw_g g3 145 (16 + (0 + 1 + 1 + 1) : Int).toNat)) = g4) : (∀ k : Nat, k < 4 → pw_g g4 145 ((4 * l).toNat + k) = pw_g h0 145 (16 + k)) ∧ ∀ j : Nat, ((j : Int) < 4 * l ∨ 4 * l + 4 ≤ j) → pw_g g4 145 j = pw_g h0 145 j := by
  have r : ∀ {g : pm_H} {j : Int}, pw_I g → 0 ≤ j → j < 20 → -2147483648 ≤ pw_g g 145 j.toNat ∧ pw_g g 145 j.toNat ≤ 2147483647 := fun I a b => (pw_gA (c := 145) I rfl (by decide) a b).2.2
  have e1 : pw_g g1 145 (4 * l + 0).toNat = pw_g h0 145 (16 + 0 : Int).toNat := by rw [← w1]; exact pw_g_eqA I0 rfl (by omega) (r I0 (by omega) (by omega)).1 (r I0 (by omega) (by omega)).2
  have e2 : pw_g g2 145 (4 * l + (0 + 1)).toNat = pw_g g1 145 (16 + (0 + 1) : Int).toNat := by rw [← w2]; exact pw_g_eqA I1 rfl (by omega) (r I1 (by omega) (by omega)).1 (r I1 (by omega) (by omega)).2
  have e3 : pw_g g3 145 (4 * l + (0 + 1 + 1)).toNat = pw_g g2 145 (16 + (0 + 1 + 1) : Int).toNat := by rw [← w3]; exact pw_g_eqA I2 rfl (by omega) (r I2 (by omega) (by omega)).1 (r I2 (by omega) (by omega)).2
  have e4 : pw_g g4 145 (4 * l + (0 + 1 + 1 + 1)).toNat = pw_g g3 145 (16 + (0 + 1 + 1 + 1) : Int).toNat := by rw [← w4]; exact pw_g_eqA I3 rfl (by omega) (r I3 (by omega) (by omega)).1 (r I3 (by omega) (by omega)).2
  have n1 : ∀ j : Nat, j ≠ (4 * l + 0).toNat → pw_g g1 145 j = pw_g h0 145 j := fun j hj => by rw [← w1]; exact pw_g_ne (fun q => hj q.2.symm)
  have n2 : ∀ j : Nat, j ≠ (4 * l + (0 + 1)).toNat → pw_g g2 145 j = pw_g g1 145 j := fun j hj => by rw [← w2]; exact pw_g_ne (fun q => hj q.2.symm)
  have n3 : ∀ j : Nat, j ≠ (4 * l + (0 + 1 + 1)).toNat → pw_g g3 145 j = pw_g g2 145 j := fun j hj => by rw [← w3]; exact pw_g_ne (fun q => hj q.2.symm)
  have n4 : ∀ j : Nat, j ≠ (4 * l + (0 + 1 + 1 + 1)).toNat → pw_g g4 145 j = pw_g g3 145 j := fun j hj => by rw [← w4]; exact pw_g_ne (fun q => hj q.2.symm)
  refine ⟨fun k hk => ?_, fun j hj => ?_⟩
  · rcases (by omega : k = 0 ∨ k = 1 ∨ k = 2 ∨ k = 3) with rfl | rfl | rfl | rfl
    · rw [n4 _ (by omega), n3 _ (by omega), n2 _ (by omega), show (4 * l).toNat + 0 = (4 * l + 0).toNat by omega, e1]; rfl
    · rw [n4 _ (by omega), n3 _ (by omega), show (4 * l).toNat + 1 = (4 * l + (0 + 1)).toNat by omega, e2, n1 _ (by omega)]; rfl
    · rw [n4 _ (by omega), show (4 * l).toNat + 2 = (4 * l + (0 + 1 + 1)).toNat by omega, e3, n2 _ (by omega), n1 _ (by omega)]; rfl
    · rw [show (4 * l).toNat + 3 = (4 * l + (0 + 1 + 1 + 1)).toNat by omega, e4, n3 _ (by omega), n2 _ (by omega), n1 _ (by omega)]; rfl
  · rw [n4 _ (by omega), n3 _ (by omega), n2 _ (by omega), n1 _ (by omega)]
/-- a number's token has a value of at most four digits -/
def pw_NV (n : Nat) (h : pm_H) : Prop := ∀ j : Nat, j < n → pw_g h 127 j = 2 → 0 ≤ pw_gm h 129 j ∧ pw_gm h 129 j ≤ 9999
theorem pw_NV.E {W : List Nat} {n : Nat} {h h' : pm_H} (I : pw_I h) (E : pw_E W h h') (H : pw_NV n h) (hn : (W.contains 127 || W.contains 129) = false) : pw_NV n h' := by
  obtain ⟨h1, h2⟩ := Bool.or_eq_false_iff.mp hn
  intro j hj
  rw [pw_Eg (c := 127) I E rfl h1, pw_Egm (c := 129) I E rfl h2]
  exact H j hj
theorem pw_gm_eqA {h : pm_H} {c n k : Nat} {lo hi : Int} {w : Int64} (I : pw_I h) (hs : pw_T[c]? = some (.inl (3, n, lo, hi))) (hk : k < n) : pw_gm (pw_w h c k (.long w)) c k = w.toInt := by
  obtain ⟨l, e1, e2, e3⟩ := pw_arr I hs
  have hc : c < h.length := (List.getElem?_eq_some_iff.mp e1).1
  unfold pw_gm pw_gl pw_at pw_w
  rw [e1]
  dsimp only
  rw [List.getElem?_set_self hc]
  dsimp only
  rw [List.getElem?_set_self (by omega)]
  rfl
theorem pw_NV.st {n s : Int} {v1 : Value} {w : Int64} {g g1 g2 g3 : pm_H} (H : pw_NV n.toNat g) (h0 : 0 ≤ n) (h1 : n < 1002) (w1 : pw_w g 128 n.toNat v1 = g1) (w2 : pw_w g1 127 n.toNat (pw_i s) = g2) (w3 : pw_w g2 129 n.toNat (.long w) = g3) (I1 : pw_I g1) (I2 : pw_I g2) (hs1 : 0 ≤ s) (hs2 : s ≤ 4) (hs : s ≠ 2 ∨ (0 ≤ w.toInt ∧ w.toInt ≤ 9999)) : pw_NV (n + 1).toNat g3 := by
  intro j hj hq
  rcases (by omega : j = n.toNat ∨ j ≠ n.toNat) with e | e
  · subst e
    have e1 : pw_g g3 127 n.toNat = s := by
      rw [← w3, pw_g_ne (by omega), ← w2]
      exact pw_g_eqA I1 rfl (by omega) (by omega) (by omega)
    have e2 : pw_gm g3 129 n.toNat = w.toInt := by
      rw [← w3]
      exact pw_gm_eqA I2 rfl (by omega)
    rw [e2]
    exact hs.resolve_left (by omega)
  · have e1 : pw_g g3 127 j = pw_g g 127 j := by rw [← w3, pw_g_ne (by omega), ← w2, pw_g_ne (by omega), ← w1, pw_g_ne (by omega)]
    have e2 : pw_gm g3 129 j = pw_gm g 129 j := by rw [← w3, pw_gm_ne (by omega), ← w2, pw_gm_ne (by omega), ← w1, pw_gm_ne (by omega)]
    rw [e2]
    exact H j (by omega) (by rw [← e1]; exact hq)
theorem pw_laldM {X : List (Nat × List Value)} {d : Nat} {h : pm_H} {m pc pc' len na nl own rt : Nat} {C : pm_T (Instr × Nat)} {ls : pm_L} {r : List Value} {Q : pm_H → (Option Value ⊕ Unit) → Prop} {c n a : Nat} {lo hi : Int} {j : Int} (I : pw_I h) (he : pm_ent m = some (na, nl, own, rt, C)) (hq : pm_get C pc = some (.laload, len)) (hs : pw_T[c]? = some (.inl (3, n, lo, hi))) (ha : 16 + c = a) (hn : n ≤ 2147483647) (h0 : 0 ≤ j) (h1 : j < n) (hc : pc + len = pc') (H : pw X d h m pc' ls (.long (Int64.ofInt (pw_gm h c j.toNat)) :: r) Q) : pw X d h m pc ls (pw_i j :: .ref a :: r) Q := by
  refine pw_lald I he hq hs ha hn h0 h1 hc ?_
  unfold pw_gm at H
  rw [Int64.ofInt_toInt] at H
  exact H
/-- what a writer's lines have told so far -/
def pw_Lw (h : pm_H) : Prop := (pw_g h 161 0 < 0 ∨ pw_Ln h 4400 (pw_g h 161 0) (pw_g h 125 32)) ∧ pw_g h 161 1 ≤ 11 ∧ pw_g h 161 2 ≤ 11 ∧ pw_g h 161 3 ≤ 10

