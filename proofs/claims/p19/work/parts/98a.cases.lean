/-! the law's cases (printed by wip/tool/mlawcases.py) -/
theorem pw_KG {W : List Nat} {h h' : pm_H} (I : pw_I h) (E : pw_G W h h') (H : pw_K h) (hn : (W.contains 145 || (W.contains 146 || (W.contains 147 || W.contains 157))) = false) : pw_K h' := by
  obtain ⟨h1, h2⟩ := Bool.or_eq_false_iff.mp hn
  obtain ⟨h2, h3⟩ := Bool.or_eq_false_iff.mp h2
  obtain ⟨h3, h4⟩ := Bool.or_eq_false_iff.mp h3
  exact H.cg (fun j => congrArg pw_iv (pw_Gg (c := 145) I E rfl h1 j)) (fun j => congrArg pw_iv (pw_Gg (c := 146) I E rfl h2 j)) (fun j => congrArg pw_iv (pw_Gg (c := 147) I E rfl h3 j)) (fun j => congrArg pw_iv (pw_Gg (c := 157) I E rfl h4 j))
theorem pw_sc8 {h : pm_H} (I : pw_I h) {i : Int} {a5 a6 a7 : Option Value} (s5 : ∀ n, pm_scl n a5 = true) (s6 : ∀ n, pm_scl n a6 = true) (s7 : ∀ n, pm_scl n a7 = true) : pm_all (pm_scl (16 + pm_len h)) [some (.ref 0), some (.ref 16), some (.ref 141), some (.ref 185), some (pw_i i), a5, a6, a7] = true := by
  have hl : 170 ≤ h.length := by
    obtain ⟨q, h1, -⟩ := I.1 169 _ rfl
    exact (List.getElem?_eq_some_iff.mp h1).1
  rw [pm_all_eq, pm_len_eq]
  have hr : ∀ a : Nat, a < 186 → pm_scl (16 + h.length) (some (.ref a)) = true := fun a ha => Nat.blt_eq.mpr (by omega)
  simp only [List.all_cons, List.all_nil, hr 0 (by decide), hr 16 (by decide), hr 141 (by decide), hr 185 (by decide), s5, s6, s7, Bool.and_true]
  rfl
/-- both know the same kitchens -/
def pw_Tk (h : pm_H) : Prop := ∀ j : Nat, j < 24 → pw_g h 2 j = pw_g h 131 j
theorem pw_Tk.kit {h h1 h2 : pm_H} {k a a' : Int} (T : pw_Tk h) (e1 : ∀ j, pw_g h1 131 j = pw_g h 131 j) (e2 : ∀ j, pw_g h2 2 j = pw_g h1 2 j) (haa : a = a') (h01 : a = 0 ∨ a = 1) (p1 : a = 1 → pw_g h1 2 k.toNat = 1 ∧ ∀ j : Nat, j ≠ k.toNat → pw_g h1 2 j = pw_g h 2 j) (p0 : a = 0 → ∀ j : Nat, pw_g h1 2 j = pw_g h 2 j) (q1 : a' = 1 → pw_g h2 131 k.toNat = 1 ∧ ∀ j : Nat, j ≠ k.toNat → pw_g h2 131 j = pw_g h1 131 j) (q0 : a' = 0 → ∀ j : Nat, pw_g h2 131 j = pw_g h1 131 j) : pw_Tk h2 := by
  subst haa
  intro j hj
  rcases h01 with z | z
  · rw [e2, p0 z, q0 z, e1]; exact T j hj
  · rcases (by omega : j = k.toNat ∨ j ≠ k.toNat) with e | e
    · rw [e, e2, (p1 z).1, (q1 z).1]
    · rw [e2, (p1 z).2 j e, (q1 z).2 j e, e1]; exact T j hj
/-- the same number of other rivers, the same marks -/
def pw_RmB (h : pm_H) : Prop := ∀ i : Nat, i < 4 → pw_om h i = pw_g h 167 i ∧ pw_lm h i = pw_g h 166 i
def pw_Rm (h : pm_H) : Prop := pw_g h 100 3 = pw_g h 125 41 ∧ pw_RmB h
def pw_nmk (W : List Nat) : Bool := W.contains 105 || (W.contains 110 || (W.contains 115 || W.contains 120))
theorem pw_nmk_ok {W : List Nat} {h h' : pm_H} (I : pw_I h) (E : ∀ c s, pw_T[c]? = some s → W.contains c = false → ∀ k, pw_g h' c k = pw_g h c k) (hn : pw_nmk W = false) : ∀ i : Nat, i < 4 → pw_om h' i = pw_om h i ∧ pw_lm h' i = pw_lm h i := by
  unfold pw_nmk at hn
  obtain ⟨h1, h2⟩ := Bool.or_eq_false_iff.mp hn
  obtain ⟨h2, h3⟩ := Bool.or_eq_false_iff.mp h2
  obtain ⟨h3, h4⟩ := Bool.or_eq_false_iff.mp h3
  exact pw_i4 ⟨E 105 _ rfl h1 2, E 105 _ rfl h1 3⟩ ⟨E 110 _ rfl h2 2, E 110 _ rfl h2 3⟩ ⟨E 115 _ rfl h3 2, E 115 _ rfl h3 3⟩ ⟨E 120 _ rfl h4 2, E 120 _ rfl h4 3⟩
theorem pw_RmB.E {W : List Nat} {h h' : pm_H} (I : pw_I h) (E : pw_E W h h') (T : pw_RmB h) (hn : (pw_nmk W || (W.contains 166 || W.contains 167)) = false) : pw_RmB h' := by
  obtain ⟨h1, h2⟩ := Bool.or_eq_false_iff.mp hn
  obtain ⟨h2, h3⟩ := Bool.or_eq_false_iff.mp h2
  have q := pw_nmk_ok I (fun c s hs hc k => pw_Eg I E hs hc k) h1
  intro i hi
  rw [(q i hi).1, (q i hi).2, pw_Eg (c := 166) I E rfl h2, pw_Eg (c := 167) I E rfl h3]
  exact T i hi
theorem pw_RmE {W : List Nat} {h h' : pm_H} (I : pw_I h) (E : pw_E W h h') (T : pw_Rm h) (hn : ((pw_nmk W || (W.contains 166 || W.contains 167)) || (W.contains 100 || W.contains 1041)) = false) : pw_Rm h' := by
  obtain ⟨h1, h2⟩ := Bool.or_eq_false_iff.mp hn
  obtain ⟨h2, h3⟩ := Bool.or_eq_false_iff.mp h2
  refine ⟨?_, T.2.E I E h1⟩
  rw [pw_Eg (c := 100) I E rfl h2, pw_Ef E (Or.inr (Or.inr rfl)) h3]
  exact T.1
theorem pw_RmG {W : List Nat} {h h' : pm_H} (I : pw_I h) (E : pw_G W h h') (T : pw_Rm h) (hn : ((pw_nmk W || (W.contains 166 || W.contains 167)) || (W.contains 100 || W.contains 125)) = false) : pw_Rm h' := by
  obtain ⟨h1, h2⟩ := Bool.or_eq_false_iff.mp hn
  obtain ⟨h2, h3⟩ := Bool.or_eq_false_iff.mp h2
  obtain ⟨h4, h5⟩ := Bool.or_eq_false_iff.mp h1
  obtain ⟨h5, h6⟩ := Bool.or_eq_false_iff.mp h5
  have g : ∀ c s, pw_T[c]? = some s → W.contains c = false → ∀ k, pw_g h' c k = pw_g h c k := fun c s hs hc k => congrArg pw_iv (pw_Gg I E hs hc k)
  have q := pw_nmk_ok I g h4
  refine ⟨?_, fun i hi => ?_⟩
  · rw [g 100 _ rfl h2, g 125 _ rfl h3]; exact T.1
  · rw [(q i hi).1, (q i hi).2, g 166 _ rfl h5, g 167 _ rfl h6]
    exact T.2 i hi
theorem pw_Rm.oth {W W' : List Nat} {h h1 h2 : pm_H} (I : pw_I h) (I1 : pw_I h1) (E1 : pw_E W h h1) (E2 : pw_E W' h1 h2) (T : pw_Rm h) (hc : pw_g h2 100 3 = pw_g h2 125 41) (hn1 : (pw_nmk W || (W.contains 166 || W.contains 167)) = false) (hn2 : (pw_nmk W' || (W'.contains 166 || W'.contains 167)) = false) : pw_Rm h2 := ⟨hc, (T.2.E I E1 hn1).E I1 E2 hn2⟩
theorem pw_Rm.mark {W W' : List Nat} {h h1 h2 : pm_H} {mk b a a' : Int} (I : pw_I h) (I1 : pw_I h1) (E1 : pw_E W h h1) (E2 : pw_E W' h1 h2) (T : pw_Rm h) (r1 : pw_MT (pw_g h 100 3) (pw_g h1 100 3) (pw_om h) (pw_lm h) (pw_om h1) (pw_lm h1) mk b a) (r2 : pw_MT (pw_g h1 125 41) (pw_g h2 125 41) (pw_g h1 167) (pw_g h1 166) (pw_g h2 167) (pw_g h2 166) mk b a') (hn1 : (W.contains 125 || (W.contains 166 || W.contains 167)) = false) (hn2 : (pw_nmk W' || W'.contains 100) = false) : a = a' ∧ pw_Rm h2 := by
  obtain ⟨c1, c2⟩ := Bool.or_eq_false_iff.mp hn1
  obtain ⟨c2, c3⟩ := Bool.or_eq_false_iff.mp c2
  obtain ⟨d1, d2⟩ := Bool.or_eq_false_iff.mp hn2
  have q := pw_nmk_ok I1 (fun c s hs hc k => pw_Eg I1 E2 hs hc k) d1
  obtain ⟨u1, u2, u3⟩ := r1.un r2 (by rw [pw_Eg (c := 125) I E1 rfl c1]; exact T.1) (fun i hi => by rw [pw_Eg (c := 167) I E1 rfl c3, pw_Eg (c := 166) I E1 rfl c2]; exact T.2 i hi)
  refine ⟨u1, ?_, fun i hi => ?_⟩
  · rw [pw_Eg (c := 100) I1 E2 rfl d2]; exact u2
  · rw [(q i hi).1, (q i hi).2]; exact u3 i hi
/-- the same tenths -/
def pw_Tn (h : pm_H) : Prop := pw_g h 0 6 = pw_g h 125 15
theorem pw_TnE {W : List Nat} {h h' : pm_H} (I : pw_I h) (E : pw_E W h h') (T : pw_Tn h) (hn : (W.contains 0 || W.contains 1015) = false) : pw_Tn h' := by
  obtain ⟨h1, h2⟩ := Bool.or_eq_false_iff.mp hn
  unfold pw_Tn
  rw [pw_Eg (c := 0) I E rfl h1, pw_Ef E (Or.inr (Or.inl rfl)) h2]
  exact T
theorem pw_TnG {W : List Nat} {h h' : pm_H} (I : pw_I h) (E : pw_G W h h') (T : pw_Tn h) (hn : (W.contains 0 || W.contains 125) = false) : pw_Tn h' := by
  obtain ⟨h1, h2⟩ := Bool.or_eq_false_iff.mp hn
  have e1 : pw_g h' 0 6 = pw_g h 0 6 := congrArg pw_iv (pw_Gg (c := 0) I E rfl h1 6)
  have e2 : pw_g h' 125 15 = pw_g h 125 15 := congrArg pw_iv (pw_Gg (c := 125) I E rfl h2 15)
  unfold pw_Tn
  rw [e1, e2]
  exact T
/-- a cell of the class's ledger, and the model's three -/
def pw_Lr (v s w g : Int) : Prop := (s = 0 ∧ v = -2 ∧ w = 0 ∧ g = 0) ∨ (s = 2 ∧ v = -1 ∧ w = 0 ∧ g = 0) ∨ (s = 1 ∧ v = w * 100 + g)
def pw_Lc (h : pm_H) : Prop := (∀ c : Nat, c < 288 → pw_Lr (pw_g h 11 c) (pw_g h 138 c) (pw_g h 139 c) (pw_g h 140 c)) ∧ ∀ i : Nat, i < 4 → pw_g h 166 i ≠ 0 → ∀ c : Nat, c < 288 → pw_Lr (pw_g h (107 + 5 * i) c) (pw_g h 168 (1728 * i + 288 * 0 + c)) (pw_g h 168 (1728 * i + 288 * 1 + c)) (pw_g h 168 (1728 * i + 288 * 2 + c))
def pw_nc (W : List Nat) : Bool := W.contains 11 || (W.contains 107 || (W.contains 112 || (W.contains 117 || W.contains 122)))
def pw_nd (W : List Nat) : Bool := W.contains 138 || (W.contains 139 || (W.contains 140 || (W.contains 166 || W.contains 168)))
theorem pw_nc_ok {W : List Nat} {h h' : pm_H} (E : ∀ c s, pw_T[c]? = some s → W.contains c = false → ∀ k, pw_g h' c k = pw_g h c k) (hn : pw_nc W = false) : pw_sm h h' 11 ∧ ∀ i : Nat, i < 4 → pw_sm h h' (107 + 5 * i) := by
  unfold pw_nc at hn
  obtain ⟨h1, h2⟩ := Bool.or_eq_false_iff.mp hn
  obtain ⟨h2, h3⟩ := Bool.or_eq_false_iff.mp h2
  obtain ⟨h3, h4⟩ := Bool.or_eq_false_iff.mp h3
  obtain ⟨h4, h5⟩ := Bool.or_eq_false_iff.mp h4
  exact ⟨E 11 _ rfl h1, pw_i4 (E 107 _ rfl h2) (E 112 _ rfl h3) (E 117 _ rfl h4) (E 122 _ rfl h5)⟩
theorem pw_nd_ok {W : List Nat} {h h' : pm_H} (E : ∀ c s, pw_T[c]? = some s → W.contains c = false → ∀ k, pw_g h' c k = pw_g h c k) (hn : pw_nd W = false) : pw_sm h h' 138 ∧ pw_sm h h' 139 ∧ pw_sm h h' 140 ∧ pw_sm h h' 166 ∧ pw_sm h h' 168 := by
  unfold pw_nd at hn
  obtain ⟨h1, h2⟩ := Bool.or_eq_false_iff.mp hn
  obtain ⟨h2, h3⟩ := Bool.or_eq_false_iff.mp h2
  obtain ⟨h3, h4⟩ := Bool.or_eq_false_iff.mp h3
  obtain ⟨h4, h5⟩ := Bool.or_eq_false_iff.mp h4
  exact ⟨E 138 _ rfl h1, E 139 _ rfl h2, E 140 _ rfl h3, E 166 _ rfl h4, E 168 _ rfl h5⟩
theorem pw_Lc.cg {h h' : pm_H} (T : pw_Lc h) (c1 : pw_sm h h' 11 ∧ ∀ i : Nat, i < 4 → pw_sm h h' (107 + 5 * i)) (d1 : pw_sm h h' 138 ∧ pw_sm h h' 139 ∧ pw_sm h h' 140 ∧ pw_sm h h' 166 ∧ pw_sm h h' 168) : pw_Lc h' := by
  obtain ⟨d1, d2, d3, d4, d5⟩ := d1
  refine ⟨fun c hc => ?_, fun i hi hl c hc => ?_⟩
  · rw [c1.1 c, d1 c, d2 c, d3 c]; exact T.1 c hc
  · rw [c1.2 i hi c, d5, d5, d5]; exact T.2 i hi (by rw [← d4 i]; exact hl) c hc
theorem pw_LcE {W : List Nat} {h h' : pm_H} (I : pw_I h) (E : pw_E W h h') (T : pw_Lc h) (hn : (pw_nc W || pw_nd W) = false) : pw_Lc h' := by
  obtain ⟨h1, h2⟩ := Bool.or_eq_false_iff.mp hn
  exact T.cg (pw_nc_ok (fun c s hs hc k => pw_Eg I E hs hc k) h1) (pw_nd_ok (fun c s hs hc k => pw_Eg I E hs hc k) h2)
theorem pw_LcG {W : List Nat} {h h' : pm_H} (I : pw_I h) (E : pw_G W h h') (T : pw_Lc h) (hn : (pw_nc W || pw_nd W) = false) : pw_Lc h' := by
  obtain ⟨h1, h2⟩ := Bool.or_eq_false_iff.mp hn
  exact T.cg (pw_nc_ok (fun c s hs hc k => congrArg pw_iv (pw_Gg I E hs hc k)) h1) (pw_nd_ok (fun c s hs hc k => congrArg pw_iv (pw_Gg I E hs hc k)) h2)
def pw_ncm (W : List Nat) : Bool := W.contains 107 || (W.contains 112 || (W.contains 117 || W.contains 122))
theorem pw_Lc.call {W W' : List Nat} {h h1 h2 : pm_H} {k mo wh hf a a' : Int} (I : pw_I h) (I1 : pw_I h1) (E1 : pw_E W h h1) (E2 : pw_E W' h1 h2) (T : pw_Lc h) (haa : a = a') (h01 : a = 0 ∨ a = 1) (r1 : (a = 1 → ∃ v : Int, pw_cv wh hf v ∧ pw_up h h1 11 (k * 12 + mo) v) ∧ (a = 0 → pw_sm h h1 11)) (r2 : (a' = 1 → ∃ v w g : Int, pw_mv wh hf v w g ∧ pw_up h1 h2 138 (12 * k + mo) v ∧ pw_up h1 h2 139 (12 * k + mo) w ∧ pw_up h1 h2 140 (12 * k + mo) g) ∧ (a' = 0 → pw_sm h1 h2 138 ∧ pw_sm h1 h2 139 ∧ pw_sm h1 h2 140)) (hk : a = 1 → 0 ≤ k ∧ 0 ≤ mo) (hn1 : (pw_ncm W || pw_nd W) = false) (hn2 : (pw_nc W' || (W'.contains 166 || W'.contains 168)) = false) : pw_Lc h2 := by
  subst haa
  obtain ⟨n1, n2⟩ := Bool.or_eq_false_iff.mp hn1
  obtain ⟨n3, n4⟩ := Bool.or_eq_false_iff.mp hn2
  obtain ⟨n4, n5⟩ := Bool.or_eq_false_iff.mp n4
  unfold pw_ncm at n1
  obtain ⟨m1, m2⟩ := Bool.or_eq_false_iff.mp n1
  obtain ⟨m2, m3⟩ := Bool.or_eq_false_iff.mp m2
  obtain ⟨m3, m4⟩ := Bool.or_eq_false_iff.mp m3
  have mk1 : ∀ i : Nat, i < 4 → pw_sm h h1 (107 + 5 * i) := pw_i4 (pw_Eg (c := 107) I E1 rfl m1) (pw_Eg (c := 112) I E1 rfl m2) (pw_Eg (c := 117) I E1 rfl m3) (pw_Eg (c := 122) I E1 rfl m4)
  obtain ⟨d1, d2, d3, d4, d5⟩ := pw_nd_ok (fun c s hs hc k => pw_Eg I E1 hs hc k) n2
  obtain ⟨c1, c2⟩ := pw_nc_ok (fun c s hs hc k => pw_Eg I1 E2 hs hc k) n3
  have e6 := fun j => pw_Eg (c := 166) I1 E2 rfl n4 j
  have e8 := fun j => pw_Eg (c := 168) I1 E2 rfl n5 j
  refine ⟨fun c hc => ?_, fun i hi hl c hc => ?_⟩
  · rcases h01 with z | z
    · obtain ⟨q1, q2, q3⟩ := r2.2 z
      rw [c1 c, r1.2 z c, q1 c, q2 c, q3 c, d1 c, d2 c, d3 c]; exact T.1 c hc
    · obtain ⟨v, hv, u1, u2⟩ := r1.1 z
      obtain ⟨s, w, g, hm, ⟨p1, p2⟩, ⟨p3, p4⟩, ⟨p5, p6⟩⟩ := r2.1 z
      have hkm := hk z
      have ei : (k * 12 + mo).toNat = (12 * k + mo).toNat := by omega
      rw [ei] at u1 u2
      rcases (by omega : c = (12 * k + mo).toNat ∨ c ≠ (12 * k + mo).toNat) with e | e
      · rw [e, c1, u1, p1, p3, p5]
        unfold pw_cv at hv
        unfold pw_mv at hm
        unfold pw_Lr
        rcases hv with ⟨b1, b2, b3⟩ | ⟨b1, b2, b3⟩ | ⟨b1, b2, b3⟩ <;> rcases hm with ⟨b4, b5, b6, b7, b8⟩ | ⟨b4, b5, b6, b7, b8⟩ | ⟨b4, b5, b6, b7, b8⟩ <;> first | omega | (subst b6 b7 b8; omega)
      · rw [c1 c, u2 c e, p2 c e, p4 c e, p6 c e, d1 c, d2 c, d3 c]; exact T.1 c hc
  · rw [c2 i hi c, mk1 i hi c, e8, e8, e8, d5, d5, d5]
    exact T.2 i hi (by rw [← d4 i, ← e6 i]; exact hl) c hc
theorem pw_Lc.mark {W W' : List Nat} {h h1 h2 : pm_H} {mk z a a' : Int} (I : pw_I h) (I1 : pw_I h1) (E1 : pw_E W h h1) (E2 : pw_E W' h1 h2) (T : pw_Lc h) (r2 : pw_MT (pw_g h1 125 41) (pw_g h2 125 41) (pw_g h1 167) (pw_g h1 166) (pw_g h2 167) (pw_g h2 166) mk z a') (l : pw_LT h h1 mk z a) (st : pw_ST h1 h2 mk z a') (haa : a = a') (hn1 : pw_nd W = false) (hn2 : pw_nc W' = false) : pw_Lc h2 := by
  subst haa
  obtain ⟨d1, d2, d3, d4, d5⟩ := pw_nd_ok (fun c s hs hc k => pw_Eg I E1 hs hc k) hn1
  obtain ⟨c1, c2⟩ := pw_nc_ok (fun c s hs hc k => pw_Eg I1 E2 hs hc k) hn2
  rcases st with ⟨s1, s2, s3⟩ | ⟨s1, s2, s3, s4, s5⟩ | ⟨s1, s2, s3, s4⟩
  · -- nothing
    rcases l with ⟨_, l2, _, l4⟩ | ⟨q, _⟩ | ⟨q, _⟩
    · have e0 := s2 0 (by decide); have e1 := s2 1 (by decide); have e2 := s2 2 (by decide)
      have hl : ∀ i : Nat, i < 4 → pw_g h2 166 i = pw_g h1 166 i := by
        rcases r2 with ⟨_, _, _, x4⟩ | ⟨_, _, _, x4, _⟩ | ⟨_, _, _, _, _, _, x7⟩ | ⟨_, _, _, _, _, x6, _⟩
        · exact fun i hi => (x4 i hi).2
        · omega
        · exact fun i hi => (x7 i hi).2
        · omega
      refine ⟨fun c hc => ?_, fun i hi hz c hc => ?_⟩
      · rw [c1 c, l2 c, show pw_g h2 138 c = pw_g h1 138 c from e0 c, show pw_g h2 139 c = pw_g h1 139 c from e1 c, show pw_g h2 140 c = pw_g h1 140 c from e2 c, d1 c, d2 c, d3 c]; exact T.1 c hc
      · rw [c2 i hi c, (l4 i hi).1 c, s3, s3, s3, d5, d5, d5]; exact T.2 i hi (by rw [← d4 i, ← hl i hi]; exact hz) c hc
    · omega
    · omega
  · -- laid
    rcases l with ⟨q, _⟩ | ⟨_, _, l3, _, l5, l6⟩ | ⟨_, q, _⟩
    · omega
    · have e0 := s3 0 (by decide); have e1 := s3 1 (by decide); have e2 := s3 2 (by decide)
      rcases r2 with ⟨_, q, _⟩ | ⟨x1, x2, _, _, _, _, _, x8⟩ | ⟨_, _, q, _⟩ | ⟨_, _, q, _⟩
      · omega
      · refine ⟨fun c hc => ?_, fun i hi hz c hc => ?_⟩
        · rw [c1 c, l3 c, show pw_g h2 138 c = pw_g h1 138 c from e0 c, show pw_g h2 139 c = pw_g h1 139 c from e1 c, show pw_g h2 140 c = pw_g h1 140 c from e2 c, d1 c, d2 c, d3 c]; exact T.1 c hc
        · rcases (by omega : i = mk.toNat ∨ i ≠ mk.toNat) with e | e
          · rw [c2 i hi c, e, (l5 c).1, s4 0 c (by decide) hc, s4 1 c (by decide) hc, s4 2 c (by decide) hc, d1 c, show pw_g h1 (138 + 1) c = pw_g h 139 c from d2 c, show pw_g h1 (138 + 2) c = pw_g h 140 c from d3 c]
            exact T.1 c hc
          · rw [c2 i hi c, (l6 i hi e).1 c, s5 _ (by omega), s5 _ (by omega), s5 _ (by omega), d5, d5, d5]
            exact T.2 i hi (by rw [← d4 i, ← (x8 i hi e).2]; exact hz) c hc
      · omega
      · omega
    · omega
  · -- brought back
    rcases l with ⟨q, _⟩ | ⟨_, q, _⟩ | ⟨_, _, l3, l4⟩
    · omega
    · omega
    · rcases r2 with ⟨_, q, _⟩ | ⟨_, _, q, _⟩ | ⟨_, _, _, _, q, _⟩ | ⟨x1, x2, _, x4, _, _, _, x8⟩
      · omega
      · omega
      · omega
      · refine ⟨fun c hc => ?_, fun i hi hz c hc => ?_⟩
        · rw [c1 c, (l3 c).1, show pw_g h2 138 c = pw_g h1 168 (1728 * mk.toNat + 288 * 0 + c) from s4 0 c (by decide) hc, show pw_g h2 139 c = pw_g h1 168 (1728 * mk.toNat + 288 * 1 + c) from s4 1 c (by decide) hc, show pw_g h2 140 c = pw_g h1 168 (1728 * mk.toNat + 288 * 2 + c) from s4 2 c (by decide) hc, d5, d5, d5]
          exact T.2 mk.toNat (by omega) (by rw [← d4]; exact x4) c hc
        · rw [c2 i hi c, (l4 i hi).1 c, s3, s3, s3, d5, d5, d5]
          exact T.2 i hi (by rw [← d4 i, ← (x8 i hi).2]; exact hz) c hc
/-- a cell of the class's ledger, and the model's three -/
def pw_Shr (v s w g : Int) : Prop := (s = 0 ∧ v = -2) ∨ (s = 1 ∧ v = w * 100 + g)
def pw_Shs (h : pm_H) : Prop := (∀ c : Nat, c < 288 → pw_Shr (pw_g h 13 c) (pw_g h 141 c) (pw_g h 142 c) (pw_g h 143 c)) ∧ ∀ i : Nat, i < 4 → pw_g h 166 i ≠ 0 → ∀ c : Nat, c < 288 → pw_Shr (pw_g h (109 + 5 * i) c) (pw_g h 168 (1728 * i + 288 * 3 + c)) (pw_g h 168 (1728 * i + 288 * 4 + c)) (pw_g h 168 (1728 * i + 288 * 5 + c))
def pw_ne2 (W : List Nat) : Bool := W.contains 13 || (W.contains 109 || (W.contains 114 || (W.contains 119 || W.contains 124)))
def pw_nf2 (W : List Nat) : Bool := W.contains 141 || (W.contains 142 || (W.contains 143 || (W.contains 166 || W.contains 168)))
theorem pw_ne2_ok {W : List Nat} {h h' : pm_H} (E : ∀ c s, pw_T[c]? = some s → W.contains c = false → ∀ k, pw_g h' c k = pw_g h c k) (hn : pw_ne2 W = false) : pw_sm h h' 13 ∧ ∀ i : Nat, i < 4 → pw_sm h h' (109 + 5 * i) := by
  unfold pw_ne2 at hn
  obtain ⟨h1, h2⟩ := Bool.or_eq_false_iff.mp hn
  obtain ⟨h2, h3⟩ := Bool.or_eq_false_iff.mp h2
  obtain ⟨h3, h4⟩ := Bool.or_eq_false_iff.mp h3
  obtain ⟨h4, h5⟩ := Bool.or_eq_false_iff.mp h4
  exact ⟨E 13 _ rfl h1, pw_i4 (E 109 _ rfl h2) (E 114 _ rfl h3) (E 119 _ rfl h4) (E 124 _ rfl h5)⟩
theorem pw_nf2_ok {W : List Nat} {h h' : pm_H} (E : ∀ c s, pw_T[c]? = some s → W.contains c = false → ∀ k, pw_g h' c k = pw_g h c k) (hn : pw_nf2 W = false) : pw_sm h h' 141 ∧ pw_sm h h' 142 ∧ pw_sm h h' 143 ∧ pw_sm h h' 166 ∧ pw_sm h h' 168 := by
  unfold pw_nf2 at hn
  obtain ⟨h1, h2⟩ := Bool.or_eq_false_iff.mp hn
  obtain ⟨h2, h3⟩ := Bool.or_eq_false_iff.mp h2
  obtain ⟨h3, h4⟩ := Bool.or_eq_false_iff.mp h3
  obtain ⟨h4, h5⟩ := Bool.or_eq_false_iff.mp h4
  exact ⟨E 141 _ rfl h1, E 142 _ rfl h2, E 143 _ rfl h3, E 166 _ rfl h4, E 168 _ rfl h5⟩
theorem pw_Shs.cg {h h' : pm_H} (T : pw_Shs h) (c1 : pw_sm h h' 13 ∧ ∀ i : Nat, i < 4 → pw_sm h h' (109 + 5 * i)) (d1 : pw_sm h h' 141 ∧ pw_sm h h' 142 ∧ pw_sm h h' 143 ∧ pw_sm h h' 166 ∧ pw_sm h h' 168) : pw_Shs h' := by
  obtain ⟨d1, d2, d3, d4, d5⟩ := d1
  refine ⟨fun c hc => ?_, fun i hi hl c hc => ?_⟩
  · rw [c1.1 c, d1 c, d2 c, d3 c]; exact T.1 c hc
  · rw [c1.2 i hi c, d5, d5, d5]; exact T.2 i hi (by rw [← d4 i]; exact hl) c hc
theorem pw_ShsE {W : List Nat} {h h' : pm_H} (I : pw_I h) (E : pw_E W h h') (T : pw_Shs h) (hn : (pw_ne2 W || pw_nf2 W) = false) : pw_Shs h' := by
  obtain ⟨h1, h2⟩ := Bool.or_eq_false_iff.mp hn
  exact T.cg (pw_ne2_ok (fun c s hs hc k => pw_Eg I E hs hc k) h1) (pw_nf2_ok (fun c s hs hc k => pw_Eg I E hs hc k) h2)
theorem pw_ShsG {W : List Nat} {h h' : pm_H} (I : pw_I h) (E : pw_G W h h') (T : pw_Shs h) (hn : (pw_ne2 W || pw_nf2 W) = false) : pw_Shs h' := by
  obtain ⟨h1, h2⟩ := Bool.or_eq_false_iff.mp hn
  exact T.cg (pw_ne2_ok (fun c s hs hc k => congrArg pw_iv (pw_Gg I E hs hc k)) h1) (pw_nf2_ok (fun c s hs hc k => congrArg pw_iv (pw_Gg I E hs hc k)) h2)
def pw_nem (W : List Nat) : Bool := W.contains 109 || (W.contains 114 || (W.contains 119 || W.contains 124))
theorem pw_Shs.sheet {W W' : List Nat} {h h1 h2 : pm_H} {k mo wh hf a a' : Int} (I : pw_I h) (I1 : pw_I h1) (E1 : pw_E W h h1) (E2 : pw_E W' h1 h2) (T : pw_Shs h) (haa : a = a') (h01 : a = 0 ∨ a = 1) (r1 : (a = 1 → pw_up h h1 13 (k * 12 + mo) (wh * 100 + hf)) ∧ (a = 0 → pw_sm h h1 13)) (r2 : (a' = 1 → pw_up h1 h2 141 (12 * k + mo) (1) ∧ pw_up h1 h2 142 (12 * k + mo) (wh) ∧ pw_up h1 h2 143 (12 * k + mo) (hf)) ∧ (a' = 0 → pw_sm h1 h2 141 ∧ pw_sm h1 h2 142 ∧ pw_sm h1 h2 143)) (hk : a = 1 → 0 ≤ k ∧ 0 ≤ mo) (hn1 : (pw_nem W || pw_nf2 W) = false) (hn2 : (pw_ne2 W' || (W'.contains 166 || W'.contains 168)) = false) : pw_Shs h2 := by
  subst haa
  obtain ⟨n1, n2⟩ := Bool.or_eq_false_iff.mp hn1
  obtain ⟨n3, n4⟩ := Bool.or_eq_false_iff.mp hn2
  obtain ⟨n4, n5⟩ := Bool.or_eq_false_iff.mp n4
  unfold pw_nem at n1
  obtain ⟨m1, m2⟩ := Bool.or_eq_false_iff.mp n1
  obtain ⟨m2, m3⟩ := Bool.or_eq_false_iff.mp m2
  obtain ⟨m3, m4⟩ := Bool.or_eq_false_iff.mp m3
  have mk1 : ∀ i : Nat, i < 4 → pw_sm h h1 (109 + 5 * i) := pw_i4 (pw_Eg (c := 109) I E1 rfl m1) (pw_Eg (c := 114) I E1 rfl m2) (pw_Eg (c := 119) I E1 rfl m3) (pw_Eg (c := 124) I E1 rfl m4)
  obtain ⟨d1, d2, d3, d4, d5⟩ := pw_nf2_ok (fun c s hs hc k => pw_Eg I E1 hs hc k) n2
  obtain ⟨c1, c2⟩ := pw_ne2_ok (fun c s hs hc k => pw_Eg I1 E2 hs hc k) n3
  have e6 := fun j => pw_Eg (c := 166) I1 E2 rfl n4 j
  have e8 := fun j => pw_Eg (c := 168) I1 E2 rfl n5 j
  refine ⟨fun c hc => ?_, fun i hi hl c hc => ?_⟩
  · rcases h01 with z | z
    · obtain ⟨q1, q2, q3⟩ := r2.2 z
      rw [c1 c, r1.2 z c, q1 c, q2 c, q3 c, d1 c, d2 c, d3 c]; exact T.1 c hc
    · obtain ⟨u1, u2⟩ := r1.1 z
      obtain ⟨⟨p1, p2⟩, ⟨p3, p4⟩, ⟨p5, p6⟩⟩ := r2.1 z
      have hkm := hk z
      have ei : (k * 12 + mo).toNat = (12 * k + mo).toNat := by omega
      rw [ei] at u1 u2
      rcases (by omega : c = (12 * k + mo).toNat ∨ c ≠ (12 * k + mo).toNat) with e | e
      · rw [e, c1, u1, p1, p3, p5]
        exact Or.inr ⟨rfl, rfl⟩
      · rw [c1 c, u2 c e, p2 c e, p4 c e, p6 c e, d1 c, d2 c, d3 c]; exact T.1 c hc
  · rw [c2 i hi c, mk1 i hi c, e8, e8, e8, d5, d5, d5]
    exact T.2 i hi (by rw [← d4 i, ← e6 i]; exact hl) c hc
theorem pw_Shs.mark {W W' : List Nat} {h h1 h2 : pm_H} {mk z a a' : Int} (I : pw_I h) (I1 : pw_I h1) (E1 : pw_E W h h1) (E2 : pw_E W' h1 h2) (T : pw_Shs h) (r2 : pw_MT (pw_g h1 125 41) (pw_g h2 125 41) (pw_g h1 167) (pw_g h1 166) (pw_g h2 167) (pw_g h2 166) mk z a') (l : pw_LT h h1 mk z a) (st : pw_ST h1 h2 mk z a') (haa : a = a') (hn1 : pw_nf2 W = false) (hn2 : pw_ne2 W' = false) : pw_Shs h2 := by
  subst haa
  obtain ⟨d1, d2, d3, d4, d5⟩ := pw_nf2_ok (fun c s hs hc k => pw_Eg I E1 hs hc k) hn1
  obtain ⟨c1, c2⟩ := pw_ne2_ok (fun c s hs hc k => pw_Eg I1 E2 hs hc k) hn2
  rcases st with ⟨s1, s2, s3⟩ | ⟨s1, s2, s3, s4, s5⟩ | ⟨s1, s2, s3, s4⟩
  · -- nothing
    rcases l with ⟨_, _, l2, l4⟩ | ⟨q, _⟩ | ⟨q, _⟩
    · have e0 := s2 3 (by decide); have e1 := s2 4 (by decide); have e2 := s2 5 (by decide)
      have hl : ∀ i : Nat, i < 4 → pw_g h2 166 i = pw_g h1 166 i := by
        rcases r2 with ⟨_, _, _, x4⟩ | ⟨_, _, _, x4, _⟩ | ⟨_, _, _, _, _, _, x7⟩ | ⟨_, _, _, _, _, x6, _⟩
        · exact fun i hi => (x4 i hi).2
        · omega
        · exact fun i hi => (x7 i hi).2
        · omega
      refine ⟨fun c hc => ?_, fun i hi hz c hc => ?_⟩
      · rw [c1 c, l2 c, show pw_g h2 141 c = pw_g h1 141 c from e0 c, show pw_g h2 142 c = pw_g h1 142 c from e1 c, show pw_g h2 143 c = pw_g h1 143 c from e2 c, d1 c, d2 c, d3 c]; exact T.1 c hc
      · rw [c2 i hi c, (l4 i hi).2 c, s3, s3, s3, d5, d5, d5]; exact T.2 i hi (by rw [← d4 i, ← hl i hi]; exact hz) c hc
    · omega
    · omega
  · -- laid
    rcases l with ⟨q, _⟩ | ⟨_, _, _, l3, l5, l6⟩ | ⟨_, q, _⟩
    · omega
    · have e0 := s3 3 (by decide); have e1 := s3 4 (by decide); have e2 := s3 5 (by decide)
      rcases r2 with ⟨_, q, _⟩ | ⟨x1, x2, _, _, _, _, _, x8⟩ | ⟨_, _, q, _⟩ | ⟨_, _, q, _⟩
      · omega
      · refine ⟨fun c hc => ?_, fun i hi hz c hc => ?_⟩
        · rw [c1 c, l3 c, show pw_g h2 141 c = pw_g h1 141 c from e0 c, show pw_g h2 142 c = pw_g h1 142 c from e1 c, show pw_g h2 143 c = pw_g h1 143 c from e2 c, d1 c, d2 c, d3 c]; exact T.1 c hc
        · rcases (by omega : i = mk.toNat ∨ i ≠ mk.toNat) with e | e
          · rw [c2 i hi c, e, (l5 c).2, s4 3 c (by decide) hc, s4 4 c (by decide) hc, s4 5 c (by decide) hc, show pw_g h1 (138 + 3) c = pw_g h 141 c from d1 c, show pw_g h1 (138 + 4) c = pw_g h 142 c from d2 c, show pw_g h1 (138 + 5) c = pw_g h 143 c from d3 c]
            exact T.1 c hc
          · rw [c2 i hi c, (l6 i hi e).2 c, s5 _ (by omega), s5 _ (by omega), s5 _ (by omega), d5, d5, d5]
            exact T.2 i hi (by rw [← d4 i, ← (x8 i hi e).2]; exact hz) c hc
      · omega
      · omega
    · omega
  · -- brought back
    rcases l with ⟨q, _⟩ | ⟨_, q, _⟩ | ⟨_, _, l3, l4⟩
    · omega
    · omega
    · rcases r2 with ⟨_, q, _⟩ | ⟨_, _, q, _⟩ | ⟨_, _, _, _, q, _⟩ | ⟨x1, x2, _, x4, _, _, _, x8⟩
      · omega
      · omega
      · omega
      · refine ⟨fun c hc => ?_, fun i hi hz c hc => ?_⟩
        · rw [c1 c, (l3 c).2, show pw_g h2 141 c = pw_g h1 168 (1728 * mk.toNat + 288 * 3 + c) from s4 3 c (by decide) hc, show pw_g h2 142 c = pw_g h1 168 (1728 * mk.toNat + 288 * 4 + c) from s4 4 c (by decide) hc, show pw_g h2 143 c = pw_g h1 168 (1728 * mk.toNat + 288 * 5 + c) from s4 5 c (by decide) hc, d5, d5, d5]
          exact T.2 mk.toNat (by omega) (by rw [← d4]; exact x4) c hc
        · rw [c2 i hi c, (l4 i hi).2 c, s3, s3, s3, d5, d5, d5]
          exact T.2 i hi (by rw [← d4 i, ← (x8 i hi).2]; exact hz) c hc
/-- the same other rivers -/
def pw_Ro (h : pm_H) : Prop := ∀ j : Nat, (j : Int) < pw_g h 100 3 → pw_g h 101 j = pw_g h 154 j ∧ pw_g h 102 j = pw_g h 155 j ∧ pw_g h 103 j = pw_g h 156 j
def pw_ny (W : List Nat) : Bool := W.contains 101 || (W.contains 102 || W.contains 103)
def pw_nz2 (W : List Nat) : Bool := W.contains 154 || (W.contains 155 || W.contains 156)
theorem pw_ny_ok {W : List Nat} {h h' : pm_H} (E : ∀ c s, pw_T[c]? = some s → W.contains c = false → ∀ k, pw_g h' c k = pw_g h c k) (hn : pw_ny W = false) : pw_sm h h' 101 ∧ pw_sm h h' 102 ∧ pw_sm h h' 103 := by
  unfold pw_ny at hn
  obtain ⟨h1, h2⟩ := Bool.or_eq_false_iff.mp hn
  obtain ⟨h2, h3⟩ := Bool.or_eq_false_iff.mp h2
  exact ⟨E 101 _ rfl h1, E 102 _ rfl h2, E 103 _ rfl h3⟩
theorem pw_nz2_ok {W : List Nat} {h h' : pm_H} (E : ∀ c s, pw_T[c]? = some s → W.contains c = false → ∀ k, pw_g h' c k = pw_g h c k) (hn : pw_nz2 W = false) : pw_sm h h' 154 ∧ pw_sm h h' 155 ∧ pw_sm h h' 156 := by
  unfold pw_nz2 at hn
  obtain ⟨h1, h2⟩ := Bool.or_eq_false_iff.mp hn
  obtain ⟨h2, h3⟩ := Bool.or_eq_false_iff.mp h2
  exact ⟨E 154 _ rfl h1, E 155 _ rfl h2, E 156 _ rfl h3⟩
theorem pw_Ro.cg {h h' : pm_H} (T : pw_Ro h) (hc : pw_g h' 100 3 ≤ pw_g h 100 3) (c1 : pw_sm h h' 101 ∧ pw_sm h h' 102 ∧ pw_sm h h' 103) (d1 : pw_sm h h' 154 ∧ pw_sm h h' 155 ∧ pw_sm h h' 156) : pw_Ro h' := by
  obtain ⟨c1, c2, c3⟩ := c1
  obtain ⟨d1, d2, d3⟩ := d1
  intro j hj
  rw [c1 j, c2 j, c3 j, d1 j, d2 j, d3 j]
  exact T j (by omega)
theorem pw_RoE {W : List Nat} {h h' : pm_H} (I : pw_I h) (E : pw_E W h h') (T : pw_Ro h) (hn : ((pw_ny W || pw_nz2 W) || W.contains 100) = false) : pw_Ro h' := by
  obtain ⟨h1, h2⟩ := Bool.or_eq_false_iff.mp hn
  obtain ⟨h1, h3⟩ := Bool.or_eq_false_iff.mp h1
  have g : ∀ c s, pw_T[c]? = some s → W.contains c = false → ∀ k, pw_g h' c k = pw_g h c k := fun c s hs hc k => pw_Eg I E hs hc k
  exact T.cg (Int.le_of_eq (g 100 _ rfl h2 3)) (pw_ny_ok g h1) (pw_nz2_ok g h3)
theorem pw_RoG {W : List Nat} {h h' : pm_H} (I : pw_I h) (E : pw_G W h h') (T : pw_Ro h) (hn : ((pw_ny W || pw_nz2 W) || W.contains 100) = false) : pw_Ro h' := by
  obtain ⟨h1, h2⟩ := Bool.or_eq_false_iff.mp hn
  obtain ⟨h1, h3⟩ := Bool.or_eq_false_iff.mp h1
  have g : ∀ c s, pw_T[c]? = some s → W.contains c = false → ∀ k, pw_g h' c k = pw_g h c k := fun c s hs hc k => congrArg pw_iv (pw_Gg I E hs hc k)
  exact T.cg (Int.le_of_eq (g 100 _ rfl h2 3)) (pw_ny_ok g h1) (pw_nz2_ok g h3)
theorem pw_MT.le {c c' : Int} {o l o' l' : Nat → Int} {mk b a : Int} (h : pw_MT c c' o l o' l' mk b a) : c' ≤ c := by
  rcases h with ⟨_, _, x, _⟩ | ⟨_, _, _, _, x, _⟩ | ⟨_, _, _, _, _, x, _⟩ | ⟨_, _, _, _, y, _, x, _⟩ <;> omega
theorem pw_Ro.mark {W W' : List Nat} {h h1 h2 : pm_H} {mk b a : Int} (I : pw_I h) (I1 : pw_I h1) (E1 : pw_E W h h1) (E2 : pw_E W' h1 h2) (T : pw_Ro h) (r1 : pw_MT (pw_g h 100 3) (pw_g h1 100 3) (pw_om h) (pw_lm h) (pw_om h1) (pw_lm h1) mk b a) (hn1 : (pw_ny W || pw_nz2 W) = false) (hn2 : ((pw_ny W' || pw_nz2 W') || W'.contains 100) = false) : pw_Ro h2 := by
  obtain ⟨n1, n2⟩ := Bool.or_eq_false_iff.mp hn1
  have g : ∀ c s, pw_T[c]? = some s → W.contains c = false → ∀ k, pw_g h1 c k = pw_g h c k := fun c s hs hc k => pw_Eg I E1 hs hc k
  exact pw_RoE I1 E2 (T.cg r1.le (pw_ny_ok g n1) (pw_nz2_ok g n2)) hn2
theorem pw_Ro.oth {W W' : List Nat} {h h1 h2 : pm_H} {su n z a a' : Int} (I : pw_I h) (I1 : pw_I h1) (E1 : pw_E W h h1) (E2 : pw_E W' h1 h2) (T : pw_Ro h) (z3 : pw_g h 100 3 = pw_g h 125 41) (z2 : pw_g h1 125 41 = pw_g h 125 41) (r1 : (((-9999) ≤ su ∧ su ≤ 9999 ∧ 1 ≤ n ∧ n ≤ 999 ∧ pw_g h 100 3 < 20) ∧ a = pw_g h 100 3 ∧ pw_g h1 100 3 = pw_g h 100 3 + 1 ∧ pw_up h h1 101 (pw_g h 100 3) (su) ∧ pw_up h h1 102 (pw_g h 100 3) (n) ∧ pw_up h h1 103 (pw_g h 100 3) (z)) ∨ (¬ ((-9999) ≤ su ∧ su ≤ 9999 ∧ 1 ≤ n ∧ n ≤ 999 ∧ pw_g h 100 3 < 20) ∧ a = -1 ∧ pw_g h1 100 3 = pw_g h 100 3 ∧ pw_sm h h1 101 ∧ pw_sm h h1 102 ∧ pw_sm h h1 103)) (r2 : (((-9999) ≤ su ∧ su ≤ 9999 ∧ 1 ≤ n ∧ n ≤ 999 ∧ pw_g h1 125 41 < 20) ∧ a' = pw_g h1 125 41 ∧ pw_g h2 125 41 = pw_g h1 125 41 + 1 ∧ pw_up h1 h2 154 (pw_g h1 125 41) (su) ∧ pw_up h1 h2 155 (pw_g h1 125 41) (n) ∧ pw_up h1 h2 156 (pw_g h1 125 41) (z)) ∨ (¬ ((-9999) ≤ su ∧ su ≤ 9999 ∧ 1 ≤ n ∧ n ≤ 999 ∧ pw_g h1 125 41 < 20) ∧ a' = -1 ∧ pw_g h2 125 41 = pw_g h1 125 41 ∧ pw_sm h1 h2 154 ∧ pw_sm h1 h2 155 ∧ pw_sm h1 h2 156)) (hn1 : pw_nz2 W = false) (hn2 : (pw_ny W' || W'.contains 100) = false) : a = a' ∧ pw_g h2 100 3 = pw_g h2 125 41 ∧ pw_Ro h2 := by
  obtain ⟨m1, m2⟩ := Bool.or_eq_false_iff.mp hn2
  obtain ⟨c1, c2, c3⟩ := pw_ny_ok (fun c s hs hc k => pw_Eg I1 E2 hs hc k) m1
  have c0 := pw_Eg (c := 100) I1 E2 rfl m2 3
  obtain ⟨d1, d2, d3⟩ := pw_nz2_ok (fun c s hs hc k => pw_Eg I E1 hs hc k) hn1
  have h0 := pw_gI (c := 100) (k := 3) I rfl rfl
  rcases r1 with ⟨p0, p1, p2, ⟨p3, p4⟩, ⟨p5, p6⟩, ⟨p7, p8⟩⟩ | ⟨p0, p1, p2, p3, p4, p5⟩ <;> rcases r2 with ⟨q0, q1, q2, ⟨q3, q4⟩, ⟨q5, q6⟩, ⟨q7, q8⟩⟩ | ⟨q0, q1, q2, q3, q4, q5⟩
  · refine ⟨by omega, by omega, fun j hj => ?_⟩
    have ei : (pw_g h1 125 41).toNat = (pw_g h 100 3).toNat := by omega
    rw [ei] at q3 q4 q5 q6 q7 q8
    rcases (by omega : j = (pw_g h 100 3).toNat ∨ j ≠ (pw_g h 100 3).toNat) with e | e
    · rw [e, c1, c2, c3, p3, p5, p7, q3, q5, q7]; exact ⟨rfl, rfl, rfl⟩
    · rw [c1 j, c2 j, c3 j, p4 j e, p6 j e, p8 j e, q4 j e, q6 j e, q8 j e, d1 j, d2 j, d3 j]; exact T j (by omega)
  · exfalso; omega
  · exfalso; omega
  · refine ⟨by omega, by omega, fun j hj => ?_⟩
    rw [c1 j, c2 j, c3 j, p3 j, p4 j, p5 j, q3 j, q4 j, q5 j, d1 j, d2 j, d3 j]; exact T j (by omega)
/-- two arrays are the same -/
def pw_PR (c c' n : Nat) (h : pm_H) : Prop := ∀ j : Nat, j < n → pw_g h c j = pw_g h c' j
theorem pw_PRE {c c' n : Nat} {t t' : pw_S} {W : List Nat} {h h' : pm_H} (hs : pw_T[c]? = some t) (hs' : pw_T[c']? = some t') (I : pw_I h) (E : pw_E W h h') (T : pw_PR c c' n h) (hn : (W.contains c || W.contains c') = false) : pw_PR c c' n h' := by
  obtain ⟨h1, h2⟩ := Bool.or_eq_false_iff.mp hn
  intro j hj
  rw [pw_Eg I E hs h1, pw_Eg I E hs' h2]
  exact T j hj
theorem pw_PRG {c c' n : Nat} {t t' : pw_S} {W : List Nat} {h h' : pm_H} (hs : pw_T[c]? = some t) (hs' : pw_T[c']? = some t') (I : pw_I h) (E : pw_G W h h') (T : pw_PR c c' n h) (hn : (W.contains c || W.contains c') = false) : pw_PR c c' n h' := by
  obtain ⟨h1, h2⟩ := Bool.or_eq_false_iff.mp hn
  intro j hj
  have e1 : pw_g h' c j = pw_g h c j := congrArg pw_iv (pw_Gg I E hs h1 j)
  have e2 : pw_g h' c' j = pw_g h c' j := congrArg pw_iv (pw_Gg I E hs' h2 j)
  rw [e1, e2]
  exact T j hj
theorem pw_PR.kit {c c' n : Nat} {h h1 h2 : pm_H} {ix ix' v a a' : Int} (T : pw_PR c c' n h) (s1 : ∀ j, pw_g h1 c' j = pw_g h c' j) (s2 : ∀ j, pw_g h2 c j = pw_g h1 c j) (haa : a = a') (h01 : a = 0 ∨ a = 1) (y1 : a = 1 → pw_up h h1 c ix v) (n1 : a = 0 → pw_sm h h1 c) (y2 : a' = 1 → pw_up h1 h2 c' ix' v) (n2 : a' = 0 → pw_sm h1 h2 c') (hi : ix.toNat = ix'.toNat) : pw_PR c c' n h2 := by
  subst haa
  intro j hj
  rcases h01 with z | z
  · rw [s2, n1 z, n2 z, s1]; exact T j hj
  · have u1 := y1 z
    have u2 := y2 z
    rcases (by omega : j = ix'.toNat ∨ j ≠ ix'.toNat) with e | e
    · rw [e, s2, u2.1, ← hi, u1.1]
    · rw [s2, u1.2 j (by omega), u2.2 j e, s1]; exact T j hj
theorem pw_PR.fp {c c' n : Nat} {h h1 h2 : pm_H} {lo k v a a' : Int} (T : pw_PR c c' n h) (s1 : ∀ j, pw_g h1 c' j = pw_g h c' j) (s2 : ∀ j, pw_g h2 c j = pw_g h1 c j) (haa : a = a') (h01 : a = 0 ∨ a = 1) (y1 : a = 1 → pw_FP h h1 c lo k v) (n1 : a = 0 → pw_sm h h1 c) (y2 : a' = 1 → pw_FP h1 h2 c' lo k v) (n2 : a' = 0 → pw_sm h1 h2 c') : pw_PR c c' n h2 := by
  subst haa
  intro j hj
  rcases h01 with z | z
  · rw [s2, n1 z, n2 z, s1]; exact T j hj
  · have u1 := y1 z j
    have u2 := y2 z j
    by_cases e : lo ≤ (j : Int) ∧ (j : Int) < k
    · rw [s2, u1.1 e, u2.1 e]
    · rw [s2, u1.2 e, u2.2 e, s1]; exact T j hj
theorem pv_sdcE {W : List Nat} {h h' : pm_H} {b e : Int} (I : pw_I h) (E : pw_E W h h') (hn : ((W.contains 0 || W.contains 2) || (W.contains 4 || W.contains 11)) = false) : pv_sdc h' b e = pv_sdc h b e ∧ pv_chc h' b e = pv_chc h b e := by
  obtain ⟨h1, h3⟩ := Bool.or_eq_false_iff.mp hn
  obtain ⟨h1, h2⟩ := Bool.or_eq_false_iff.mp h1
  obtain ⟨h3, h4⟩ := Bool.or_eq_false_iff.mp h3
  refine ⟨funext (fun k => ?_), funext (fun k => ?_)⟩
  · unfold pv_sdc
    rw [pw_Eg (c := 2) I E rfl h2, pw_Eg (c := 4) I E rfl h3, pw_Eg (c := 11) I E rfl h4, pw_Eg (c := 11) I E rfl h4]
  · unfold pv_chc
    rw [pw_Eg (c := 0) I E rfl h1, pw_Eg (c := 11) I E rfl h4, pw_Eg (c := 11) I E rfl h4]
theorem pv_lrH {v s w g t : Int} (hl : pw_Lr v s w g) (hs : s ≠ 0) (w1 : 0 ≤ w) (w2 : w ≤ 99) (g1 : 0 ≤ g) (g2 : g ≤ 99) : pw_hc v t = pw_hm w g t := by
  unfold pw_Lr at hl
  have e1 : max 0 v / 100 = w := by omega
  have e2 : max 0 v % 100 = g := by omega
  unfold pw_hc pw_hm
  rw [e1, e2, Int.mul_comm w 10, Int.mul_comm g]
theorem pv_same {h : pm_H} {b e : Int} (I : pw_I h) (T : pw_PR 2 131 24 h) (B : pw_PR 4 132 24 h) (L : pw_Lc h) (N : pw_Tn h) (hb0 : 0 ≤ b) (hb1 : b ≤ 11) (he0 : 0 ≤ e) (he1 : e ≤ 11) : ∀ k : Nat, k < 24 → pv_sdc h b e k = pv_sdm h b e k ∧ (pv_sdc h b e k ≠ -1 → pv_chc h b e k = pv_chm h b e k) := by
  have N : pw_g h 0 6 = pw_g h 125 15 := N
  intro k hk
  have ht := T k hk
  have hb := B k hk
  have ei : ∀ m : Int, ((k : Int) * 12 + m).toNat = (12 * (k : Int) + m).toNat := fun m => by omega
  have lb := L.1 (12 * (k : Int) + b).toNat (by omega)
  have le := L.1 (12 * (k : Int) + e).toNat (by omega)
  have w0 := pw_gA (c := 131) (j := (k : Int)) I rfl (by decide) (by omega) (by omega)
  rw [show ((k : Nat) : Int).toNat = k by omega] at w0
  have w1 := pw_gA (c := 139) (j := 12 * (k : Int) + b) I rfl (by decide) (by omega) (by omega)
  have w2 := pw_gA (c := 140) (j := 12 * (k : Int) + b) I rfl (by decide) (by omega) (by omega)
  have w3 := pw_gA (c := 139) (j := 12 * (k : Int) + e) I rfl (by decide) (by omega) (by omega)
  have w4 := pw_gA (c := 140) (j := 12 * (k : Int) + e) I rfl (by decide) (by omega) (by omega)
  unfold pv_sdc pv_sdm pv_chc pv_chm pv_hmk
  rw [ei b, ei e, N, hb]
  by_cases hq : pw_g h 131 k ≠ 0 ∧ pw_g h 138 (12 * (k : Int) + b).toNat ≠ 0 ∧ pw_g h 138 (12 * (k : Int) + e).toNat ≠ 0
  · have hq2 : pw_g h 2 k = 1 ∧ pw_g h 11 (12 * (k : Int) + b).toNat ≠ -2 ∧ pw_g h 11 (12 * (k : Int) + e).toNat ≠ -2 := by
      unfold pw_Lr at lb le
      omega
    rw [if_pos hq, if_pos hq2]
    refine ⟨rfl, fun _ => ?_⟩
    rw [pv_lrH lb hq.2.1 (by omega) (by omega) (by omega) (by omega), pv_lrH le hq.2.2 (by omega) (by omega) (by omega) (by omega)]
  · have hq2 : ¬ (pw_g h 2 k = 1 ∧ pw_g h 11 (12 * (k : Int) + b).toNat ≠ -2 ∧ pw_g h 11 (12 * (k : Int) + e).toNat ≠ -2) := by
      unfold pw_Lr at lb le
      omega
    rw [if_neg hq, if_neg hq2]
    exact ⟨rfl, fun q => absurd rfl q⟩
/-- both throw, or both answer the same -/
theorem pv_both {C C' O O' : Prop} {k t o b an an' : Int} (hC : C ↔ C') (hO : C → (O ↔ O')) (ha : C → an = an') (r1 : (k = 1 ∧ (¬ C ∨ ¬ O)) ∨ (k = 0 ∧ (C ∧ O ∧ o = an))) (r2 : (t = 1 ∧ (¬ C' ∨ ¬ O')) ∨ (t = 0 ∧ C' ∧ O' ∧ b = an')) : k = t ∧ (k = 0 → o = b) := by
  rcases r1 with ⟨k1, q1⟩ | ⟨k0, c, q, ho⟩ <;> rcases r2 with ⟨t1, p1⟩ | ⟨t0, c', p, hb⟩
  · exact ⟨by omega, fun z => absurd z (by omega)⟩
  · exfalso
    rcases q1 with z | z
    · exact z (hC.mpr c')
    · exact z ((hO (hC.mpr c')).mpr p)
  · exfalso
    rcases p1 with z | z
    · exact z (hC.mp c)
    · exact z ((hO c).mp q)
  · exact ⟨by omega, fun _ => by rw [ho, hb]; exact ha c⟩
theorem pv_aparts {W : List Nat} {h h1 h2 : pm_H} {b e dd wt a a' : Int} (I : pw_I h) (E : pw_E W h h1) (I1 : pw_I h1) (T : pw_PR 2 131 24 h1) (B : pw_PR 4 132 24 h1) (L : pw_Lc h1) (N : pw_Tn h1) (r1 : (a = 1 ∧ (¬ (0 ≤ b ∧ b ≤ 11 ∧ 0 ≤ e ∧ e ≤ 11 ∧ b ≠ e ∧ (-99) ≤ dd ∧ dd ≤ 99 ∧ 0 ≤ wt ∧ wt ≤ 1) ∨ ¬ pv_OK (pv_sdc h b e))) ∨ (a = 0 ∧ ((0 ≤ b ∧ b ≤ 11 ∧ 0 ≤ e ∧ e ≤ 11 ∧ b ≠ e ∧ (-99) ≤ dd ∧ dd ≤ 99 ∧ 0 ≤ wt ∧ wt ≤ 1) ∧ pv_OK (pv_sdc h b e) ∧ (pw_gm h1 169 0) = pv_LW (pv_U (pv_sdc h b e) (pv_chc h b e) - dd * (e - b) * pv_D (pv_sdc h b e)) (pv_D (pv_sdc h b e)) wt))) (r2 : (pw_g h2 125 0 = 1 ∧ (¬ (0 ≤ b ∧ b ≤ 11 ∧ 0 ≤ e ∧ e ≤ 11 ∧ b ≠ e ∧ (-99) ≤ dd ∧ dd ≤ 99 ∧ 0 ≤ wt ∧ wt ≤ 1) ∨ ¬ pv_OK (pv_sdm h1 b e))) ∨ (pw_g h2 125 0 = 0 ∧ (0 ≤ b ∧ b ≤ 11 ∧ 0 ≤ e ∧ e ≤ 11 ∧ b ≠ e ∧ (-99) ≤ dd ∧ dd ≤ 99 ∧ 0 ≤ wt ∧ wt ≤ 1) ∧ pv_OK (pv_sdm h1 b e) ∧ a' = pv_LW (pv_U (pv_sdm h1 b e) (pv_chm h1 b e) - dd * (e - b) * pv_D (pv_sdm h1 b e)) (pv_D (pv_sdm h1 b e)) wt)) (hn : ((W.contains 0 || W.contains 2) || (W.contains 4 || W.contains 11)) = false) : a = pw_g h2 125 0 ∧ (a = 0 → pw_gm h1 169 0 = a') := by
  obtain ⟨e1, e2⟩ := pv_sdcE (b := b) (e := e) I E hn
  rw [← e1, ← e2] at r1
  refine pv_both Iff.rfl (fun c => ?_) (fun c => ?_) r1 r2
  · exact (pv_Ucg (pv_same (b := b) (e := e) I1 T B L N (by omega) (by omega) (by omega) (by omega))).2.2.1
  · have u := pv_Ucg (pv_same (b := b) (e := e) I1 T B L N (by omega) (by omega) (by omega) (by omega))
    rw [u.1, u.2.1]
set_option maxHeartbeats 4000000 in
theorem lc_0 {X : List (Nat × List Value)} {xs : List Int32} {K : Nat} {h : pm_H} {Q : pm_H → (Option Value ⊕ Unit) → Prop} (hX0 : X[0]? = some (0, xs.map Value.int)) (hl : xs.length ≤ 3584) (hX : pw_Xk X) (hR : pw_Xr X) (I : pw_I h) (hK : pw_K h) (hTk : pw_PR 2 131 24 h) (hCk : pw_PR 3 135 24 h) (hBk : pw_PR 4 132 24 h) (hWk : pw_PR 5 133 24 h) (hMk : pw_PR 6 134 24 h) (hFk : pw_PR 8 136 24 h) (hRk : pw_PR 9 137 24 h) (hHk : pw_PR 14 162 288 h) (hGk : pw_PR 15 163 288 h) (hTn : pw_Tn h) (hLc : pw_Lc h) (hLs : pw_Shs h) (hRm : pw_Rm h) (hRo : pw_Ro h) (i : Int) (hi0 : 0 ≤ i) (hi1 : i + 7 ≤ xs.length) (a5 a6 a7 : Option Value) (s5 : ∀ n, pm_scl n a5 = true) (s6 : ∀ n, pm_scl n a6 = true) (s7 : ∀ n, pm_scl n a7 = true) (hB : ∀ (h' : pm_H) (b5 b6 b7 : Option Value), pw_I h' → pw_K h' → pw_PR 2 131 24 h' → pw_PR 3 135 24 h' → pw_PR 4 132 24 h' → pw_PR 5 133 24 h' → pw_PR 6 134 24 h' → pw_PR 8 136 24 h' → pw_PR 9 137 24 h' → pw_PR 14 162 288 h' → pw_PR 15 163 288 h' → pw_Tn h' → pw_Lc h' → pw_Shs h' → pw_Rm h' → pw_Ro h' → h'.length ≤ h.length + 1 → pm_slt h' ≤ pm_slt h + 1000 → (∀ n, pm_scl n b5 = true) → (∀ n, pm_scl n b6 = true) → (∀ n, pm_scl n b7 = true) → pwl X K h' 2368 [some (.ref 0), some (.ref 16), some (.ref 141), some (.ref 185), some (pw_i i), b5, b6, b7] [] Q) : pwl X (K + 150) h 220 [some (.ref 0), some (.ref 16), some (.ref 141), some (.ref 185), some (pw_i i), a5, a6, a7] [] Q := by
  have E : pm_ent 309 = some (1, 8, 13, 1, pmc_309) := rfl
  refine pwl_ld E (pc' := 221) (st' := [.ref 16]) rfl (fun _ => rfl) ?_
  refine pwl_ld E (pc' := 222) (st' := [.ref 0, .ref 16]) rfl (fun _ => rfl) ?_
  refine pwl_ld E (pc' := 224) (st' := [pw_i i, .ref 0, .ref 16]) rfl (fun _ => rfl) ?_
  refine pwl_ld E (pc' := 225) (st' := [pw_i 1, pw_i i, .ref 0, .ref 16]) rfl (fun _ => rfl) ?_
  refine pwl_add E (pc' := 226) rfl rfl ?_
  refine pwl_sald E (pc' := 227) rfl hX0 hl (by omega) (by omega) rfl ?_
  have hs1 := pw_s_r xs (i + 1)
  refine pwl_ld E (pc' := 228) (st' := [.ref 0, pw_i (pw_s xs (i + 1)), .ref 16]) rfl (fun _ => rfl) ?_
  refine pwl_ld E (pc' := 230) (st' := [pw_i i, .ref 0, pw_i (pw_s xs (i + 1)), .ref 16]) rfl (fun _ => rfl) ?_
  refine pwl_ld E (pc' := 231) (st' := [pw_i 2, pw_i i, .ref 0, pw_i (pw_s xs (i + 1)), .ref 16]) rfl (fun _ => rfl) ?_
  refine pwl_add E (pc' := 232) rfl rfl ?_
  refine pwl_sald E (pc' := 233) rfl hX0 hl (by omega) (by omega) rfl ?_
  have hs2 := pw_s_r xs (i + 2)
  refine pwl_ld E (pc' := 234) (st' := [.ref 0, pw_i (pw_s xs (i + 2)), pw_i (pw_s xs (i + 1)), .ref 16]) rfl (fun _ => rfl) ?_
  refine pwl_ld E (pc' := 236) (st' := [pw_i i, .ref 0, pw_i (pw_s xs (i + 2)), pw_i (pw_s xs (i + 1)), .ref 16]) rfl (fun _ => rfl) ?_
  refine pwl_ld E (pc' := 237) (st' := [pw_i 3, pw_i i, .ref 0, pw_i (pw_s xs (i + 2)), pw_i (pw_s xs (i + 1)), .ref 16]) rfl (fun _ => rfl) ?_
  refine pwl_add E (pc' := 238) rfl rfl ?_
  refine pwl_sald E (pc' := 239) rfl hX0 hl (by omega) (by omega) rfl ?_
  have hs3 := pw_s_r xs (i + 3)
  refine pwl_ld E (pc' := 240) (st' := [.ref 0, pw_i (pw_s xs (i + 3)), pw_i (pw_s xs (i + 2)), pw_i (pw_s xs (i + 1)), .ref 16]) rfl (fun _ => rfl) ?_
  refine pwl_ld E (pc' := 242) (st' := [pw_i i, .ref 0, pw_i (pw_s xs (i + 3)), pw_i (pw_s xs (i + 2)), pw_i (pw_s xs (i + 1)), .ref 16]) rfl (fun _ => rfl) ?_
  refine pwl_ld E (pc' := 243) (st' := [pw_i 4, pw_i i, .ref 0, pw_i (pw_s xs (i + 3)), pw_i (pw_s xs (i + 2)), pw_i (pw_s xs (i + 1)), .ref 16]) rfl (fun _ => rfl) ?_
  refine pwl_add E (pc' := 244) rfl rfl ?_
  refine pwl_sald E (pc' := 245) rfl hX0 hl (by omega) (by omega) rfl ?_
  have hs4 := pw_s_r xs (i + 4)
  refine pwl_ld E (pc' := 246) (st' := [.ref 0, pw_i (pw_s xs (i + 4)), pw_i (pw_s xs (i + 3)), pw_i (pw_s xs (i + 2)), pw_i (pw_s xs (i + 1)), .ref 16]) rfl (fun _ => rfl) ?_
  refine pwl_ld E (pc' := 248) (st' := [pw_i i, .ref 0, pw_i (pw_s xs (i + 4)), pw_i (pw_s xs (i + 3)), pw_i (pw_s xs (i + 2)), pw_i (pw_s xs (i + 1)), .ref 16]) rfl (fun _ => rfl) ?_
  refine pwl_ld E (pc' := 249) (st' := [pw_i 5, pw_i i, .ref 0, pw_i (pw_s xs (i + 4)), pw_i (pw_s xs (i + 3)), pw_i (pw_s xs (i + 2)), pw_i (pw_s xs (i + 1)), .ref 16]) rfl (fun _ => rfl) ?_
  refine pwl_add E (pc' := 250) rfl rfl ?_
  refine pwl_sald E (pc' := 251) rfl hX0 hl (by omega) (by omega) rfl ?_
  have hs5 := pw_s_r xs (i + 5)
  refine pwl_if E (pc' := 258) rfl (by decide) (by omega) (by omega) ?_ ?_
  · intro hc6
    have hc6 : pw_s xs (i + 5) = (0 : Int) := hc6
    refine pwl_ld E (pc' := 259) (st' := [pw_i 0, pw_i (pw_s xs (i + 4)), pw_i (pw_s xs (i + 3)), pw_i (pw_s xs (i + 2)), pw_i (pw_s xs (i + 1)), .ref 16]) rfl (fun _ => rfl) ?_
    obtain ⟨f7l, f7h, -⟩ := pw_obj (c := 0) I rfl
    refine pwl_call (m' := 119) (As := [.ref 16, pw_i (pw_s xs (i + 1)), pw_i (pw_s xs (i + 2)), pw_i (pw_s xs (i + 3)), pw_i (pw_s xs (i + 4)), pw_i 0]) (rest := []) (ls'' := [some (.ref 16), some (pw_i (pw_s xs (i + 1))), some (pw_i (pw_s xs (i + 2))), some (pw_i (pw_s xs (i + 3))), some (pw_i (pw_s xs (i + 4))), some (pw_i 0)]) E rfl (fun _ => pwl_iV rfl rfl rfl (pw_cellI f7h rfl)) (rfl : pm_ent 119 = some (6, 6, 11, 1, pmc_119)) (by decide) rfl rfl (cm_119_k (by decide) I (pw_s xs (i + 1)) (by omega) (by omega) (pw_s xs (i + 2)) (by omega) (by omega) (pw_s xs (i + 3)) (by omega) (by omega) (pw_s xs (i + 4)) (by omega) (by omega) 0 (by decide) (by decide)) ?_
    rintro h9 v8 ⟨h9I, h9E, x10, rfl, hx10a, hx10b, hx10r⟩
    refine ⟨_, rfl, ?_⟩
    have h9K := pw_KE I h9E hK rfl
    have h9L := h9E.1
    show pwl X _ h9 262 [some (.ref 0), some (.ref 16), some (.ref 141), some (.ref 185), some (pw_i i), a5, a6, a7] [pw_i x10] _
    have hx10r : ((x10 = 1 ∧ 0 ≤ (pw_s xs (i + 1)) ∧ (pw_s xs (i + 1)) ≤ 23 ∧ 0 ≤ (pw_s xs (i + 2)) ∧ (pw_s xs (i + 2)) ≤ 1 ∧ 0 ≤ (pw_s xs (i + 3)) ∧ (pw_s xs (i + 3)) ≤ 999 ∧ 0 ≤ (pw_s xs (i + 4)) ∧ (pw_s xs (i + 4)) ≤ 99) ∨ (x10 = 0 ∧ ¬ (0 ≤ (pw_s xs (i + 1)) ∧ (pw_s xs (i + 1)) ≤ 23 ∧ 0 ≤ (pw_s xs (i + 2)) ∧ (pw_s xs (i + 2)) ≤ 1 ∧ 0 ≤ (pw_s xs (i + 3)) ∧ (pw_s xs (i + 3)) ≤ 999 ∧ 0 ≤ (pw_s xs (i + 4)) ∧ (pw_s xs (i + 4)) ≤ 99))) ∧ (x10 = 1 → pw_up h h9 2 ((pw_s xs (i + 1))) (1) ∧ pw_up h h9 3 ((pw_s xs (i + 1))) (0) ∧ pw_up h h9 4 ((pw_s xs (i + 1))) ((pw_s xs (i + 2))) ∧ pw_up h h9 5 ((pw_s xs (i + 1))) ((pw_s xs (i + 3))) ∧ pw_up h h9 6 ((pw_s xs (i + 1))) ((pw_s xs (i + 4)))) ∧ (x10 = 0 → pw_sm h h9 2 ∧ pw_sm h h9 3 ∧ pw_sm h h9 4 ∧ pw_sm h h9 5 ∧ pw_sm h h9 6) := hx10r
    have h9Fk : pw_PR 8 136 24 h9 := pw_PRE (c := 8) (c' := 136) rfl rfl I h9E hFk rfl
    have h9Rk : pw_PR 9 137 24 h9 := pw_PRE (c := 9) (c' := 137) rfl rfl I h9E hRk rfl
    have h9Hk : pw_PR 14 162 288 h9 := pw_PRE (c := 14) (c' := 162) rfl rfl I h9E hHk rfl
    have h9Gk : pw_PR 15 163 288 h9 := pw_PRE (c := 15) (c' := 163) rfl rfl I h9E hGk rfl
    have h9Tn := pw_TnE I h9E hTn rfl
    have h9Lc := pw_LcE I h9E hLc rfl
    have h9Ls := pw_ShsE I h9E hLs rfl
    have h9Rm := pw_RmE I h9E hRm rfl
    have h9Ro := pw_RoE I h9E hRo rfl
    refine pwl_ld E (pc' := 263) (st' := []) rfl (fun _ => rfl) ?_
    refine pwl_ld E (pc' := 264) (st' := [.ref 141]) rfl (fun _ => rfl) ?_
    refine pwl_ld E (pc' := 265) (st' := [.ref 0, .ref 141]) rfl (fun _ => rfl) ?_
    refine pwl_ld E (pc' := 267) (st' := [pw_i i, .ref 0, .ref 141]) rfl (fun _ => rfl) ?_
    refine pwl_ld E (pc' := 268) (st' := [pw_i 1, pw_i i, .ref 0, .ref 141]) rfl (fun _ => rfl) ?_
    refine pwl_add E (pc' := 269) rfl rfl ?_
    refine pwl_sald E (pc' := 270) rfl hX0 hl (by omega) (by omega) rfl ?_
    have hs11 := pw_s_r xs (i + 1)
    refine pwl_ld E (pc' := 271) (st' := [.ref 0, pw_i (pw_s xs (i + 1)), .ref 141]) rfl (fun _ => rfl) ?_
    refine pwl_ld E (pc' := 273) (st' := [pw_i i, .ref 0, pw_i (pw_s xs (i + 1)), .ref 141]) rfl (fun _ => rfl) ?_
    refine pwl_ld E (pc' := 274) (st' := [pw_i 2, pw_i i, .ref 0, pw_i (pw_s xs (i + 1)), .ref 141]) rfl (fun _ => rfl) ?_
    refine pwl_add E (pc' := 275) rfl rfl ?_
    refine pwl_sald E (pc' := 276) rfl hX0 hl (by omega) (by omega) rfl ?_
    have hs12 := pw_s_r xs (i + 2)
    refine pwl_ld E (pc' := 277) (st' := [.ref 0, pw_i (pw_s xs (i + 2)), pw_i (pw_s xs (i + 1)), .ref 141]) rfl (fun _ => rfl) ?_
    refine pwl_ld E (pc' := 279) (st' := [pw_i i, .ref 0, pw_i (pw_s xs (i + 2)), pw_i (pw_s xs (i + 1)), .ref 141]) rfl (fun _ => rfl) ?_
    refine pwl_ld E (pc' := 280) (st' := [pw_i 3, pw_i i, .ref 0, pw_i (pw_s xs (i + 2)), pw_i (pw_s xs (i + 1)), .ref 141]) rfl (fun _ => rfl) ?_
    refine pwl_add E (pc' := 281) rfl rfl ?_
    refine pwl_sald E (pc' := 282) rfl hX0 hl (by omega) (by omega) rfl ?_
    have hs13 := pw_s_r xs (i + 3)
    refine pwl_ld E (pc' := 283) (st' := [.ref 0, pw_i (pw_s xs (i + 3)), pw_i (pw_s xs (i + 2)), pw_i (pw_s xs (i + 1)), .ref 141]) rfl (fun _ => rfl) ?_
    refine pwl_ld E (pc' := 285) (st' := [pw_i i, .ref 0, pw_i (pw_s xs (i + 3)), pw_i (pw_s xs (i + 2)), pw_i (pw_s xs (i + 1)), .ref 141]) rfl (fun _ => rfl) ?_
    refine pwl_ld E (pc' := 286) (st' := [pw_i 4, pw_i i, .ref 0, pw_i (pw_s xs (i + 3)), pw_i (pw_s xs (i + 2)), pw_i (pw_s xs (i + 1)), .ref 141]) rfl (fun _ => rfl) ?_
    refine pwl_add E (pc' := 287) rfl rfl ?_
    refine pwl_sald E (pc' := 288) rfl hX0 hl (by omega) (by omega) rfl ?_
    have hs14 := pw_s_r xs (i + 4)
    refine pwl_ld E (pc' := 289) (st' := [.ref 0, pw_i (pw_s xs (i + 4)), pw_i (pw_s xs (i + 3)), pw_i (pw_s xs (i + 2)), pw_i (pw_s xs (i + 1)), .ref 141]) rfl (fun _ => rfl) ?_
    refine pwl_ld E (pc' := 291) (st' := [pw_i i, .ref 0, pw_i (pw_s xs (i + 4)), pw_i (pw_s xs (i + 3)), pw_i (pw_s xs (i + 2)), pw_i (pw_s xs (i + 1)), .ref 141]) rfl (fun _ => rfl) ?_
    refine pwl_ld E (pc' := 292) (st' := [pw_i 5, pw_i i, .ref 0, pw_i (pw_s xs (i + 4)), pw_i (pw_s xs (i + 3)), pw_i (pw_s xs (i + 2)), pw_i (pw_s xs (i + 1)), .ref 141]) rfl (fun _ => rfl) ?_
    refine pwl_add E (pc' := 293) rfl rfl ?_
    refine pwl_sald E (pc' := 294) rfl hX0 hl (by omega) (by omega) rfl ?_
    have hs15 := pw_s_r xs (i + 5)
    refine pwl_if E (pc' := 301) rfl (by decide) (by omega) (by omega) ?_ ?_
    · intro hc16
      have hc16 : pw_s xs (i + 5) = (0 : Int) := hc16
      refine pwl_ld E (pc' := 302) (st' := [pw_i 0, pw_i (pw_s xs (i + 4)), pw_i (pw_s xs (i + 3)), pw_i (pw_s xs (i + 2)), pw_i (pw_s xs (i + 1)), .ref 141]) rfl (fun _ => rfl) ?_
      obtain ⟨f17l, f17h, -⟩ := pw_obj (c := 125) h9I rfl
      refine pwl_call (m' := 201) (As := [.ref 141, pw_i (pw_s xs (i + 1)), pw_i (pw_s xs (i + 2)), pw_i (pw_s xs (i + 3)), pw_i (pw_s xs (i + 4)), pw_i 0]) (rest := []) (ls'' := [some (.ref 141), some (pw_i (pw_s xs (i + 1))), some (pw_i (pw_s xs (i + 2))), some (pw_i (pw_s xs (i + 3))), some (pw_i (pw_s xs (i + 4))), some (pw_i 0)]) E rfl (fun _ => pwl_iV rfl rfl rfl (pw_cellI f17h rfl)) (rfl : pm_ent 201 = some (6, 6, 12, 1, pmc_201)) (by decide) rfl rfl (cm_201_k (by decide) h9I (pw_s xs (i + 1)) (by omega) (by omega) (pw_s xs (i + 2)) (by omega) (by omega) (pw_s xs (i + 3)) (by omega) (by omega) (pw_s xs (i + 4)) (by omega) (by omega) 0 (by decide) (by decide)) ?_
      rintro h19 v18 ⟨h19I, h19E, x20, rfl, hx20a, hx20b, hx20r⟩
      refine ⟨_, rfl, ?_⟩
      have h19K := pw_KE h9I h19E h9K rfl
      have h19L := h19E.1
      show pwl X _ h19 305 [some (.ref 0), some (.ref 16), some (.ref 141), some (.ref 185), some (pw_i i), a5, a6, a7] [pw_i x20] _
      have hx20r : ((x20 = 1 ∧ 0 ≤ (pw_s xs (i + 1)) ∧ (pw_s xs (i + 1)) ≤ 23 ∧ 0 ≤ (pw_s xs (i + 2)) ∧ (pw_s xs (i + 2)) ≤ 1 ∧ 0 ≤ (pw_s xs (i + 3)) ∧ (pw_s xs (i + 3)) ≤ 999 ∧ 0 ≤ (pw_s xs (i + 4)) ∧ (pw_s xs (i + 4)) ≤ 99) ∨ (x20 = 0 ∧ ¬ (0 ≤ (pw_s xs (i + 1)) ∧ (pw_s xs (i + 1)) ≤ 23 ∧ 0 ≤ (pw_s xs (i + 2)) ∧ (pw_s xs (i + 2)) ≤ 1 ∧ 0 ≤ (pw_s xs (i + 3)) ∧ (pw_s xs (i + 3)) ≤ 999 ∧ 0 ≤ (pw_s xs (i + 4)) ∧ (pw_s xs (i + 4)) ≤ 99))) ∧ (x20 = 1 → pw_up h9 h19 131 ((pw_s xs (i + 1))) (1) ∧ pw_up h9 h19 135 ((pw_s xs (i + 1))) (0) ∧ pw_up h9 h19 132 ((pw_s xs (i + 1))) ((pw_s xs (i + 2))) ∧ pw_up h9 h19 133 ((pw_s xs (i + 1))) ((pw_s xs (i + 3))) ∧ pw_up h9 h19 134 ((pw_s xs (i + 1))) ((pw_s xs (i + 4)))) ∧ (x20 = 0 → pw_sm h9 h19 131 ∧ pw_sm h9 h19 135 ∧ pw_sm h9 h19 132 ∧ pw_sm h9 h19 133 ∧ pw_sm h9 h19 134) := hx20r
      have h19Fk : pw_PR 8 136 24 h19 := pw_PRE (c := 8) (c' := 136) rfl rfl h9I h19E h9Fk rfl
      have h19Rk : pw_PR 9 137 24 h19 := pw_PRE (c := 9) (c' := 137) rfl rfl h9I h19E h9Rk rfl
      have h19Hk : pw_PR 14 162 288 h19 := pw_PRE (c := 14) (c' := 162) rfl rfl h9I h19E h9Hk rfl
      have h19Gk : pw_PR 15 163 288 h19 := pw_PRE (c := 15) (c' := 163) rfl rfl h9I h19E h9Gk rfl
      have h19Tn := pw_TnE h9I h19E h9Tn rfl
      have h19Lc := pw_LcE h9I h19E h9Lc rfl
      have h19Ls := pw_ShsE h9I h19E h9Ls rfl
      have h19Rm := pw_RmE h9I h19E h9Rm rfl
      have h19Ro := pw_RoE h9I h19E h9Ro rfl
      have haa : x10 = x20 := by have z1 := hx10r.1; have z2 := hx20r.1; omega
      have h19Tk : pw_PR 2 131 24 h19 := pw_PR.kit hTk (pw_Eg (c := 131) I h9E rfl rfl) (pw_Eg (c := 2) h9I h19E rfl rfl) haa (by omega) (fun z => (hx10r.2.1 z).1) (fun z => (hx10r.2.2 z).1) (fun z => (hx20r.2.1 z).1) (fun z => (hx20r.2.2 z).1) (by omega)
      have h19Ck : pw_PR 3 135 24 h19 := pw_PR.kit hCk (pw_Eg (c := 135) I h9E rfl rfl) (pw_Eg (c := 3) h9I h19E rfl rfl) haa (by omega) (fun z => (hx10r.2.1 z).2.1) (fun z => (hx10r.2.2 z).2.1) (fun z => (hx20r.2.1 z).2.1) (fun z => (hx20r.2.2 z).2.1) (by omega)
      have h19Bk : pw_PR 4 132 24 h19 := pw_PR.kit hBk (pw_Eg (c := 132) I h9E rfl rfl) (pw_Eg (c := 4) h9I h19E rfl rfl) haa (by omega) (fun z => (hx10r.2.1 z).2.2.1) (fun z => (hx10r.2.2 z).2.2.1) (fun z => (hx20r.2.1 z).2.2.1) (fun z => (hx20r.2.2 z).2.2.1) (by omega)
      have h19Wk : pw_PR 5 133 24 h19 := pw_PR.kit hWk (pw_Eg (c := 133) I h9E rfl rfl) (pw_Eg (c := 5) h9I h19E rfl rfl) haa (by omega) (fun z => (hx10r.2.1 z).2.2.2.1) (fun z => (hx10r.2.2 z).2.2.2.1) (fun z => (hx20r.2.1 z).2.2.2.1) (fun z => (hx20r.2.2 z).2.2.2.1) (by omega)
      have h19Mk : pw_PR 6 134 24 h19 := pw_PR.kit hMk (pw_Eg (c := 134) I h9E rfl rfl) (pw_Eg (c := 6) h9I h19E rfl rfl) haa (by omega) (fun z => (hx10r.2.1 z).2.2.2.2) (fun z => (hx10r.2.2 z).2.2.2.2) (fun z => (hx20r.2.1 z).2.2.2.2) (fun z => (hx20r.2.2 z).2.2.2.2) (by omega)
      refine pwl_ld E (pc' := 306) (st' := []) rfl (fun _ => rfl) ?_
      refine pwl_goto E (pc' := 2368) rfl (by decide) ?_
      exact pwl_mono (by omega) (hB h19 (a5) (a6) (a7) h19I h19K h19Tk h19Ck h19Bk h19Wk h19Mk h19Fk h19Rk h19Hk h19Gk h19Tn h19Lc h19Ls h19Rm h19Ro (by omega) (by omega) s5 s6 s7)
    · intro hc21
      have hc21 : ¬ (pw_s xs (i + 5) = (0 : Int)) := hc21
      exfalso; omega
  · intro hc22
    have hc22 : ¬ (pw_s xs (i + 5) = (0 : Int)) := hc22
    refine pwl_ld E (pc' := 255) (st' := [pw_i 1, pw_i (pw_s xs (i + 4)), pw_i (pw_s xs (i + 3)), pw_i (pw_s xs (i + 2)), pw_i (pw_s xs (i + 1)), .ref 16]) rfl (fun _ => rfl) ?_
    refine pwl_goto E (pc' := 259) rfl (by decide) ?_
    obtain ⟨f23l, f23h, -⟩ := pw_obj (c := 0) I rfl
    refine pwl_call (m' := 119) (As := [.ref 16, pw_i (pw_s xs (i + 1)), pw_i (pw_s xs (i + 2)), pw_i (pw_s xs (i + 3)), pw_i (pw_s xs (i + 4)), pw_i 1]) (rest := []) (ls'' := [some (.ref 16), some (pw_i (pw_s xs (i + 1))), some (pw_i (pw_s xs (i + 2))), some (pw_i (pw_s xs (i + 3))), some (pw_i (pw_s xs (i + 4))), some (pw_i 1)]) E rfl (fun _ => pwl_iV rfl rfl rfl (pw_cellI f23h rfl)) (rfl : pm_ent 119 = some (6, 6, 11, 1, pmc_119)) (by decide) rfl rfl (cm_119_k (by decide) I (pw_s xs (i + 1)) (by omega) (by omega) (pw_s xs (i + 2)) (by omega) (by omega) (pw_s xs (i + 3)) (by omega) (by omega) (pw_s xs (i + 4)) (by omega) (by omega) 1 (by decide) (by decide)) ?_
    rintro h25 v24 ⟨h25I, h25E, x26, rfl, hx26a, hx26b, hx26r⟩
    refine ⟨_, rfl, ?_⟩
    have h25K := pw_KE I h25E hK rfl
    have h25L := h25E.1
    show pwl X _ h25 262 [some (.ref 0), some (.ref 16), some (.ref 141), some (.ref 185), some (pw_i i), a5, a6, a7] [pw_i x26] _
    have hx26r : ((x26 = 1 ∧ 0 ≤ (pw_s xs (i + 1)) ∧ (pw_s xs (i + 1)) ≤ 23 ∧ 0 ≤ (pw_s xs (i + 2)) ∧ (pw_s xs (i + 2)) ≤ 1 ∧ 0 ≤ (pw_s xs (i + 3)) ∧ (pw_s xs (i + 3)) ≤ 999 ∧ 0 ≤ (pw_s xs (i + 4)) ∧ (pw_s xs (i + 4)) ≤ 99) ∨ (x26 = 0 ∧ ¬ (0 ≤ (pw_s xs (i + 1)) ∧ (pw_s xs (i + 1)) ≤ 23 ∧ 0 ≤ (pw_s xs (i + 2)) ∧ (pw_s xs (i + 2)) ≤ 1 ∧ 0 ≤ (pw_s xs (i + 3)) ∧ (pw_s xs (i + 3)) ≤ 999 ∧ 0 ≤ (pw_s xs (i + 4)) ∧ (pw_s xs (i + 4)) ≤ 99))) ∧ (x26 = 1 → pw_up h h25 2 ((pw_s xs (i + 1))) (1) ∧ pw_up h h25 3 ((pw_s xs (i + 1))) (1) ∧ pw_up h h25 4 ((pw_s xs (i + 1))) ((pw_s xs (i + 2))) ∧ pw_up h h25 5 ((pw_s xs (i + 1))) ((pw_s xs (i + 3))) ∧ pw_up h h25 6 ((pw_s xs (i + 1))) ((pw_s xs (i + 4)))) ∧ (x26 = 0 → pw_sm h h25 2 ∧ pw_sm h h25 3 ∧ pw_sm h h25 4 ∧ pw_sm h h25 5 ∧ pw_sm h h25 6) := hx26r
    have h25Fk : pw_PR 8 136 24 h25 := pw_PRE (c := 8) (c' := 136) rfl rfl I h25E hFk rfl
    have h25Rk : pw_PR 9 137 24 h25 := pw_PRE (c := 9) (c' := 137) rfl rfl I h25E hRk rfl
    have h25Hk : pw_PR 14 162 288 h25 := pw_PRE (c := 14) (c' := 162) rfl rfl I h25E hHk rfl
    have h25Gk : pw_PR 15 163 288 h25 := pw_PRE (c := 15) (c' := 163) rfl rfl I h25E hGk rfl
    have h25Tn := pw_TnE I h25E hTn rfl
    have h25Lc := pw_LcE I h25E hLc rfl
    have h25Ls := pw_ShsE I h25E hLs rfl
    have h25Rm := pw_RmE I h25E hRm rfl
    have h25Ro := pw_RoE I h25E hRo rfl
    refine pwl_ld E (pc' := 263) (st' := []) rfl (fun _ => rfl) ?_
    refine pwl_ld E (pc' := 264) (st' := [.ref 141]) rfl (fun _ => rfl) ?_
    refine pwl_ld E (pc' := 265) (st' := [.ref 0, .ref 141]) rfl (fun _ => rfl) ?_
    refine pwl_ld E (pc' := 267) (st' := [pw_i i, .ref 0, .ref 141]) rfl (fun _ => rfl) ?_
    refine pwl_ld E (pc' := 268) (st' := [pw_i 1, pw_i i, .ref 0, .ref 141]) rfl (fun _ => rfl) ?_
    refine pwl_add E (pc' := 269) rfl rfl ?_
    refine pwl_sald E (pc' := 270) rfl hX0 hl (by omega) (by omega) rfl ?_
    have hs27 := pw_s_r xs (i + 1)
    refine pwl_ld E (pc' := 271) (st' := [.ref 0, pw_i (pw_s xs (i + 1)), .ref 141]) rfl (fun _ => rfl) ?_
    refine pwl_ld E (pc' := 273) (st' := [pw_i i, .ref 0, pw_i (pw_s xs (i + 1)), .ref 141]) rfl (fun _ => rfl) ?_
    refine pwl_ld E (pc' := 274) (st' := [pw_i 2, pw_i i, .ref 0, pw_i (pw_s xs (i + 1)), .ref 141]) rfl (fun _ => rfl) ?_
    refine pwl_add E (pc' := 275) rfl rfl ?_
    refine pwl_sald E (pc' := 276) rfl hX0 hl (by omega) (by omega) rfl ?_
    have hs28 := pw_s_r xs (i + 2)
    refine pwl_ld E (pc' := 277) (st' := [.ref 0, pw_i (pw_s xs (i + 2)), pw_i (pw_s xs (i + 1)), .ref 141]) rfl (fun _ => rfl) ?_
    refine pwl_ld E (pc' := 279) (st' := [pw_i i, .ref 0, pw_i (pw_s xs (i + 2)), pw_i (pw_s xs (i + 1)), .ref 141]) rfl (fun _ => rfl) ?_
    refine pwl_ld E (pc' := 280) (st' := [pw_i 3, pw_i i, .ref 0, pw_i (pw_s xs (i + 2)), pw_i (pw_s xs (i + 1)), .ref 141]) rfl (fun _ => rfl) ?_
    refine pwl_add E (pc' := 281) rfl rfl ?_
    refine pwl_sald E (pc' := 282) rfl hX0 hl (by omega) (by omega) rfl ?_
    have hs29 := pw_s_r xs (i + 3)
    refine pwl_ld E (pc' := 283) (st' := [.ref 0, pw_i (pw_s xs (i + 3)), pw_i (pw_s xs (i + 2)), pw_i (pw_s xs (i + 1)), .ref 141]) rfl (fun _ => rfl) ?_
    refine pwl_ld E (pc' := 285) (st' := [pw_i i, .ref 0, pw_i (pw_s xs (i + 3)), pw_i (pw_s xs (i + 2)), pw_i (pw_s xs (i + 1)), .ref 141]) rfl (fun _ => rfl) ?_
    refine pwl_ld E (pc' := 286) (st' := [pw_i 4, pw_i i, .ref 0, pw_i (pw_s xs (i + 3)), pw_i (pw_s xs (i + 2)), pw_i (pw_s xs (i + 1)), .ref 141]) rfl (fun _ => rfl) ?_
    refine pwl_add E (pc' := 287) rfl rfl ?_
    refine pwl_sald E (pc' := 288) rfl hX0 hl (by omega) (by omega) rfl ?_
    have hs30 := pw_s_r xs (i + 4)
    refine pwl_ld E (pc' := 289) (st' := [.ref 0, pw_i (pw_s xs (i + 4)), pw_i (pw_s xs (i + 3)), pw_i (pw_s xs (i + 2)), pw_i (pw_s xs (i + 1)), .ref 141]) rfl (fun _ => rfl) ?_
    refine pwl_ld E (pc' := 291) (st' := [pw_i i, .ref 0, pw_i (pw_s xs (i + 4)), pw_i (pw_s xs (i + 3)), pw_i (pw_s xs (i + 2)), pw_i (pw_s xs (i + 1)), .ref 141]) rfl (fun _ => rfl) ?_
    refine pwl_ld E (pc' := 292) (st' := [pw_i 5, pw_i i, .ref 0, pw_i (pw_s xs (i + 4)), pw_i (pw_s xs (i + 3)), pw_i (pw_s xs (i + 2)), pw_i (pw_s xs (i + 1)), .ref 141]) rfl (fun _ => rfl) ?_
    refine pwl_add E (pc' := 293) rfl rfl ?_
    refine pwl_sald E (pc' := 294) rfl hX0 hl (by omega) (by omega) rfl ?_
    have hs31 := pw_s_r xs (i + 5)
    refine pwl_if E (pc' := 301) rfl (by decide) (by omega) (by omega) ?_ ?_
    · intro hc32
      have hc32 : pw_s xs (i + 5) = (0 : Int) := hc32
      exfalso; omega
    · intro hc33
      have hc33 : ¬ (pw_s xs (i + 5) = (0 : Int)) := hc33
      refine pwl_ld E (pc' := 298) (st' := [pw_i 1, pw_i (pw_s xs (i + 4)), pw_i (pw_s xs (i + 3)), pw_i (pw_s xs (i + 2)), pw_i (pw_s xs (i + 1)), .ref 141]) rfl (fun _ => rfl) ?_
      refine pwl_goto E (pc' := 302) rfl (by decide) ?_
      obtain ⟨f34l, f34h, -⟩ := pw_obj (c := 125) h25I rfl
      refine pwl_call (m' := 201) (As := [.ref 141, pw_i (pw_s xs (i + 1)), pw_i (pw_s xs (i + 2)), pw_i (pw_s xs (i + 3)), pw_i (pw_s xs (i + 4)), pw_i 1]) (rest := []) (ls'' := [some (.ref 141), some (pw_i (pw_s xs (i + 1))), some (pw_i (pw_s xs (i + 2))), some (pw_i (pw_s xs (i + 3))), some (pw_i (pw_s xs (i + 4))), some (pw_i 1)]) E rfl (fun _ => pwl_iV rfl rfl rfl (pw_cellI f34h rfl)) (rfl : pm_ent 201 = some (6, 6, 12, 1, pmc_201)) (by decide) rfl rfl (cm_201_k (by decide) h25I (pw_s xs (i + 1)) (by omega) (by omega) (pw_s xs (i + 2)) (by omega) (by omega) (pw_s xs (i + 3)) (by omega) (by omega) (pw_s xs (i + 4)) (by omega) (by omega) 1 (by decide) (by decide)) ?_
      rintro h36 v35 ⟨h36I, h36E, x37, rfl, hx37a, hx37b, hx37r⟩
      refine ⟨_, rfl, ?_⟩
      have h36K := pw_KE h25I h36E h25K rfl
      have h36L := h36E.1
      show pwl X _ h36 305 [some (.ref 0), some (.ref 16), some (.ref 141), some (.ref 185), some (pw_i i), a5, a6, a7] [pw_i x37] _
      have hx37r : ((x37 = 1 ∧ 0 ≤ (pw_s xs (i + 1)) ∧ (pw_s xs (i + 1)) ≤ 23 ∧ 0 ≤ (pw_s xs (i + 2)) ∧ (pw_s xs (i + 2)) ≤ 1 ∧ 0 ≤ (pw_s xs (i + 3)) ∧ (pw_s xs (i + 3)) ≤ 999 ∧ 0 ≤ (pw_s xs (i + 4)) ∧ (pw_s xs (i + 4)) ≤ 99) ∨ (x37 = 0 ∧ ¬ (0 ≤ (pw_s xs (i + 1)) ∧ (pw_s xs (i + 1)) ≤ 23 ∧ 0 ≤ (pw_s xs (i + 2)) ∧ (pw_s xs (i + 2)) ≤ 1 ∧ 0 ≤ (pw_s xs (i + 3)) ∧ (pw_s xs (i + 3)) ≤ 999 ∧ 0 ≤ (pw_s xs (i + 4)) ∧ (pw_s xs (i + 4)) ≤ 99))) ∧ (x37 = 1 → pw_up h25 h36 131 ((pw_s xs (i + 1))) (1) ∧ pw_up h25 h36 135 ((pw_s xs (i + 1))) (1) ∧ pw_up h25 h36 132 ((pw_s xs (i + 1))) ((pw_s xs (i + 2))) ∧ pw_up h25 h36 133 ((pw_s xs (i + 1))) ((pw_s xs (i + 3))) ∧ pw_up h25 h36 134 ((pw_s xs (i + 1))) ((pw_s xs (i + 4)))) ∧ (x37 = 0 → pw_sm h25 h36 131 ∧ pw_sm h25 h36 135 ∧ pw_sm h25 h36 132 ∧ pw_sm h25 h36 133 ∧ pw_sm h25 h36 134) := hx37r
      have h36Fk : pw_PR 8 136 24 h36 := pw_PRE (c := 8) (c' := 136) rfl rfl h25I h36E h25Fk rfl
      have h36Rk : pw_PR 9 137 24 h36 := pw_PRE (c := 9) (c' := 137) rfl rfl h25I h36E h25Rk rfl
      have h36Hk : pw_PR 14 162 288 h36 := pw_PRE (c := 14) (c' := 162) rfl rfl h25I h36E h25Hk rfl
      have h36Gk : pw_PR 15 163 288 h36 := pw_PRE (c := 15) (c' := 163) rfl rfl h25I h36E h25Gk rfl
      have h36Tn := pw_TnE h25I h36E h25Tn rfl
      have h36Lc := pw_LcE h25I h36E h25Lc rfl
      have h36Ls := pw_ShsE h25I h36E h25Ls rfl
      have h36Rm := pw_RmE h25I h36E h25Rm rfl
      have h36Ro := pw_RoE h25I h36E h25Ro rfl
      have haa : x26 = x37 := by have z1 := hx26r.1; have z2 := hx37r.1; omega
      have h36Tk : pw_PR 2 131 24 h36 := pw_PR.kit hTk (pw_Eg (c := 131) I h25E rfl rfl) (pw_Eg (c := 2) h25I h36E rfl rfl) haa (by omega) (fun z => (hx26r.2.1 z).1) (fun z => (hx26r.2.2 z).1) (fun z => (hx37r.2.1 z).1) (fun z => (hx37r.2.2 z).1) (by omega)
      have h36Ck : pw_PR 3 135 24 h36 := pw_PR.kit hCk (pw_Eg (c := 135) I h25E rfl rfl) (pw_Eg (c := 3) h25I h36E rfl rfl) haa (by omega) (fun z => (hx26r.2.1 z).2.1) (fun z => (hx26r.2.2 z).2.1) (fun z => (hx37r.2.1 z).2.1) (fun z => (hx37r.2.2 z).2.1) (by omega)
      have h36Bk : pw_PR 4 132 24 h36 := pw_PR.kit hBk (pw_Eg (c := 132) I h25E rfl rfl) (pw_Eg (c := 4) h25I h36E rfl rfl) haa (by omega) (fun z => (hx26r.2.1 z).2.2.1) (fun z => (hx26r.2.2 z).2.2.1) (fun z => (hx37r.2.1 z).2.2.1) (fun z => (hx37r.2.2 z).2.2.1) (by omega)
      have h36Wk : pw_PR 5 133 24 h36 := pw_PR.kit hWk (pw_Eg (c := 133) I h25E rfl rfl) (pw_Eg (c := 5) h25I h36E rfl rfl) haa (by omega) (fun z => (hx26r.2.1 z).2.2.2.1) (fun z => (hx26r.2.2 z).2.2.2.1) (fun z => (hx37r.2.1 z).2.2.2.1) (fun z => (hx37r.2.2 z).2.2.2.1) (by omega)
      have h36Mk : pw_PR 6 134 24 h36 := pw_PR.kit hMk (pw_Eg (c := 134) I h25E rfl rfl) (pw_Eg (c := 6) h25I h36E rfl rfl) haa (by omega) (fun z => (hx26r.2.1 z).2.2.2.2) (fun z => (hx26r.2.2 z).2.2.2.2) (fun z => (hx37r.2.1 z).2.2.2.2) (fun z => (hx37r.2.2 z).2.2.2.2) (by omega)
      refine pwl_ld E (pc' := 306) (st' := []) rfl (fun _ => rfl) ?_
      refine pwl_goto E (pc' := 2368) rfl (by decide) ?_
      exact pwl_mono (by omega) (hB h36 (a5) (a6) (a7) h36I h36K h36Tk h36Ck h36Bk h36Wk h36Mk h36Fk h36Rk h36Hk h36Gk h36Tn h36Lc h36Ls h36Rm h36Ro (by omega) (by omega) s5 s6 s7)
set_option maxHeartbeats 4000000 in
theorem lc_1 {X : List (Nat × List Value)} {xs : List Int32} {K : Nat} {h : pm_H} {Q : pm_H → (Option Value ⊕ Unit) → Prop} (hX0 : X[0]? = some (0, xs.map Value.int)) (hl : xs.length ≤ 3584) (hX : pw_Xk X) (hR : pw_Xr X) (I : pw_I h) (hK : pw_K h) (hTk : pw_PR 2 131 24 h) (hCk : pw_PR 3 135 24 h) (hBk : pw_PR 4 132 24 h) (hWk : pw_PR 5 133 24 h) (hMk : pw_PR 6 134 24 h) (hFk : pw_PR 8 136 24 h) (hRk : pw_PR 9 137 24 h) (hHk : pw_PR 14 162 288 h) (hGk : pw_PR 15 163 288 h) (hTn : pw_Tn h) (hLc : pw_Lc h) (hLs : pw_Shs h) (hRm : pw_Rm h) (hRo : pw_Ro h) (i : Int) (hi0 : 0 ≤ i) (hi1 : i + 7 ≤ xs.length) (a5 a6 a7 : Option Value) (s5 : ∀ n, pm_scl n a5 = true) (s6 : ∀ n, pm_scl n a6 = true) (s7 : ∀ n, pm_scl n a7 = true) (hB : ∀ (h' : pm_H) (b5 b6 b7 : Option Value), pw_I h' → pw_K h' → pw_PR 2 131 24 h' → pw_PR 3 135 24 h' → pw_PR 4 132 24 h' → pw_PR 5 133 24 h' → pw_PR 6 134 24 h' → pw_PR 8 136 24 h' → pw_PR 9 137 24 h' → pw_PR 14 162 288 h' → pw_PR 15 163 288 h' → pw_Tn h' → pw_Lc h' → pw_Shs h' → pw_Rm h' → pw_Ro h' → h'.length ≤ h.length + 1 → pm_slt h' ≤ pm_slt h + 1000 → (∀ n, pm_scl n b5 = true) → (∀ n, pm_scl n b6 = true) → (∀ n, pm_scl n b7 = true) → pwl X K h' 2368 [some (.ref 0), some (.ref 16), some (.ref 141), some (.ref 185), some (pw_i i), b5, b6, b7] [] Q) : pwl X (K + 150) h 309 [some (.ref 0), some (.ref 16), some (.ref 141), some (.ref 185), some (pw_i i), a5, a6, a7] [] Q := by
  have E : pm_ent 309 = some (1, 8, 13, 1, pmc_309) := rfl
  refine pwl_ld E (pc' := 310) (st' := [.ref 16]) rfl (fun _ => rfl) ?_
  refine pwl_ld E (pc' := 311) (st' := [.ref 0, .ref 16]) rfl (fun _ => rfl) ?_
  refine pwl_ld E (pc' := 313) (st' := [pw_i i, .ref 0, .ref 16]) rfl (fun _ => rfl) ?_
  refine pwl_ld E (pc' := 314) (st' := [pw_i 1, pw_i i, .ref 0, .ref 16]) rfl (fun _ => rfl) ?_
  refine pwl_add E (pc' := 315) rfl rfl ?_
  refine pwl_sald E (pc' := 316) rfl hX0 hl (by omega) (by omega) rfl ?_
  have hs1 := pw_s_r xs (i + 1)
  refine pwl_ld E (pc' := 317) (st' := [.ref 0, pw_i (pw_s xs (i + 1)), .ref 16]) rfl (fun _ => rfl) ?_
  refine pwl_ld E (pc' := 319) (st' := [pw_i i, .ref 0, pw_i (pw_s xs (i + 1)), .ref 16]) rfl (fun _ => rfl) ?_
  refine pwl_ld E (pc' := 320) (st' := [pw_i 2, pw_i i, .ref 0, pw_i (pw_s xs (i + 1)), .ref 16]) rfl (fun _ => rfl) ?_
  refine pwl_add E (pc' := 321) rfl rfl ?_
  refine pwl_sald E (pc' := 322) rfl hX0 hl (by omega) (by omega) rfl ?_
  have hs2 := pw_s_r xs (i + 2)
  refine pwl_ld E (pc' := 323) (st' := [.ref 0, pw_i (pw_s xs (i + 2)), pw_i (pw_s xs (i + 1)), .ref 16]) rfl (fun _ => rfl) ?_
  refine pwl_ld E (pc' := 325) (st' := [pw_i i, .ref 0, pw_i (pw_s xs (i + 2)), pw_i (pw_s xs (i + 1)), .ref 16]) rfl (fun _ => rfl) ?_
  refine pwl_ld E (pc' := 326) (st' := [pw_i 3, pw_i i, .ref 0, pw_i (pw_s xs (i + 2)), pw_i (pw_s xs (i + 1)), .ref 16]) rfl (fun _ => rfl) ?_
  refine pwl_add E (pc' := 327) rfl rfl ?_
  refine pwl_sald E (pc' := 328) rfl hX0 hl (by omega) (by omega) rfl ?_
  have hs3 := pw_s_r xs (i + 3)
  refine pwl_ld E (pc' := 329) (st' := [.ref 0, pw_i (pw_s xs (i + 3)), pw_i (pw_s xs (i + 2)), pw_i (pw_s xs (i + 1)), .ref 16]) rfl (fun _ => rfl) ?_
  refine pwl_ld E (pc' := 331) (st' := [pw_i i, .ref 0, pw_i (pw_s xs (i + 3)), pw_i (pw_s xs (i + 2)), pw_i (pw_s xs (i + 1)), .ref 16]) rfl (fun _ => rfl) ?_
  refine pwl_ld E (pc' := 332) (st' := [pw_i 4, pw_i i, .ref 0, pw_i (pw_s xs (i + 3)), pw_i (pw_s xs (i + 2)), pw_i (pw_s xs (i + 1)), .ref 16]) rfl (fun _ => rfl) ?_
  refine pwl_add E (pc' := 333) rfl rfl ?_
  refine pwl_sald E (pc' := 334) rfl hX0 hl (by omega) (by omega) rfl ?_
  have hs4 := pw_s_r xs (i + 4)
  obtain ⟨f5l, f5h, -⟩ := pw_obj (c := 0) I rfl
  refine pwl_call (m' := 123) (As := [.ref 16, pw_i (pw_s xs (i + 1)), pw_i (pw_s xs (i + 2)), pw_i (pw_s xs (i + 3)), pw_i (pw_s xs (i + 4))]) (rest := []) (ls'' := [some (.ref 16), some (pw_i (pw_s xs (i + 1))), some (pw_i (pw_s xs (i + 2))), some (pw_i (pw_s xs (i + 3))), some (pw_i (pw_s xs (i + 4)))]) E rfl (fun _ => pwl_iV rfl rfl rfl (pw_cellI f5h rfl)) (rfl : pm_ent 123 = some (5, 5, 11, 1, pmc_123)) (by decide) rfl rfl (cm_123_h (by decide) I (pw_s xs (i + 1)) (by omega) (by omega) (pw_s xs (i + 2)) (by omega) (by omega) (pw_s xs (i + 3)) (by omega) (by omega) (pw_s xs (i + 4)) (by omega) (by omega)) ?_
  rintro h7 v6 ⟨h7I, h7E, x8, rfl, hx8a, hx8b, hx8r⟩
  refine ⟨_, rfl, ?_⟩
  have h7K := pw_KE I h7E hK rfl
  have h7L := h7E.1
  show pwl X _ h7 337 [some (.ref 0), some (.ref 16), some (.ref 141), some (.ref 185), some (pw_i i), a5, a6, a7] [pw_i x8] _
  have hx8r : ((x8 = 1 ∧ 0 ≤ (pw_s xs (i + 1)) ∧ (pw_s xs (i + 1)) ≤ 23 ∧ pw_g h 2 (pw_s xs (i + 1)).toNat = 1 ∧ 0 ≤ (pw_s xs (i + 2)) ∧ (pw_s xs (i + 2)) ≤ 11 ∧ (((pw_s xs (i + 3)) = -1 ∧ (pw_s xs (i + 4)) = -1) ∨ (0 ≤ (pw_s xs (i + 3)) ∧ (pw_s xs (i + 3)) ≤ 99 ∧ (pw_s xs (i + 4)) = -1) ∨ (0 ≤ (pw_s xs (i + 3)) ∧ (pw_s xs (i + 3)) ≤ 99 ∧ 0 ≤ (pw_s xs (i + 4)) ∧ (pw_s xs (i + 4)) ≤ 99))) ∨ (x8 = 0 ∧ ¬ (0 ≤ (pw_s xs (i + 1)) ∧ (pw_s xs (i + 1)) ≤ 23 ∧ pw_g h 2 (pw_s xs (i + 1)).toNat = 1 ∧ 0 ≤ (pw_s xs (i + 2)) ∧ (pw_s xs (i + 2)) ≤ 11 ∧ (((pw_s xs (i + 3)) = -1 ∧ (pw_s xs (i + 4)) = -1) ∨ (0 ≤ (pw_s xs (i + 3)) ∧ (pw_s xs (i + 3)) ≤ 99 ∧ (pw_s xs (i + 4)) = -1) ∨ (0 ≤ (pw_s xs (i + 3)) ∧ (pw_s xs (i + 3)) ≤ 99 ∧ 0 ≤ (pw_s xs (i + 4)) ∧ (pw_s xs (i + 4)) ≤ 99))))) ∧ (x8 = 1 → ∃ v : Int, pw_cv (pw_s xs (i + 3)) (pw_s xs (i + 4)) v ∧ pw_up h h7 11 ((pw_s xs (i + 1)) * 12 + (pw_s xs (i + 2))) (v)) ∧ (x8 = 0 → pw_sm h h7 11) := hx8r
  have h7Tk : pw_PR 2 131 24 h7 := pw_PRE (c := 2) (c' := 131) rfl rfl I h7E hTk rfl
  have h7Ck : pw_PR 3 135 24 h7 := pw_PRE (c := 3) (c' := 135) rfl rfl I h7E hCk rfl
  have h7Bk : pw_PR 4 132 24 h7 := pw_PRE (c := 4) (c' := 132) rfl rfl I h7E hBk rfl
  have h7Wk : pw_PR 5 133 24 h7 := pw_PRE (c := 5) (c' := 133) rfl rfl I h7E hWk rfl
  have h7Mk : pw_PR 6 134 24 h7 := pw_PRE (c := 6) (c' := 134) rfl rfl I h7E hMk rfl
  have h7Fk : pw_PR 8 136 24 h7 := pw_PRE (c := 8) (c' := 136) rfl rfl I h7E hFk rfl
  have h7Rk : pw_PR 9 137 24 h7 := pw_PRE (c := 9) (c' := 137) rfl rfl I h7E hRk rfl
  have h7Hk : pw_PR 14 162 288 h7 := pw_PRE (c := 14) (c' := 162) rfl rfl I h7E hHk rfl
  have h7Gk : pw_PR 15 163 288 h7 := pw_PRE (c := 15) (c' := 163) rfl rfl I h7E hGk rfl
  have h7Tn := pw_TnE I h7E hTn rfl
  have h7Ls := pw_ShsE I h7E hLs rfl
  have h7Rm := pw_RmE I h7E hRm rfl
  have h7Ro := pw_RoE I h7E hRo rfl
  refine pwl_ld E (pc' := 338) (st' := []) rfl (fun _ => rfl) ?_
  refine pwl_ld E (pc' := 339) (st' := [.ref 141]) rfl (fun _ => rfl) ?_
  refine pwl_ld E (pc' := 340) (st' := [.ref 0, .ref 141]) rfl (fun _ => rfl) ?_
  refine pwl_ld E (pc' := 342) (st' := [pw_i i, .ref 0, .ref 141]) rfl (fun _ => rfl) ?_
  refine pwl_ld E (pc' := 343) (st' := [pw_i 1, pw_i i, .ref 0, .ref 141]) rfl (fun _ => rfl) ?_
  refine pwl_add E (pc' := 344) rfl rfl ?_
  refine pwl_sald E (pc' := 345) rfl hX0 hl (by omega) (by omega) rfl ?_
  have hs9 := pw_s_r xs (i + 1)
  refine pwl_ld E (pc' := 346) (st' := [.ref 0, pw_i (pw_s xs (i + 1)), .ref 141]) rfl (fun _ => rfl) ?_
  refine pwl_ld E (pc' := 348) (st' := [pw_i i, .ref 0, pw_i (pw_s xs (i + 1)), .ref 141]) rfl (fun _ => rfl) ?_
  refine pwl_ld E (pc' := 349) (st' := [pw_i 2, pw_i i, .ref 0, pw_i (pw_s xs (i + 1)), .ref 141]) rfl (fun _ => rfl) ?_
  refine pwl_add E (pc' := 350) rfl rfl ?_
  refine pwl_sald E (pc' := 351) rfl hX0 hl (by omega) (by omega) rfl ?_
  have hs10 := pw_s_r xs (i + 2)
  refine pwl_ld E (pc' := 352) (st' := [.ref 0, pw_i (pw_s xs (i + 2)), pw_i (pw_s xs (i + 1)), .ref 141]) rfl (fun _ => rfl) ?_
  refine pwl_ld E (pc' := 354) (st' := [pw_i i, .ref 0, pw_i (pw_s xs (i + 2)), pw_i (pw_s xs (i + 1)), .ref 141]) rfl (fun _ => rfl) ?_
  refine pwl_ld E (pc' := 355) (st' := [pw_i 3, pw_i i, .ref 0, pw_i (pw_s xs (i + 2)), pw_i (pw_s xs (i + 1)), .ref 141]) rfl (fun _ => rfl) ?_
  refine pwl_add E (pc' := 356) rfl rfl ?_
  refine pwl_sald E (pc' := 357) rfl hX0 hl (by omega) (by omega) rfl ?_
  have hs11 := pw_s_r xs (i + 3)
  refine pwl_ld E (pc' := 358) (st' := [.ref 0, pw_i (pw_s xs (i + 3)), pw_i (pw_s xs (i + 2)), pw_i (pw_s xs (i + 1)), .ref 141]) rfl (fun _ => rfl) ?_
  refine pwl_ld E (pc' := 360) (st' := [pw_i i, .ref 0, pw_i (pw_s xs (i + 3)), pw_i (pw_s xs (i + 2)), pw_i (pw_s xs (i + 1)), .ref 141]) rfl (fun _ => rfl) ?_
  refine pwl_ld E (pc' := 361) (st' := [pw_i 4, pw_i i, .ref 0, pw_i (pw_s xs (i + 3)), pw_i (pw_s xs (i + 2)), pw_i (pw_s xs (i + 1)), .ref 141]) rfl (fun _ => rfl) ?_
  refine pwl_add E (pc' := 362) rfl rfl ?_
  refine pwl_sald E (pc' := 363) rfl hX0 hl (by omega) (by omega) rfl ?_
  have hs12 := pw_s_r xs (i + 4)
  obtain ⟨f13l, f13h, -⟩ := pw_obj (c := 125) h7I rfl
  refine pwl_call (m' := 203) (As := [.ref 141, pw_i (pw_s xs (i + 1)), pw_i (pw_s xs (i + 2)), pw_i (pw_s xs (i + 3)), pw_i (pw_s xs (i + 4))]) (rest := []) (ls'' := [some (.ref 141), some (pw_i (pw_s xs (i + 1))), some (pw_i (pw_s xs (i + 2))), some (pw_i (pw_s xs (i + 3))), some (pw_i (pw_s xs (i + 4))), none, none, none]) E rfl (fun _ => pwl_iV rfl rfl rfl (pw_cellI f13h rfl)) (rfl : pm_ent 203 = some (5, 8, 12, 1, pmc_203)) (by decide) rfl rfl (cm_203_h (by decide) h7I (pw_s xs (i + 1)) (by omega) (by omega) (pw_s xs (i + 2)) (by omega) (by omega) (pw_s xs (i + 3)) (by omega) (by omega) (pw_s xs (i + 4)) (by omega) (by omega)) ?_
  rintro h15 v14 ⟨h15I, h15E, x16, rfl, hx16a, hx16b, hx16r⟩
  refine ⟨_, rfl, ?_⟩
  have h15K := pw_KE h7I h15E h7K rfl
  have h15L := h15E.1
  show pwl X _ h15 366 [some (.ref 0), some (.ref 16), some (.ref 141), some (.ref 185), some (pw_i i), a5, a6, a7] [pw_i x16] _
  have hx16r : ((x16 = 1 ∧ 0 ≤ (pw_s xs (i + 1)) ∧ (pw_s xs (i + 1)) ≤ 23 ∧ pw_g h7 131 (pw_s xs (i + 1)).toNat = 1 ∧ 0 ≤ (pw_s xs (i + 2)) ∧ (pw_s xs (i + 2)) ≤ 11 ∧ (((pw_s xs (i + 3)) = -1 ∧ (pw_s xs (i + 4)) = -1) ∨ (0 ≤ (pw_s xs (i + 3)) ∧ (pw_s xs (i + 3)) ≤ 99 ∧ (pw_s xs (i + 4)) = -1) ∨ (0 ≤ (pw_s xs (i + 3)) ∧ (pw_s xs (i + 3)) ≤ 99 ∧ 0 ≤ (pw_s xs (i + 4)) ∧ (pw_s xs (i + 4)) ≤ 99))) ∨ (x16 = 0 ∧ ¬ (0 ≤ (pw_s xs (i + 1)) ∧ (pw_s xs (i + 1)) ≤ 23 ∧ pw_g h7 131 (pw_s xs (i + 1)).toNat = 1 ∧ 0 ≤ (pw_s xs (i + 2)) ∧ (pw_s xs (i + 2)) ≤ 11 ∧ (((pw_s xs (i + 3)) = -1 ∧ (pw_s xs (i + 4)) = -1) ∨ (0 ≤ (pw_s xs (i + 3)) ∧ (pw_s xs (i + 3)) ≤ 99 ∧ (pw_s xs (i + 4)) = -1) ∨ (0 ≤ (pw_s xs (i + 3)) ∧ (pw_s xs (i + 3)) ≤ 99 ∧ 0 ≤ (pw_s xs (i + 4)) ∧ (pw_s xs (i + 4)) ≤ 99))))) ∧ (x16 = 1 → ∃ v w g : Int, pw_mv (pw_s xs (i + 3)) (pw_s xs (i + 4)) v w g ∧ pw_up h7 h15 138 (12 * (pw_s xs (i + 1)) + (pw_s xs (i + 2))) (v) ∧ pw_up h7 h15 139 (12 * (pw_s xs (i + 1)) + (pw_s xs (i + 2))) (w) ∧ pw_up h7 h15 140 (12 * (pw_s xs (i + 1)) + (pw_s xs (i + 2))) (g)) ∧ (x16 = 0 → pw_sm h7 h15 138 ∧ pw_sm h7 h15 139 ∧ pw_sm h7 h15 140) := hx16r
  have h15Tk : pw_PR 2 131 24 h15 := pw_PRE (c := 2) (c' := 131) rfl rfl h7I h15E h7Tk rfl
  have h15Ck : pw_PR 3 135 24 h15 := pw_PRE (c := 3) (c' := 135) rfl rfl h7I h15E h7Ck rfl
  have h15Bk : pw_PR 4 132 24 h15 := pw_PRE (c := 4) (c' := 132) rfl rfl h7I h15E h7Bk rfl
  have h15Wk : pw_PR 5 133 24 h15 := pw_PRE (c := 5) (c' := 133) rfl rfl h7I h15E h7Wk rfl
  have h15Mk : pw_PR 6 134 24 h15 := pw_PRE (c := 6) (c' := 134) rfl rfl h7I h15E h7Mk rfl
  have h15Fk : pw_PR 8 136 24 h15 := pw_PRE (c := 8) (c' := 136) rfl rfl h7I h15E h7Fk rfl
  have h15Rk : pw_PR 9 137 24 h15 := pw_PRE (c := 9) (c' := 137) rfl rfl h7I h15E h7Rk rfl
  have h15Hk : pw_PR 14 162 288 h15 := pw_PRE (c := 14) (c' := 162) rfl rfl h7I h15E h7Hk rfl
  have h15Gk : pw_PR 15 163 288 h15 := pw_PRE (c := 15) (c' := 163) rfl rfl h7I h15E h7Gk rfl
  have h15Tn := pw_TnE h7I h15E h7Tn rfl
  have h15Ls := pw_ShsE h7I h15E h7Ls rfl
  have h15Rm := pw_RmE h7I h15E h7Rm rfl
  have h15Ro := pw_RoE h7I h15E h7Ro rfl
  have hkt : 0 ≤ (pw_s xs (i + 1)) ∧ (pw_s xs (i + 1)) ≤ 23 → pw_g h 2 ((pw_s xs (i + 1))).toNat = pw_g h7 131 ((pw_s xs (i + 1))).toNat := fun q => (hTk _ (by omega)).trans (pw_Eg (c := 131) I h7E rfl rfl _).symm
  have haa : x8 = x16 := by have z1 := hx8r.1; have z2 := hx16r.1; omega
  have h15Lc := pw_Lc.call I h7I h7E h15E hLc haa (by omega) hx8r.2 hx16r.2 (by have z1 := hx8r.1; omega) rfl rfl
  refine pwl_ld E (pc' := 367) (st' := []) rfl (fun _ => rfl) ?_
  refine pwl_goto E (pc' := 2368) rfl (by decide) ?_
  exact pwl_mono (by omega) (hB h15 (a5) (a6) (a7) h15I h15K h15Tk h15Ck h15Bk h15Wk h15Mk h15Fk h15Rk h15Hk h15Gk h15Tn h15Lc h15Ls h15Rm h15Ro (by omega) (by omega) s5 s6 s7)
set_option maxHeartbeats 4000000 in
theorem lc_2 {X : List (Nat × List Value)} {xs : List Int32} {K : Nat} {h : pm_H} {Q : pm_H → (Option Value ⊕ Unit) → Prop} (hX0 : X[0]? = some (0, xs.map Value.int)) (hl : xs.length ≤ 3584) (hX : pw_Xk X) (hR : pw_Xr X) (I : pw_I h) (hK : pw_K h) (hTk : pw_PR 2 131 24 h) (hCk : pw_PR 3 135 24 h) (hBk : pw_PR 4 132 24 h) (hWk : pw_PR 5 133 24 h) (hMk : pw_PR 6 134 24 h) (hFk : pw_PR 8 136 24 h) (hRk : pw_PR 9 137 24 h) (hHk : pw_PR 14 162 288 h) (hGk : pw_PR 15 163 288 h) (hTn : pw_Tn h) (hLc : pw_Lc h) (hLs : pw_Shs h) (hRm : pw_Rm h) (hRo : pw_Ro h) (i : Int) (hi0 : 0 ≤ i) (hi1 : i + 7 ≤ xs.length) (a5 a6 a7 : Option Value) (s5 : ∀ n, pm_scl n a5 = true) (s6 : ∀ n, pm_scl n a6 = true) (s7 : ∀ n, pm_scl n a7 = true) (hB : ∀ (h' : pm_H) (b5 b6 b7 : Option Value), pw_I h' → pw_K h' → pw_PR 2 131 24 h' → pw_PR 3 135 24 h' → pw_PR 4 132 24 h' → pw_PR 5 133 24 h' → pw_PR 6 134 24 h' → pw_PR 8 136 24 h' → pw_PR 9 137 24 h' → pw_PR 14 162 288 h' → pw_PR 15 163 288 h' → pw_Tn h' → pw_Lc h' → pw_Shs h' → pw_Rm h' → pw_Ro h' → h'.length ≤ h.length + 1 → pm_slt h' ≤ pm_slt h + 1000 → (∀ n, pm_scl n b5 = true) → (∀ n, pm_scl n b6 = true) → (∀ n, pm_scl n b7 = true) → pwl X K h' 2368 [some (.ref 0), some (.ref 16), some (.ref 141), some (.ref 185), some (pw_i i), b5, b6, b7] [] Q) : pwl X (K + 150) h 370 [some (.ref 0), some (.ref 16), some (.ref 141), some (.ref 185), some (pw_i i), a5, a6, a7] [] Q := by
  have E : pm_ent 309 = some (1, 8, 13, 1, pmc_309) := rfl
  refine pwl_ld E (pc' := 371) (st' := [.ref 16]) rfl (fun _ => rfl) ?_
  refine pwl_ld E (pc' := 372) (st' := [.ref 0, .ref 16]) rfl (fun _ => rfl) ?_
  refine pwl_ld E (pc' := 374) (st' := [pw_i i, .ref 0, .ref 16]) rfl (fun _ => rfl) ?_
  refine pwl_ld E (pc' := 375) (st' := [pw_i 1, pw_i i, .ref 0, .ref 16]) rfl (fun _ => rfl) ?_
  refine pwl_add E (pc' := 376) rfl rfl ?_
  refine pwl_sald E (pc' := 377) rfl hX0 hl (by omega) (by omega) rfl ?_
  have hs1 := pw_s_r xs (i + 1)
  refine pwl_ld E (pc' := 378) (st' := [.ref 0, pw_i (pw_s xs (i + 1)), .ref 16]) rfl (fun _ => rfl) ?_
  refine pwl_ld E (pc' := 380) (st' := [pw_i i, .ref 0, pw_i (pw_s xs (i + 1)), .ref 16]) rfl (fun _ => rfl) ?_
  refine pwl_ld E (pc' := 381) (st' := [pw_i 2, pw_i i, .ref 0, pw_i (pw_s xs (i + 1)), .ref 16]) rfl (fun _ => rfl) ?_
  refine pwl_add E (pc' := 382) rfl rfl ?_
  refine pwl_sald E (pc' := 383) rfl hX0 hl (by omega) (by omega) rfl ?_
  have hs2 := pw_s_r xs (i + 2)
  refine pwl_ld E (pc' := 384) (st' := [.ref 0, pw_i (pw_s xs (i + 2)), pw_i (pw_s xs (i + 1)), .ref 16]) rfl (fun _ => rfl) ?_
  refine pwl_ld E (pc' := 386) (st' := [pw_i i, .ref 0, pw_i (pw_s xs (i + 2)), pw_i (pw_s xs (i + 1)), .ref 16]) rfl (fun _ => rfl) ?_
  refine pwl_ld E (pc' := 387) (st' := [pw_i 3, pw_i i, .ref 0, pw_i (pw_s xs (i + 2)), pw_i (pw_s xs (i + 1)), .ref 16]) rfl (fun _ => rfl) ?_
  refine pwl_add E (pc' := 388) rfl rfl ?_
  refine pwl_sald E (pc' := 389) rfl hX0 hl (by omega) (by omega) rfl ?_
  have hs3 := pw_s_r xs (i + 3)
  refine pwl_ld E (pc' := 390) (st' := [.ref 0, pw_i (pw_s xs (i + 3)), pw_i (pw_s xs (i + 2)), pw_i (pw_s xs (i + 1)), .ref 16]) rfl (fun _ => rfl) ?_
  refine pwl_ld E (pc' := 392) (st' := [pw_i i, .ref 0, pw_i (pw_s xs (i + 3)), pw_i (pw_s xs (i + 2)), pw_i (pw_s xs (i + 1)), .ref 16]) rfl (fun _ => rfl) ?_
  refine pwl_ld E (pc' := 393) (st' := [pw_i 4, pw_i i, .ref 0, pw_i (pw_s xs (i + 3)), pw_i (pw_s xs (i + 2)), pw_i (pw_s xs (i + 1)), .ref 16]) rfl (fun _ => rfl) ?_
  refine pwl_add E (pc' := 394) rfl rfl ?_
  refine pwl_sald E (pc' := 395) rfl hX0 hl (by omega) (by omega) rfl ?_
  have hs4 := pw_s_r xs (i + 4)
  obtain ⟨f5l, f5h, -⟩ := pw_obj (c := 0) I rfl
  refine pwl_call (m' := 126) (As := [.ref 16, pw_i (pw_s xs (i + 1)), pw_i (pw_s xs (i + 2)), pw_i (pw_s xs (i + 3)), pw_i (pw_s xs (i + 4))]) (rest := []) (ls'' := [some (.ref 16), some (pw_i (pw_s xs (i + 1))), some (pw_i (pw_s xs (i + 2))), some (pw_i (pw_s xs (i + 3))), some (pw_i (pw_s xs (i + 4)))]) E rfl (fun _ => pwl_iV rfl rfl rfl (pw_cellI f5h rfl)) (rfl : pm_ent 126 = some (5, 5, 11, 1, pmc_126)) (by decide) rfl rfl (cm_126_h (by decide) I (pw_s xs (i + 1)) (by omega) (by omega) (pw_s xs (i + 2)) (by omega) (by omega) (pw_s xs (i + 3)) (by omega) (by omega) (pw_s xs (i + 4)) (by omega) (by omega)) ?_
  rintro h7 v6 ⟨h7I, h7E, x8, rfl, hx8a, hx8b, hx8r⟩
  refine ⟨_, rfl, ?_⟩
  have h7K := pw_KE I h7E hK rfl
  have h7L := h7E.1
  show pwl X _ h7 398 [some (.ref 0), some (.ref 16), some (.ref 141), some (.ref 185), some (pw_i i), a5, a6, a7] [pw_i x8] _
  have hx8r : ((x8 = 1 ∧ 0 ≤ (pw_s xs (i + 1)) ∧ (pw_s xs (i + 1)) ≤ 23 ∧ pw_g h 2 (pw_s xs (i + 1)).toNat = 1 ∧ 0 ≤ (pw_s xs (i + 2)) ∧ (pw_s xs (i + 2)) ≤ 11 ∧ 0 ≤ (pw_s xs (i + 3)) ∧ (pw_s xs (i + 3)) ≤ 99 ∧ 0 ≤ (pw_s xs (i + 4)) ∧ (pw_s xs (i + 4)) ≤ 99) ∨ (x8 = 0 ∧ ¬ (0 ≤ (pw_s xs (i + 1)) ∧ (pw_s xs (i + 1)) ≤ 23 ∧ pw_g h 2 (pw_s xs (i + 1)).toNat = 1 ∧ 0 ≤ (pw_s xs (i + 2)) ∧ (pw_s xs (i + 2)) ≤ 11 ∧ 0 ≤ (pw_s xs (i + 3)) ∧ (pw_s xs (i + 3)) ≤ 99 ∧ 0 ≤ (pw_s xs (i + 4)) ∧ (pw_s xs (i + 4)) ≤ 99))) ∧ (x8 = 1 → pw_up h h7 13 ((pw_s xs (i + 1)) * 12 + (pw_s xs (i + 2))) ((pw_s xs (i + 3)) * 100 + (pw_s xs (i + 4)))) ∧ (x8 = 0 → pw_sm h h7 13) := hx8r
  have h7Tk : pw_PR 2 131 24 h7 := pw_PRE (c := 2) (c' := 131) rfl rfl I h7E hTk rfl
  have h7Ck : pw_PR 3 135 24 h7 := pw_PRE (c := 3) (c' := 135) rfl rfl I h7E hCk rfl
  have h7Bk : pw_PR 4 132 24 h7 := pw_PRE (c := 4) (c' := 132) rfl rfl I h7E hBk rfl
  have h7Wk : pw_PR 5 133 24 h7 := pw_PRE (c := 5) (c' := 133) rfl rfl I h7E hWk rfl
  have h7Mk : pw_PR 6 134 24 h7 := pw_PRE (c := 6) (c' := 134) rfl rfl I h7E hMk rfl
  have h7Fk : pw_PR 8 136 24 h7 := pw_PRE (c := 8) (c' := 136) rfl rfl I h7E hFk rfl
  have h7Rk : pw_PR 9 137 24 h7 := pw_PRE (c := 9) (c' := 137) rfl rfl I h7E hRk rfl
  have h7Hk : pw_PR 14 162 288 h7 := pw_PRE (c := 14) (c' := 162) rfl rfl I h7E hHk rfl
  have h7Gk : pw_PR 15 163 288 h7 := pw_PRE (c := 15) (c' := 163) rfl rfl I h7E hGk rfl
  have h7Tn := pw_TnE I h7E hTn rfl
  have h7Lc := pw_LcE I h7E hLc rfl
  have h7Rm := pw_RmE I h7E hRm rfl
  have h7Ro := pw_RoE I h7E hRo rfl
  refine pwl_ld E (pc' := 399) (st' := []) rfl (fun _ => rfl) ?_
  refine pwl_ld E (pc' := 400) (st' := [.ref 141]) rfl (fun _ => rfl) ?_
  refine pwl_ld E (pc' := 401) (st' := [.ref 0, .ref 141]) rfl (fun _ => rfl) ?_
  refine pwl_ld E (pc' := 403) (st' := [pw_i i, .ref 0, .ref 141]) rfl (fun _ => rfl) ?_
  refine pwl_ld E (pc' := 404) (st' := [pw_i 1, pw_i i, .ref 0, .ref 141]) rfl (fun _ => rfl) ?_
  refine pwl_add E (pc' := 405) rfl rfl ?_
  refine pwl_sald E (pc' := 406) rfl hX0 hl (by omega) (by omega) rfl ?_
  have hs9 := pw_s_r xs (i + 1)
  refine pwl_ld E (pc' := 407) (st' := [.ref 0, pw_i (pw_s xs (i + 1)), .ref 141]) rfl (fun _ => rfl) ?_
  refine pwl_ld E (pc' := 409) (st' := [pw_i i, .ref 0, pw_i (pw_s xs (i + 1)), .ref 141]) rfl (fun _ => rfl) ?_
  refine pwl_ld E (pc' := 410) (st' := [pw_i 2, pw_i i, .ref 0, pw_i (pw_s xs (i + 1)), .ref 141]) rfl (fun _ => rfl) ?_
  refine pwl_add E (pc' := 411) rfl rfl ?_
  refine pwl_sald E (pc' := 412) rfl hX0 hl (by omega) (by omega) rfl ?_
  have hs10 := pw_s_r xs (i + 2)
  refine pwl_ld E (pc' := 413) (st' := [.ref 0, pw_i (pw_s xs (i + 2)), pw_i (pw_s xs (i + 1)), .ref 141]) rfl (fun _ => rfl) ?_
  refine pwl_ld E (pc' := 415) (st' := [pw_i i, .ref 0, pw_i (pw_s xs (i + 2)), pw_i (pw_s xs (i + 1)), .ref 141]) rfl (fun _ => rfl) ?_
  refine pwl_ld E (pc' := 416) (st' := [pw_i 3, pw_i i, .ref 0, pw_i (pw_s xs (i + 2)), pw_i (pw_s xs (i + 1)), .ref 141]) rfl (fun _ => rfl) ?_
  refine pwl_add E (pc' := 417) rfl rfl ?_
  refine pwl_sald E (pc' := 418) rfl hX0 hl (by omega) (by omega) rfl ?_
  have hs11 := pw_s_r xs (i + 3)
  refine pwl_ld E (pc' := 419) (st' := [.ref 0, pw_i (pw_s xs (i + 3)), pw_i (pw_s xs (i + 2)), pw_i (pw_s xs (i + 1)), .ref 141]) rfl (fun _ => rfl) ?_
  refine pwl_ld E (pc' := 421) (st' := [pw_i i, .ref 0, pw_i (pw_s xs (i + 3)), pw_i (pw_s xs (i + 2)), pw_i (pw_s xs (i + 1)), .ref 141]) rfl (fun _ => rfl) ?_
  refine pwl_ld E (pc' := 422) (st' := [pw_i 4, pw_i i, .ref 0, pw_i (pw_s xs (i + 3)), pw_i (pw_s xs (i + 2)), pw_i (pw_s xs (i + 1)), .ref 141]) rfl (fun _ => rfl) ?_
  refine pwl_add E (pc' := 423) rfl rfl ?_
  refine pwl_sald E (pc' := 424) rfl hX0 hl (by omega) (by omega) rfl ?_
  have hs12 := pw_s_r xs (i + 4)
  obtain ⟨f13l, f13h, -⟩ := pw_obj (c := 125) h7I rfl
  refine pwl_call (m' := 206) (As := [.ref 141, pw_i (pw_s xs (i + 1)), pw_i (pw_s xs (i + 2)), pw_i (pw_s xs (i + 3)), pw_i (pw_s xs (i + 4))]) (rest := []) (ls'' := [some (.ref 141), some (pw_i (pw_s xs (i + 1))), some (pw_i (pw_s xs (i + 2))), some (pw_i (pw_s xs (i + 3))), some (pw_i (pw_s xs (i + 4))), none]) E rfl (fun _ => pwl_iV rfl rfl rfl (pw_cellI f13h rfl)) (rfl : pm_ent 206 = some (5, 6, 12, 1, pmc_206)) (by decide) rfl rfl (cm_206_h (by decide) h7I (pw_s xs (i + 1)) (by omega) (by omega) (pw_s xs (i + 2)) (by omega) (by omega) (pw_s xs (i + 3)) (by omega) (by omega) (pw_s xs (i + 4)) (by omega) (by omega)) ?_
  rintro h15 v14 ⟨h15I, h15E, x16, rfl, hx16a, hx16b, hx16r⟩
  refine ⟨_, rfl, ?_⟩
  have h15K := pw_KE h7I h15E h7K rfl
  have h15L := h15E.1
  show pwl X _ h15 427 [some (.ref 0), some (.ref 16), some (.ref 141), some (.ref 185), some (pw_i i), a5, a6, a7] [pw_i x16] _
  have hx16r : ((x16 = 1 ∧ 0 ≤ (pw_s xs (i + 1)) ∧ (pw_s xs (i + 1)) ≤ 23 ∧ pw_g h7 131 (pw_s xs (i + 1)).toNat = 1 ∧ 0 ≤ (pw_s xs (i + 2)) ∧ (pw_s xs (i + 2)) ≤ 11 ∧ 0 ≤ (pw_s xs (i + 3)) ∧ (pw_s xs (i + 3)) ≤ 99 ∧ 0 ≤ (pw_s xs (i + 4)) ∧ (pw_s xs (i + 4)) ≤ 99) ∨ (x16 = 0 ∧ ¬ (0 ≤ (pw_s xs (i + 1)) ∧ (pw_s xs (i + 1)) ≤ 23 ∧ pw_g h7 131 (pw_s xs (i + 1)).toNat = 1 ∧ 0 ≤ (pw_s xs (i + 2)) ∧ (pw_s xs (i + 2)) ≤ 11 ∧ 0 ≤ (pw_s xs (i + 3)) ∧ (pw_s xs (i + 3)) ≤ 99 ∧ 0 ≤ (pw_s xs (i + 4)) ∧ (pw_s xs (i + 4)) ≤ 99))) ∧ (x16 = 1 → pw_up h7 h15 141 (12 * (pw_s xs (i + 1)) + (pw_s xs (i + 2))) (1) ∧ pw_up h7 h15 142 (12 * (pw_s xs (i + 1)) + (pw_s xs (i + 2))) ((pw_s xs (i + 3))) ∧ pw_up h7 h15 143 (12 * (pw_s xs (i + 1)) + (pw_s xs (i + 2))) ((pw_s xs (i + 4)))) ∧ (x16 = 0 → pw_sm h7 h15 141 ∧ pw_sm h7 h15 142 ∧ pw_sm h7 h15 143) := hx16r
  have h15Tk : pw_PR 2 131 24 h15 := pw_PRE (c := 2) (c' := 131) rfl rfl h7I h15E h7Tk rfl
  have h15Ck : pw_PR 3 135 24 h15 := pw_PRE (c := 3) (c' := 135) rfl rfl h7I h15E h7Ck rfl
  have h15Bk : pw_PR 4 132 24 h15 := pw_PRE (c := 4) (c' := 132) rfl rfl h7I h15E h7Bk rfl
  have h15Wk : pw_PR 5 133 24 h15 := pw_PRE (c := 5) (c' := 133) rfl rfl h7I h15E h7Wk rfl
  have h15Mk : pw_PR 6 134 24 h15 := pw_PRE (c := 6) (c' := 134) rfl rfl h7I h15E h7Mk rfl
  have h15Fk : pw_PR 8 136 24 h15 := pw_PRE (c := 8) (c' := 136) rfl rfl h7I h15E h7Fk rfl
  have h15Rk : pw_PR 9 137 24 h15 := pw_PRE (c := 9) (c' := 137) rfl rfl h7I h15E h7Rk rfl
  have h15Hk : pw_PR 14 162 288 h15 := pw_PRE (c := 14) (c' := 162) rfl rfl h7I h15E h7Hk rfl
  have h15Gk : pw_PR 15 163 288 h15 := pw_PRE (c := 15) (c' := 163) rfl rfl h7I h15E h7Gk rfl
  have h15Tn := pw_TnE h7I h15E h7Tn rfl
  have h15Lc := pw_LcE h7I h15E h7Lc rfl
  have h15Rm := pw_RmE h7I h15E h7Rm rfl
  have h15Ro := pw_RoE h7I h15E h7Ro rfl
  have hkt : 0 ≤ (pw_s xs (i + 1)) ∧ (pw_s xs (i + 1)) ≤ 23 → pw_g h 2 ((pw_s xs (i + 1))).toNat = pw_g h7 131 ((pw_s xs (i + 1))).toNat := fun q => (hTk _ (by omega)).trans (pw_Eg (c := 131) I h7E rfl rfl _).symm
  have haa : x8 = x16 := by have z1 := hx8r.1; have z2 := hx16r.1; omega
  have h15Ls := pw_Shs.sheet I h7I h7E h15E hLs haa (by omega) hx8r.2 hx16r.2 (by have z1 := hx8r.1; omega) rfl rfl
  refine pwl_ld E (pc' := 428) (st' := []) rfl (fun _ => rfl) ?_
  refine pwl_goto E (pc' := 2368) rfl (by decide) ?_
  exact pwl_mono (by omega) (hB h15 (a5) (a6) (a7) h15I h15K h15Tk h15Ck h15Bk h15Wk h15Mk h15Fk h15Rk h15Hk h15Gk h15Tn h15Lc h15Ls h15Rm h15Ro (by omega) (by omega) s5 s6 s7)
set_option maxHeartbeats 4000000 in
theorem lc_3 {X : List (Nat × List Value)} {xs : List Int32} {K : Nat} {h : pm_H} {Q : pm_H → (Option Value ⊕ Unit) → Prop} (hX0 : X[0]? = some (0, xs.map Value.int)) (hl : xs.length ≤ 3584) (hX : pw_Xk X) (hR : pw_Xr X) (I : pw_I h) (hK : pw_K h) (hTk : pw_PR 2 131 24 h) (hCk : pw_PR 3 135 24 h) (hBk : pw_PR 4 132 24 h) (hWk : pw_PR 5 133 24 h) (hMk : pw_PR 6 134 24 h) (hFk : pw_PR 8 136 24 h) (hRk : pw_PR 9 137 24 h) (hHk : pw_PR 14 162 288 h) (hGk : pw_PR 15 163 288 h) (hTn : pw_Tn h) (hLc : pw_Lc h) (hLs : pw_Shs h) (hRm : pw_Rm h) (hRo : pw_Ro h) (i : Int) (hi0 : 0 ≤ i) (hi1 : i + 7 ≤ xs.length) (a5 a6 a7 : Option Value) (s5 : ∀ n, pm_scl n a5 = true) (s6 : ∀ n, pm_scl n a6 = true) (s7 : ∀ n, pm_scl n a7 = true) (hB : ∀ (h' : pm_H) (b5 b6 b7 : Option Value), pw_I h' → pw_K h' → pw_PR 2 131 24 h' → pw_PR 3 135 24 h' → pw_PR 4 132 24 h' → pw_PR 5 133 24 h' → pw_PR 6 134 24 h' → pw_PR 8 136 24 h' → pw_PR 9 137 24 h' → pw_PR 14 162 288 h' → pw_PR 15 163 288 h' → pw_Tn h' → pw_Lc h' → pw_Shs h' → pw_Rm h' → pw_Ro h' → h'.length ≤ h.length + 1 → pm_slt h' ≤ pm_slt h + 1000 → (∀ n, pm_scl n b5 = true) → (∀ n, pm_scl n b6 = true) → (∀ n, pm_scl n b7 = true) → pwl X K h' 2368 [some (.ref 0), some (.ref 16), some (.ref 141), some (.ref 185), some (pw_i i), b5, b6, b7] [] Q) : pwl X (K + 150) h 431 [some (.ref 0), some (.ref 16), some (.ref 141), some (.ref 185), some (pw_i i), a5, a6, a7] [] Q := by
  have E : pm_ent 309 = some (1, 8, 13, 1, pmc_309) := rfl
  refine pwl_ld E (pc' := 432) (st' := [.ref 16]) rfl (fun _ => rfl) ?_
  refine pwl_ld E (pc' := 433) (st' := [.ref 0, .ref 16]) rfl (fun _ => rfl) ?_
  refine pwl_ld E (pc' := 435) (st' := [pw_i i, .ref 0, .ref 16]) rfl (fun _ => rfl) ?_
  refine pwl_ld E (pc' := 436) (st' := [pw_i 1, pw_i i, .ref 0, .ref 16]) rfl (fun _ => rfl) ?_
  refine pwl_add E (pc' := 437) rfl rfl ?_
  refine pwl_sald E (pc' := 438) rfl hX0 hl (by omega) (by omega) rfl ?_
  have hs1 := pw_s_r xs (i + 1)
  obtain ⟨f2l, f2h, -⟩ := pw_obj (c := 0) I rfl
  refine pwl_call (m' := 127) (As := [.ref 16, pw_i (pw_s xs (i + 1))]) (rest := []) (ls'' := [some (.ref 16), some (pw_i (pw_s xs (i + 1)))]) E rfl (fun _ => pwl_iV rfl rfl rfl (pw_cellI f2h rfl)) (rfl : pm_ent 127 = some (2, 2, 11, 1, pmc_127)) (by decide) rfl rfl (cm_127_h (by decide) I (pw_s xs (i + 1)) (by omega) (by omega)) ?_
  rintro h4 v3 ⟨h4I, h4E, x5, rfl, hx5a, hx5b, hx5r⟩
  refine ⟨_, rfl, ?_⟩
  have h4K := pw_KE I h4E hK rfl
  have h4L := h4E.1
  show pwl X _ h4 441 [some (.ref 0), some (.ref 16), some (.ref 141), some (.ref 185), some (pw_i i), a5, a6, a7] [pw_i x5] _
  have hx5r : ((x5 = 1 ∧ 0 ≤ (pw_s xs (i + 1)) ∧ (pw_s xs (i + 1)) ≤ 10) ∨ (x5 = 0 ∧ ¬ (0 ≤ (pw_s xs (i + 1)) ∧ (pw_s xs (i + 1)) ≤ 10))) ∧ (x5 = 1 → pw_g h4 0 6 = (pw_s xs (i + 1))) ∧ (x5 = 0 → pw_g h4 0 6 = pw_g h 0 6) := hx5r
  have h4Tk : pw_PR 2 131 24 h4 := pw_PRE (c := 2) (c' := 131) rfl rfl I h4E hTk rfl
  have h4Ck : pw_PR 3 135 24 h4 := pw_PRE (c := 3) (c' := 135) rfl rfl I h4E hCk rfl
  have h4Bk : pw_PR 4 132 24 h4 := pw_PRE (c := 4) (c' := 132) rfl rfl I h4E hBk rfl
  have h4Wk : pw_PR 5 133 24 h4 := pw_PRE (c := 5) (c' := 133) rfl rfl I h4E hWk rfl
  have h4Mk : pw_PR 6 134 24 h4 := pw_PRE (c := 6) (c' := 134) rfl rfl I h4E hMk rfl
  have h4Fk : pw_PR 8 136 24 h4 := pw_PRE (c := 8) (c' := 136) rfl rfl I h4E hFk rfl
  have h4Rk : pw_PR 9 137 24 h4 := pw_PRE (c := 9) (c' := 137) rfl rfl I h4E hRk rfl
  have h4Hk : pw_PR 14 162 288 h4 := pw_PRE (c := 14) (c' := 162) rfl rfl I h4E hHk rfl
  have h4Gk : pw_PR 15 163 288 h4 := pw_PRE (c := 15) (c' := 163) rfl rfl I h4E hGk rfl
  have h4Lc := pw_LcE I h4E hLc rfl
  have h4Ls := pw_ShsE I h4E hLs rfl
  have h4Rm := pw_RmE I h4E hRm rfl
  have h4Ro := pw_RoE I h4E hRo rfl
  refine pwl_ld E (pc' := 442) (st' := []) rfl (fun _ => rfl) ?_
  refine pwl_ld E (pc' := 443) (st' := [.ref 141]) rfl (fun _ => rfl) ?_
  refine pwl_ld E (pc' := 444) (st' := [.ref 0, .ref 141]) rfl (fun _ => rfl) ?_
  refine pwl_ld E (pc' := 446) (st' := [pw_i i, .ref 0, .ref 141]) rfl (fun _ => rfl) ?_
  refine pwl_ld E (pc' := 447) (st' := [pw_i 1, pw_i i, .ref 0, .ref 141]) rfl (fun _ => rfl) ?_
  refine pwl_add E (pc' := 448) rfl rfl ?_
  refine pwl_sald E (pc' := 449) rfl hX0 hl (by omega) (by omega) rfl ?_
  have hs6 := pw_s_r xs (i + 1)
  obtain ⟨f7l, f7h, -⟩ := pw_obj (c := 125) h4I rfl
  refine pwl_call (m' := 207) (As := [.ref 141, pw_i (pw_s xs (i + 1))]) (rest := []) (ls'' := [some (.ref 141), some (pw_i (pw_s xs (i + 1)))]) E rfl (fun _ => pwl_iV rfl rfl rfl (pw_cellI f7h rfl)) (rfl : pm_ent 207 = some (2, 2, 12, 1, pmc_207)) (by decide) rfl rfl (cm_207_h (by decide) h4I (pw_s xs (i + 1)) (by omega) (by omega)) ?_
  rintro h9 v8 ⟨h9I, h9E, x10, rfl, hx10a, hx10b, hx10r⟩
  refine ⟨_, rfl, ?_⟩
  have h9K := pw_KE h4I h9E h4K rfl
  have h9L := h9E.1
  show pwl X _ h9 452 [some (.ref 0), some (.ref 16), some (.ref 141), some (.ref 185), some (pw_i i), a5, a6, a7] [pw_i x10] _
  have hx10r : ((x10 = 1 ∧ 0 ≤ (pw_s xs (i + 1)) ∧ (pw_s xs (i + 1)) ≤ 10) ∨ (x10 = 0 ∧ ¬ (0 ≤ (pw_s xs (i + 1)) ∧ (pw_s xs (i + 1)) ≤ 10))) ∧ (x10 = 1 → pw_g h9 125 15 = (pw_s xs (i + 1))) ∧ (x10 = 0 → pw_g h9 125 15 = pw_g h4 125 15) := hx10r
  have h9Tk : pw_PR 2 131 24 h9 := pw_PRE (c := 2) (c' := 131) rfl rfl h4I h9E h4Tk rfl
  have h9Ck : pw_PR 3 135 24 h9 := pw_PRE (c := 3) (c' := 135) rfl rfl h4I h9E h4Ck rfl
  have h9Bk : pw_PR 4 132 24 h9 := pw_PRE (c := 4) (c' := 132) rfl rfl h4I h9E h4Bk rfl
  have h9Wk : pw_PR 5 133 24 h9 := pw_PRE (c := 5) (c' := 133) rfl rfl h4I h9E h4Wk rfl
  have h9Mk : pw_PR 6 134 24 h9 := pw_PRE (c := 6) (c' := 134) rfl rfl h4I h9E h4Mk rfl
  have h9Fk : pw_PR 8 136 24 h9 := pw_PRE (c := 8) (c' := 136) rfl rfl h4I h9E h4Fk rfl
  have h9Rk : pw_PR 9 137 24 h9 := pw_PRE (c := 9) (c' := 137) rfl rfl h4I h9E h4Rk rfl
  have h9Hk : pw_PR 14 162 288 h9 := pw_PRE (c := 14) (c' := 162) rfl rfl h4I h9E h4Hk rfl
  have h9Gk : pw_PR 15 163 288 h9 := pw_PRE (c := 15) (c' := 163) rfl rfl h4I h9E h4Gk rfl
  have h9Lc := pw_LcE h4I h9E h4Lc rfl
  have h9Ls := pw_ShsE h4I h9E h4Ls rfl
  have h9Rm := pw_RmE h4I h9E h4Rm rfl
  have h9Ro := pw_RoE h4I h9E h4Ro rfl
  have z1 : pw_g h9 0 6 = pw_g h4 0 6 := pw_Eg (c := 0) h4I h9E rfl rfl 6
  have z2 : pw_g h4 125 15 = pw_g h 125 15 := pw_Eg (c := 125) I h4E rfl rfl 15
  have z3 : pw_g h 0 6 = pw_g h 125 15 := hTn
  have h9Tn : pw_Tn h9 := (by show pw_g h9 0 6 = pw_g h9 125 15; omega)
  refine pwl_ld E (pc' := 453) (st' := []) rfl (fun _ => rfl) ?_
  refine pwl_goto E (pc' := 2368) rfl (by decide) ?_
  exact pwl_mono (by omega) (hB h9 (a5) (a6) (a7) h9I h9K h9Tk h9Ck h9Bk h9Wk h9Mk h9Fk h9Rk h9Hk h9Gk h9Tn h9Lc h9Ls h9Rm h9Ro (by omega) (by omega) s5 s6 s7)
set_option maxHeartbeats 4000000 in
theorem lc_4 {X : List (Nat × List Value)} {xs : List Int32} {K : Nat} {h : pm_H} {Q : pm_H → (Option Value ⊕ Unit) → Prop} (hX0 : X[0]? = some (0, xs.map Value.int)) (hl : xs.length ≤ 3584) (hX : pw_Xk X) (hR : pw_Xr X) (I : pw_I h) (hK : pw_K h) (hTk : pw_PR 2 131 24 h) (hCk : pw_PR 3 135 24 h) (hBk : pw_PR 4 132 24 h) (hWk : pw_PR 5 133 24 h) (hMk : pw_PR 6 134 24 h) (hFk : pw_PR 8 136 24 h) (hRk : pw_PR 9 137 24 h) (hHk : pw_PR 14 162 288 h) (hGk : pw_PR 15 163 288 h) (hTn : pw_Tn h) (hLc : pw_Lc h) (hLs : pw_Shs h) (hRm : pw_Rm h) (hRo : pw_Ro h) (i : Int) (hi0 : 0 ≤ i) (hi1 : i + 7 ≤ xs.length) (a5 a6 a7 : Option Value) (s5 : ∀ n, pm_scl n a5 = true) (s6 : ∀ n, pm_scl n a6 = true) (s7 : ∀ n, pm_scl n a7 = true) (hB : ∀ (h' : pm_H) (b5 b6 b7 : Option Value), pw_I h' → pw_K h' → pw_PR 2 131 24 h' → pw_PR 3 135 24 h' → pw_PR 4 132 24 h' → pw_PR 5 133 24 h' → pw_PR 6 134 24 h' → pw_PR 8 136 24 h' → pw_PR 9 137 24 h' → pw_PR 14 162 288 h' → pw_PR 15 163 288 h' → pw_Tn h' → pw_Lc h' → pw_Shs h' → pw_Rm h' → pw_Ro h' → h'.length ≤ h.length + 1 → pm_slt h' ≤ pm_slt h + 1000 → (∀ n, pm_scl n b5 = true) → (∀ n, pm_scl n b6 = true) → (∀ n, pm_scl n b7 = true) → pwl X K h' 2368 [some (.ref 0), some (.ref 16), some (.ref 141), some (.ref 185), some (pw_i i), b5, b6, b7] [] Q) : pwl X (K + 150) h 456 [some (.ref 0), some (.ref 16), some (.ref 141), some (.ref 185), some (pw_i i), a5, a6, a7] [] Q := by
  have E : pm_ent 309 = some (1, 8, 13, 1, pmc_309) := rfl
  refine pwl_ld E (pc' := 457) (st' := [.ref 16]) rfl (fun _ => rfl) ?_
  refine pwl_ld E (pc' := 458) (st' := [.ref 0, .ref 16]) rfl (fun _ => rfl) ?_
  refine pwl_ld E (pc' := 460) (st' := [pw_i i, .ref 0, .ref 16]) rfl (fun _ => rfl) ?_
  refine pwl_ld E (pc' := 461) (st' := [pw_i 1, pw_i i, .ref 0, .ref 16]) rfl (fun _ => rfl) ?_
  refine pwl_add E (pc' := 462) rfl rfl ?_
  refine pwl_sald E (pc' := 463) rfl hX0 hl (by omega) (by omega) rfl ?_
  have hs1 := pw_s_r xs (i + 1)
  refine pwl_ld E (pc' := 464) (st' := [.ref 0, pw_i (pw_s xs (i + 1)), .ref 16]) rfl (fun _ => rfl) ?_
  refine pwl_ld E (pc' := 466) (st' := [pw_i i, .ref 0, pw_i (pw_s xs (i + 1)), .ref 16]) rfl (fun _ => rfl) ?_
  refine pwl_ld E (pc' := 467) (st' := [pw_i 2, pw_i i, .ref 0, pw_i (pw_s xs (i + 1)), .ref 16]) rfl (fun _ => rfl) ?_
  refine pwl_add E (pc' := 468) rfl rfl ?_
  refine pwl_sald E (pc' := 469) rfl hX0 hl (by omega) (by omega) rfl ?_
  have hs2 := pw_s_r xs (i + 2)
  refine pwl_ld E (pc' := 470) (st' := [.ref 0, pw_i (pw_s xs (i + 2)), pw_i (pw_s xs (i + 1)), .ref 16]) rfl (fun _ => rfl) ?_
  refine pwl_ld E (pc' := 472) (st' := [pw_i i, .ref 0, pw_i (pw_s xs (i + 2)), pw_i (pw_s xs (i + 1)), .ref 16]) rfl (fun _ => rfl) ?_
  refine pwl_ld E (pc' := 473) (st' := [pw_i 3, pw_i i, .ref 0, pw_i (pw_s xs (i + 2)), pw_i (pw_s xs (i + 1)), .ref 16]) rfl (fun _ => rfl) ?_
  refine pwl_add E (pc' := 474) rfl rfl ?_
  refine pwl_sald E (pc' := 475) rfl hX0 hl (by omega) (by omega) rfl ?_
  have hs3 := pw_s_r xs (i + 3)
  refine pwl_ld E (pc' := 476) (st' := [.ref 0, pw_i (pw_s xs (i + 3)), pw_i (pw_s xs (i + 2)), pw_i (pw_s xs (i + 1)), .ref 16]) rfl (fun _ => rfl) ?_
  refine pwl_ld E (pc' := 478) (st' := [pw_i i, .ref 0, pw_i (pw_s xs (i + 3)), pw_i (pw_s xs (i + 2)), pw_i (pw_s xs (i + 1)), .ref 16]) rfl (fun _ => rfl) ?_
  refine pwl_ld E (pc' := 479) (st' := [pw_i 4, pw_i i, .ref 0, pw_i (pw_s xs (i + 3)), pw_i (pw_s xs (i + 2)), pw_i (pw_s xs (i + 1)), .ref 16]) rfl (fun _ => rfl) ?_
  refine pwl_add E (pc' := 480) rfl rfl ?_
  refine pwl_sald E (pc' := 481) rfl hX0 hl (by omega) (by omega) rfl ?_
  have hs4 := pw_s_r xs (i + 4)
  obtain ⟨f5l, f5h, -⟩ := pw_obj (c := 0) I rfl
  refine pwl_call (m' := 128) (As := [.ref 16, pw_i (pw_s xs (i + 1)), pw_i (pw_s xs (i + 2)), pw_i (pw_s xs (i + 3)), pw_i (pw_s xs (i + 4))]) (rest := []) (ls'' := [some (.ref 16), some (pw_i (pw_s xs (i + 1))), some (pw_i (pw_s xs (i + 2))), some (pw_i (pw_s xs (i + 3))), some (pw_i (pw_s xs (i + 4)))]) E rfl (fun _ => pwl_iV rfl rfl rfl (pw_cellI f5h rfl)) (rfl : pm_ent 128 = some (5, 5, 11, 1, pmc_128)) (by decide) rfl rfl (cm_128_k (by decide) I (pw_s xs (i + 1)) (by omega) (by omega) (pw_s xs (i + 2)) (by omega) (by omega) (pw_s xs (i + 3)) (by omega) (by omega) (pw_s xs (i + 4)) (by omega) (by omega)) ?_
  rintro h7 v6 ⟨h7I, h7E, x8, rfl, hx8a, hx8b, hx8r⟩
  refine ⟨_, rfl, ?_⟩
  have h7K := pw_KE I h7E hK rfl
  have h7L := h7E.1
  show pwl X _ h7 484 [some (.ref 0), some (.ref 16), some (.ref 141), some (.ref 185), some (pw_i i), a5, a6, a7] [pw_i x8] _
  have hx8r : ((x8 = 1 ∧ 0 ≤ (pw_s xs (i + 1)) ∧ (pw_s xs (i + 1)) ≤ 1 ∧ 0 ≤ (pw_s xs (i + 2)) ∧ (pw_s xs (i + 2)) ≤ 11 ∧ 0 ≤ (pw_s xs (i + 3)) ∧ (pw_s xs (i + 3)) ≤ 999 ∧ (-99) ≤ (pw_s xs (i + 4)) ∧ (pw_s xs (i + 4)) ≤ 99) ∨ (x8 = 0 ∧ ¬ (0 ≤ (pw_s xs (i + 1)) ∧ (pw_s xs (i + 1)) ≤ 1 ∧ 0 ≤ (pw_s xs (i + 2)) ∧ (pw_s xs (i + 2)) ≤ 11 ∧ 0 ≤ (pw_s xs (i + 3)) ∧ (pw_s xs (i + 3)) ≤ 999 ∧ (-99) ≤ (pw_s xs (i + 4)) ∧ (pw_s xs (i + 4)) ≤ 99))) ∧ (x8 = 1 → pw_FP h h7 8 (12 * (pw_s xs (i + 1)) + (pw_s xs (i + 2))) (12 * (pw_s xs (i + 1)) + 12) (pw_s xs (i + 3)) ∧ pw_FP h h7 9 (12 * (pw_s xs (i + 1)) + (pw_s xs (i + 2))) (12 * (pw_s xs (i + 1)) + 12) (pw_s xs (i + 4))) ∧ (x8 = 0 → pw_sm h h7 8 ∧ pw_sm h h7 9) := hx8r
  have h7Tk : pw_PR 2 131 24 h7 := pw_PRE (c := 2) (c' := 131) rfl rfl I h7E hTk rfl
  have h7Ck : pw_PR 3 135 24 h7 := pw_PRE (c := 3) (c' := 135) rfl rfl I h7E hCk rfl
  have h7Bk : pw_PR 4 132 24 h7 := pw_PRE (c := 4) (c' := 132) rfl rfl I h7E hBk rfl
  have h7Wk : pw_PR 5 133 24 h7 := pw_PRE (c := 5) (c' := 133) rfl rfl I h7E hWk rfl
  have h7Mk : pw_PR 6 134 24 h7 := pw_PRE (c := 6) (c' := 134) rfl rfl I h7E hMk rfl
  have h7Hk : pw_PR 14 162 288 h7 := pw_PRE (c := 14) (c' := 162) rfl rfl I h7E hHk rfl
  have h7Gk : pw_PR 15 163 288 h7 := pw_PRE (c := 15) (c' := 163) rfl rfl I h7E hGk rfl
  have h7Tn := pw_TnE I h7E hTn rfl
  have h7Lc := pw_LcE I h7E hLc rfl
  have h7Ls := pw_ShsE I h7E hLs rfl
  have h7Rm := pw_RmE I h7E hRm rfl
  have h7Ro := pw_RoE I h7E hRo rfl
  refine pwl_ld E (pc' := 485) (st' := []) rfl (fun _ => rfl) ?_
  refine pwl_ld E (pc' := 486) (st' := [.ref 141]) rfl (fun _ => rfl) ?_
  refine pwl_ld E (pc' := 487) (st' := [.ref 0, .ref 141]) rfl (fun _ => rfl) ?_
  refine pwl_ld E (pc' := 489) (st' := [pw_i i, .ref 0, .ref 141]) rfl (fun _ => rfl) ?_
  refine pwl_ld E (pc' := 490) (st' := [pw_i 1, pw_i i, .ref 0, .ref 141]) rfl (fun _ => rfl) ?_
  refine pwl_add E (pc' := 491) rfl rfl ?_
  refine pwl_sald E (pc' := 492) rfl hX0 hl (by omega) (by omega) rfl ?_
  have hs9 := pw_s_r xs (i + 1)
  refine pwl_ld E (pc' := 493) (st' := [.ref 0, pw_i (pw_s xs (i + 1)), .ref 141]) rfl (fun _ => rfl) ?_
  refine pwl_ld E (pc' := 495) (st' := [pw_i i, .ref 0, pw_i (pw_s xs (i + 1)), .ref 141]) rfl (fun _ => rfl) ?_
  refine pwl_ld E (pc' := 496) (st' := [pw_i 2, pw_i i, .ref 0, pw_i (pw_s xs (i + 1)), .ref 141]) rfl (fun _ => rfl) ?_
  refine pwl_add E (pc' := 497) rfl rfl ?_
  refine pwl_sald E (pc' := 498) rfl hX0 hl (by omega) (by omega) rfl ?_
  have hs10 := pw_s_r xs (i + 2)
  refine pwl_ld E (pc' := 499) (st' := [.ref 0, pw_i (pw_s xs (i + 2)), pw_i (pw_s xs (i + 1)), .ref 141]) rfl (fun _ => rfl) ?_
  refine pwl_ld E (pc' := 501) (st' := [pw_i i, .ref 0, pw_i (pw_s xs (i + 2)), pw_i (pw_s xs (i + 1)), .ref 141]) rfl (fun _ => rfl) ?_
  refine pwl_ld E (pc' := 502) (st' := [pw_i 3, pw_i i, .ref 0, pw_i (pw_s xs (i + 2)), pw_i (pw_s xs (i + 1)), .ref 141]) rfl (fun _ => rfl) ?_
  refine pwl_add E (pc' := 503) rfl rfl ?_
  refine pwl_sald E (pc' := 504) rfl hX0 hl (by omega) (by omega) rfl ?_
  have hs11 := pw_s_r xs (i + 3)
  refine pwl_ld E (pc' := 505) (st' := [.ref 0, pw_i (pw_s xs (i + 3)), pw_i (pw_s xs (i + 2)), pw_i (pw_s xs (i + 1)), .ref 141]) rfl (fun _ => rfl) ?_
  refine pwl_ld E (pc' := 507) (st' := [pw_i i, .ref 0, pw_i (pw_s xs (i + 3)), pw_i (pw_s xs (i + 2)), pw_i (pw_s xs (i + 1)), .ref 141]) rfl (fun _ => rfl) ?_
  refine pwl_ld E (pc' := 508) (st' := [pw_i 4, pw_i i, .ref 0, pw_i (pw_s xs (i + 3)), pw_i (pw_s xs (i + 2)), pw_i (pw_s xs (i + 1)), .ref 141]) rfl (fun _ => rfl) ?_
  refine pwl_add E (pc' := 509) rfl rfl ?_
  refine pwl_sald E (pc' := 510) rfl hX0 hl (by omega) (by omega) rfl ?_
  have hs12 := pw_s_r xs (i + 4)
  obtain ⟨f13l, f13h, -⟩ := pw_obj (c := 125) h7I rfl
  refine pwl_call (m' := 208) (As := [.ref 141, pw_i (pw_s xs (i + 1)), pw_i (pw_s xs (i + 2)), pw_i (pw_s xs (i + 3)), pw_i (pw_s xs (i + 4))]) (rest := []) (ls'' := [some (.ref 141), some (pw_i (pw_s xs (i + 1))), some (pw_i (pw_s xs (i + 2))), some (pw_i (pw_s xs (i + 3))), some (pw_i (pw_s xs (i + 4))), none]) E rfl (fun _ => pwl_iV rfl rfl rfl (pw_cellI f13h rfl)) (rfl : pm_ent 208 = some (5, 6, 12, 1, pmc_208)) (by decide) rfl rfl (cm_208_k (by decide) h7I (pw_s xs (i + 1)) (by omega) (by omega) (pw_s xs (i + 2)) (by omega) (by omega) (pw_s xs (i + 3)) (by omega) (by omega) (pw_s xs (i + 4)) (by omega) (by omega)) ?_
  rintro h15 v14 ⟨h15I, h15E, x16, rfl, hx16a, hx16b, hx16r⟩
  refine ⟨_, rfl, ?_⟩
  have h15K := pw_KE h7I h15E h7K rfl
  have h15L := h15E.1
  show pwl X _ h15 513 [some (.ref 0), some (.ref 16), some (.ref 141), some (.ref 185), some (pw_i i), a5, a6, a7] [pw_i x16] _
  have hx16r : ((x16 = 1 ∧ 0 ≤ (pw_s xs (i + 1)) ∧ (pw_s xs (i + 1)) ≤ 1 ∧ 0 ≤ (pw_s xs (i + 2)) ∧ (pw_s xs (i + 2)) ≤ 11 ∧ 0 ≤ (pw_s xs (i + 3)) ∧ (pw_s xs (i + 3)) ≤ 999 ∧ (-99) ≤ (pw_s xs (i + 4)) ∧ (pw_s xs (i + 4)) ≤ 99) ∨ (x16 = 0 ∧ ¬ (0 ≤ (pw_s xs (i + 1)) ∧ (pw_s xs (i + 1)) ≤ 1 ∧ 0 ≤ (pw_s xs (i + 2)) ∧ (pw_s xs (i + 2)) ≤ 11 ∧ 0 ≤ (pw_s xs (i + 3)) ∧ (pw_s xs (i + 3)) ≤ 999 ∧ (-99) ≤ (pw_s xs (i + 4)) ∧ (pw_s xs (i + 4)) ≤ 99))) ∧ (x16 = 1 → pw_FP h7 h15 136 (12 * (pw_s xs (i + 1)) + (pw_s xs (i + 2))) (12 * (pw_s xs (i + 1)) + 12) (pw_s xs (i + 3)) ∧ pw_FP h7 h15 137 (12 * (pw_s xs (i + 1)) + (pw_s xs (i + 2))) (12 * (pw_s xs (i + 1)) + 12) (pw_s xs (i + 4))) ∧ (x16 = 0 → pw_sm h7 h15 136 ∧ pw_sm h7 h15 137) := hx16r
  have h15Tk : pw_PR 2 131 24 h15 := pw_PRE (c := 2) (c' := 131) rfl rfl h7I h15E h7Tk rfl
  have h15Ck : pw_PR 3 135 24 h15 := pw_PRE (c := 3) (c' := 135) rfl rfl h7I h15E h7Ck rfl
  have h15Bk : pw_PR 4 132 24 h15 := pw_PRE (c := 4) (c' := 132) rfl rfl h7I h15E h7Bk rfl
  have h15Wk : pw_PR 5 133 24 h15 := pw_PRE (c := 5) (c' := 133) rfl rfl h7I h15E h7Wk rfl
  have h15Mk : pw_PR 6 134 24 h15 := pw_PRE (c := 6) (c' := 134) rfl rfl h7I h15E h7Mk rfl
  have h15Hk : pw_PR 14 162 288 h15 := pw_PRE (c := 14) (c' := 162) rfl rfl h7I h15E h7Hk rfl
  have h15Gk : pw_PR 15 163 288 h15 := pw_PRE (c := 15) (c' := 163) rfl rfl h7I h15E h7Gk rfl
  have h15Tn := pw_TnE h7I h15E h7Tn rfl
  have h15Lc := pw_LcE h7I h15E h7Lc rfl
  have h15Ls := pw_ShsE h7I h15E h7Ls rfl
  have h15Rm := pw_RmE h7I h15E h7Rm rfl
  have h15Ro := pw_RoE h7I h15E h7Ro rfl
  have haa : x8 = x16 := by have z1 := hx8r.1; have z2 := hx16r.1; omega
  have h15Fk : pw_PR 8 136 24 h15 := pw_PR.fp hFk (pw_Eg (c := 136) I h7E rfl rfl) (pw_Eg (c := 8) h7I h15E rfl rfl) haa (by omega) (fun z => (hx8r.2.1 z).1) (fun z => (hx8r.2.2 z).1) (fun z => (hx16r.2.1 z).1) (fun z => (hx16r.2.2 z).1)
  have h15Rk : pw_PR 9 137 24 h15 := pw_PR.fp hRk (pw_Eg (c := 137) I h7E rfl rfl) (pw_Eg (c := 9) h7I h15E rfl rfl) haa (by omega) (fun z => (hx8r.2.1 z).2) (fun z => (hx8r.2.2 z).2) (fun z => (hx16r.2.1 z).2) (fun z => (hx16r.2.2 z).2)
  refine pwl_ld E (pc' := 514) (st' := []) rfl (fun _ => rfl) ?_
  refine pwl_goto E (pc' := 2368) rfl (by decide) ?_
  exact pwl_mono (by omega) (hB h15 (a5) (a6) (a7) h15I h15K h15Tk h15Ck h15Bk h15Wk h15Mk h15Fk h15Rk h15Hk h15Gk h15Tn h15Lc h15Ls h15Rm h15Ro (by omega) (by omega) s5 s6 s7)
set_option maxHeartbeats 4000000 in
theorem lc_5 {X : List (Nat × List Value)} {xs : List Int32} {K : Nat} {h : pm_H} {Q : pm_H → (Option Value ⊕ Unit) → Prop} (hX0 : X[0]? = some (0, xs.map Value.int)) (hl : xs.length ≤ 3584) (hX : pw_Xk X) (hR : pw_Xr X) (I : pw_I h) (hK : pw_K h) (hTk : pw_PR 2 131 24 h) (hCk : pw_PR 3 135 24 h) (hBk : pw_PR 4 132 24 h) (hWk : pw_PR 5 133 24 h) (hMk : pw_PR 6 134 24 h) (hFk : pw_PR 8 136 24 h) (hRk : pw_PR 9 137 24 h) (hHk : pw_PR 14 162 288 h) (hGk : pw_PR 15 163 288 h) (hTn : pw_Tn h) (hLc : pw_Lc h) (hLs : pw_Shs h) (hRm : pw_Rm h) (hRo : pw_Ro h) (i : Int) (hi0 : 0 ≤ i) (hi1 : i + 7 ≤ xs.length) (a5 a6 a7 : Option Value) (s5 : ∀ n, pm_scl n a5 = true) (s6 : ∀ n, pm_scl n a6 = true) (s7 : ∀ n, pm_scl n a7 = true) (hB : ∀ (h' : pm_H) (b5 b6 b7 : Option Value), pw_I h' → pw_K h' → pw_PR 2 131 24 h' → pw_PR 3 135 24 h' → pw_PR 4 132 24 h' → pw_PR 5 133 24 h' → pw_PR 6 134 24 h' → pw_PR 8 136 24 h' → pw_PR 9 137 24 h' → pw_PR 14 162 288 h' → pw_PR 15 163 288 h' → pw_Tn h' → pw_Lc h' → pw_Shs h' → pw_Rm h' → pw_Ro h' → h'.length ≤ h.length + 1 → pm_slt h' ≤ pm_slt h + 1000 → (∀ n, pm_scl n b5 = true) → (∀ n, pm_scl n b6 = true) → (∀ n, pm_scl n b7 = true) → pwl X K h' 2368 [some (.ref 0), some (.ref 16), some (.ref 141), some (.ref 185), some (pw_i i), b5, b6, b7] [] Q) : pwl X (K + 150) h 517 [some (.ref 0), some (.ref 16), some (.ref 141), some (.ref 185), some (pw_i i), a5, a6, a7] [] Q := by
  have E : pm_ent 309 = some (1, 8, 13, 1, pmc_309) := rfl
  refine pwl_ld E (pc' := 518) (st' := [.ref 16]) rfl (fun _ => rfl) ?_
  refine pwl_ld E (pc' := 519) (st' := [.ref 0, .ref 16]) rfl (fun _ => rfl) ?_
  refine pwl_ld E (pc' := 521) (st' := [pw_i i, .ref 0, .ref 16]) rfl (fun _ => rfl) ?_
  refine pwl_ld E (pc' := 522) (st' := [pw_i 1, pw_i i, .ref 0, .ref 16]) rfl (fun _ => rfl) ?_
  refine pwl_add E (pc' := 523) rfl rfl ?_
  refine pwl_sald E (pc' := 524) rfl hX0 hl (by omega) (by omega) rfl ?_
  have hs1 := pw_s_r xs (i + 1)
  refine pwl_ld E (pc' := 525) (st' := [.ref 0, pw_i (pw_s xs (i + 1)), .ref 16]) rfl (fun _ => rfl) ?_
  refine pwl_ld E (pc' := 527) (st' := [pw_i i, .ref 0, pw_i (pw_s xs (i + 1)), .ref 16]) rfl (fun _ => rfl) ?_
  refine pwl_ld E (pc' := 528) (st' := [pw_i 2, pw_i i, .ref 0, pw_i (pw_s xs (i + 1)), .ref 16]) rfl (fun _ => rfl) ?_
  refine pwl_add E (pc' := 529) rfl rfl ?_
  refine pwl_sald E (pc' := 530) rfl hX0 hl (by omega) (by omega) rfl ?_
  have hs2 := pw_s_r xs (i + 2)
  obtain ⟨f3l, f3h, -⟩ := pw_obj (c := 0) I rfl
  refine pwl_call (m' := 129) (As := [.ref 16, pw_i (pw_s xs (i + 1)), pw_i (pw_s xs (i + 2))]) (rest := []) (ls'' := [some (.ref 16), some (pw_i (pw_s xs (i + 1))), some (pw_i (pw_s xs (i + 2)))]) E rfl (fun _ => pwl_iV rfl rfl rfl (pw_cellI f3h rfl)) (rfl : pm_ent 129 = some (3, 3, 11, 0, pmc_129)) (by decide) rfl rfl (cm_129 (by decide) I (pw_s xs (i + 1)) (by omega) (by omega) (pw_s xs (i + 2)) (by omega) (by omega)) ?_
  rintro h5 v4 ⟨rfl, x6, rfl, hx6a, hx6b⟩
  refine ⟨_, rfl, ?_⟩
  show pwl X _ h 533 [some (.ref 0), some (.ref 16), some (.ref 141), some (.ref 185), some (pw_i i), a5, a6, a7] [pw_i x6] _
  refine pwl_ld E (pc' := 534) (st' := []) rfl (fun _ => rfl) ?_
  refine pwl_ld E (pc' := 535) (st' := [.ref 141]) rfl (fun _ => rfl) ?_
  refine pwl_ld E (pc' := 536) (st' := [.ref 0, .ref 141]) rfl (fun _ => rfl) ?_
  refine pwl_ld E (pc' := 538) (st' := [pw_i i, .ref 0, .ref 141]) rfl (fun _ => rfl) ?_
  refine pwl_ld E (pc' := 539) (st' := [pw_i 1, pw_i i, .ref 0, .ref 141]) rfl (fun _ => rfl) ?_
  refine pwl_add E (pc' := 540) rfl rfl ?_
  refine pwl_sald E (pc' := 541) rfl hX0 hl (by omega) (by omega) rfl ?_
  have hs7 := pw_s_r xs (i + 1)
  refine pwl_ld E (pc' := 542) (st' := [.ref 0, pw_i (pw_s xs (i + 1)), .ref 141]) rfl (fun _ => rfl) ?_
  refine pwl_ld E (pc' := 544) (st' := [pw_i i, .ref 0, pw_i (pw_s xs (i + 1)), .ref 141]) rfl (fun _ => rfl) ?_
  refine pwl_ld E (pc' := 545) (st' := [pw_i 2, pw_i i, .ref 0, pw_i (pw_s xs (i + 1)), .ref 141]) rfl (fun _ => rfl) ?_
  refine pwl_add E (pc' := 546) rfl rfl ?_
  refine pwl_sald E (pc' := 547) rfl hX0 hl (by omega) (by omega) rfl ?_
  have hs8 := pw_s_r xs (i + 2)
  obtain ⟨f9l, f9h, -⟩ := pw_obj (c := 125) I rfl
  refine pwl_call (m' := 209) (As := [.ref 141, pw_i (pw_s xs (i + 1)), pw_i (pw_s xs (i + 2))]) (rest := []) (ls'' := [some (.ref 141), some (pw_i (pw_s xs (i + 1))), some (pw_i (pw_s xs (i + 2)))]) E rfl (fun _ => pwl_iV rfl rfl rfl (pw_cellI f9h rfl)) (rfl : pm_ent 209 = some (3, 3, 12, 0, pmc_209)) (by decide) rfl rfl (cm_209 (by decide) I (pw_s xs (i + 1)) (by omega) (by omega) (pw_s xs (i + 2)) (by omega) (by omega)) ?_
  rintro h11 v10 ⟨h11I, h11E, x12, rfl, hx12a, hx12b⟩
  refine ⟨_, rfl, ?_⟩
  have h11K := pw_KE I h11E hK rfl
  have h11L := h11E.1
  show pwl X _ h11 550 [some (.ref 0), some (.ref 16), some (.ref 141), some (.ref 185), some (pw_i i), a5, a6, a7] [pw_i x12] _
  have h11Tk : pw_PR 2 131 24 h11 := pw_PRE (c := 2) (c' := 131) rfl rfl I h11E hTk rfl
  have h11Ck : pw_PR 3 135 24 h11 := pw_PRE (c := 3) (c' := 135) rfl rfl I h11E hCk rfl
  have h11Bk : pw_PR 4 132 24 h11 := pw_PRE (c := 4) (c' := 132) rfl rfl I h11E hBk rfl
  have h11Wk : pw_PR 5 133 24 h11 := pw_PRE (c := 5) (c' := 133) rfl rfl I h11E hWk rfl
  have h11Mk : pw_PR 6 134 24 h11 := pw_PRE (c := 6) (c' := 134) rfl rfl I h11E hMk rfl
  have h11Fk : pw_PR 8 136 24 h11 := pw_PRE (c := 8) (c' := 136) rfl rfl I h11E hFk rfl
  have h11Rk : pw_PR 9 137 24 h11 := pw_PRE (c := 9) (c' := 137) rfl rfl I h11E hRk rfl
  have h11Hk : pw_PR 14 162 288 h11 := pw_PRE (c := 14) (c' := 162) rfl rfl I h11E hHk rfl
  have h11Gk : pw_PR 15 163 288 h11 := pw_PRE (c := 15) (c' := 163) rfl rfl I h11E hGk rfl
  have h11Tn := pw_TnE I h11E hTn rfl
  have h11Lc := pw_LcE I h11E hLc rfl
  have h11Ls := pw_ShsE I h11E hLs rfl
  have h11Rm := pw_RmE I h11E hRm rfl
  have h11Ro := pw_RoE I h11E hRo rfl
  refine pwl_ld E (pc' := 551) (st' := []) rfl (fun _ => rfl) ?_
  refine pwl_goto E (pc' := 2368) rfl (by decide) ?_
  exact pwl_mono (by omega) (hB h11 (a5) (a6) (a7) h11I h11K h11Tk h11Ck h11Bk h11Wk h11Mk h11Fk h11Rk h11Hk h11Gk h11Tn h11Lc h11Ls h11Rm h11Ro (by omega) (by omega) s5 s6 s7)
set_option maxHeartbeats 4000000 in
theorem lc_6 {X : List (Nat × List Value)} {xs : List Int32} {K : Nat} {h : pm_H} {Q : pm_H → (Option Value ⊕ Unit) → Prop} (hX0 : X[0]? = some (0, xs.map Value.int)) (hl : xs.length ≤ 3584) (hX : pw_Xk X) (hR : pw_Xr X) (I : pw_I h) (hK : pw_K h) (hTk : pw_PR 2 131 24 h) (hCk : pw_PR 3 135 24 h) (hBk : pw_PR 4 132 24 h) (hWk : pw_PR 5 133 24 h) (hMk : pw_PR 6 134 24 h) (hFk : pw_PR 8 136 24 h) (hRk : pw_PR 9 137 24 h) (hHk : pw_PR 14 162 288 h) (hGk : pw_PR 15 163 288 h) (hTn : pw_Tn h) (hLc : pw_Lc h) (hLs : pw_Shs h) (hRm : pw_Rm h) (hRo : pw_Ro h) (i : Int) (hi0 : 0 ≤ i) (hi1 : i + 7 ≤ xs.length) (a5 a6 a7 : Option Value) (s5 : ∀ n, pm_scl n a5 = true) (s6 : ∀ n, pm_scl n a6 = true) (s7 : ∀ n, pm_scl n a7 = true) (hB : ∀ (h' : pm_H) (b5 b6 b7 : Option Value), pw_I h' → pw_K h' → pw_PR 2 131 24 h' → pw_PR 3 135 24 h' → pw_PR 4 132 24 h' → pw_PR 5 133 24 h' → pw_PR 6 134 24 h' → pw_PR 8 136 24 h' → pw_PR 9 137 24 h' → pw_PR 14 162 288 h' → pw_PR 15 163 288 h' → pw_Tn h' → pw_Lc h' → pw_Shs h' → pw_Rm h' → pw_Ro h' → h'.length ≤ h.length + 1 → pm_slt h' ≤ pm_slt h + 1000 → (∀ n, pm_scl n b5 = true) → (∀ n, pm_scl n b6 = true) → (∀ n, pm_scl n b7 = true) → pwl X K h' 2368 [some (.ref 0), some (.ref 16), some (.ref 141), some (.ref 185), some (pw_i i), b5, b6, b7] [] Q) : pwl X (K + 150) h 554 [some (.ref 0), some (.ref 16), some (.ref 141), some (.ref 185), some (pw_i i), a5, a6, a7] [] Q := by
  have E : pm_ent 309 = some (1, 8, 13, 1, pmc_309) := rfl
  refine pwl_ld E (pc' := 555) (st' := [.ref 16]) rfl (fun _ => rfl) ?_
  refine pwl_ld E (pc' := 556) (st' := [.ref 0, .ref 16]) rfl (fun _ => rfl) ?_
  refine pwl_ld E (pc' := 558) (st' := [pw_i i, .ref 0, .ref 16]) rfl (fun _ => rfl) ?_
  refine pwl_ld E (pc' := 559) (st' := [pw_i 1, pw_i i, .ref 0, .ref 16]) rfl (fun _ => rfl) ?_
  refine pwl_add E (pc' := 560) rfl rfl ?_
  refine pwl_sald E (pc' := 561) rfl hX0 hl (by omega) (by omega) rfl ?_
  have hs1 := pw_s_r xs (i + 1)
  refine pwl_ld E (pc' := 562) (st' := [.ref 0, pw_i (pw_s xs (i + 1)), .ref 16]) rfl (fun _ => rfl) ?_
  refine pwl_ld E (pc' := 564) (st' := [pw_i i, .ref 0, pw_i (pw_s xs (i + 1)), .ref 16]) rfl (fun _ => rfl) ?_
  refine pwl_ld E (pc' := 565) (st' := [pw_i 2, pw_i i, .ref 0, pw_i (pw_s xs (i + 1)), .ref 16]) rfl (fun _ => rfl) ?_
  refine pwl_add E (pc' := 566) rfl rfl ?_
  refine pwl_sald E (pc' := 567) rfl hX0 hl (by omega) (by omega) rfl ?_
  have hs2 := pw_s_r xs (i + 2)
  refine pwl_ld E (pc' := 568) (st' := [.ref 0, pw_i (pw_s xs (i + 2)), pw_i (pw_s xs (i + 1)), .ref 16]) rfl (fun _ => rfl) ?_
  refine pwl_ld E (pc' := 570) (st' := [pw_i i, .ref 0, pw_i (pw_s xs (i + 2)), pw_i (pw_s xs (i + 1)), .ref 16]) rfl (fun _ => rfl) ?_
  refine pwl_ld E (pc' := 571) (st' := [pw_i 3, pw_i i, .ref 0, pw_i (pw_s xs (i + 2)), pw_i (pw_s xs (i + 1)), .ref 16]) rfl (fun _ => rfl) ?_
  refine pwl_add E (pc' := 572) rfl rfl ?_
  refine pwl_sald E (pc' := 573) rfl hX0 hl (by omega) (by omega) rfl ?_
  have hs3 := pw_s_r xs (i + 3)
  refine pwl_ld E (pc' := 574) (st' := [.ref 0, pw_i (pw_s xs (i + 3)), pw_i (pw_s xs (i + 2)), pw_i (pw_s xs (i + 1)), .ref 16]) rfl (fun _ => rfl) ?_
  refine pwl_ld E (pc' := 576) (st' := [pw_i i, .ref 0, pw_i (pw_s xs (i + 3)), pw_i (pw_s xs (i + 2)), pw_i (pw_s xs (i + 1)), .ref 16]) rfl (fun _ => rfl) ?_
  refine pwl_ld E (pc' := 577) (st' := [pw_i 4, pw_i i, .ref 0, pw_i (pw_s xs (i + 3)), pw_i (pw_s xs (i + 2)), pw_i (pw_s xs (i + 1)), .ref 16]) rfl (fun _ => rfl) ?_
  refine pwl_add E (pc' := 578) rfl rfl ?_
  refine pwl_sald E (pc' := 579) rfl hX0 hl (by omega) (by omega) rfl ?_
  have hs4 := pw_s_r xs (i + 4)
  refine pwl_ld E (pc' := 580) (st' := [.ref 185, pw_i (pw_s xs (i + 4)), pw_i (pw_s xs (i + 3)), pw_i (pw_s xs (i + 2)), pw_i (pw_s xs (i + 1)), .ref 16]) rfl (fun _ => rfl) ?_
  refine pwl_call (m' := 310) (As := [.ref 16, pw_i (pw_s xs (i + 1)), pw_i (pw_s xs (i + 2)), pw_i (pw_s xs (i + 3)), pw_i (pw_s xs (i + 4)), .ref 185]) (rest := []) (ls'' := [some (.ref 16), some (pw_i (pw_s xs (i + 1))), some (pw_i (pw_s xs (i + 2))), some (pw_i (pw_s xs (i + 3))), some (pw_i (pw_s xs (i + 4))), some (.ref 185), none]) E rfl (fun _ => pwl_iS rfl rfl rfl (pw_sc8 I s5 s6 s7) rfl) (rfl : pm_ent 310 = some (6, 7, 13, 0, pmc_310)) (by decide) rfl rfl (cm_310 (by decide) I (pw_s xs (i + 1)) (by omega) (by omega) (pw_s xs (i + 2)) (by omega) (by omega) (pw_s xs (i + 3)) (by omega) (by omega) (pw_s xs (i + 4)) (by omega) (by omega)) ?_
  rintro h6 v5 ⟨h6I, h6E, x7, rfl, hx7a, hx7b⟩
  refine ⟨_, rfl, ?_⟩
  have h6K := pw_KE I h6E hK rfl
  have h6L := h6E.1
  show pwl X _ h6 583 [some (.ref 0), some (.ref 16), some (.ref 141), some (.ref 185), some (pw_i i), a5, a6, a7] [pw_i x7] _
  have h6Tk : pw_PR 2 131 24 h6 := pw_PRE (c := 2) (c' := 131) rfl rfl I h6E hTk rfl
  have h6Ck : pw_PR 3 135 24 h6 := pw_PRE (c := 3) (c' := 135) rfl rfl I h6E hCk rfl
  have h6Bk : pw_PR 4 132 24 h6 := pw_PRE (c := 4) (c' := 132) rfl rfl I h6E hBk rfl
  have h6Wk : pw_PR 5 133 24 h6 := pw_PRE (c := 5) (c' := 133) rfl rfl I h6E hWk rfl
  have h6Mk : pw_PR 6 134 24 h6 := pw_PRE (c := 6) (c' := 134) rfl rfl I h6E hMk rfl
  have h6Fk : pw_PR 8 136 24 h6 := pw_PRE (c := 8) (c' := 136) rfl rfl I h6E hFk rfl
  have h6Rk : pw_PR 9 137 24 h6 := pw_PRE (c := 9) (c' := 137) rfl rfl I h6E hRk rfl
  have h6Hk : pw_PR 14 162 288 h6 := pw_PRE (c := 14) (c' := 162) rfl rfl I h6E hHk rfl
  have h6Gk : pw_PR 15 163 288 h6 := pw_PRE (c := 15) (c' := 163) rfl rfl I h6E hGk rfl
  have h6Tn := pw_TnE I h6E hTn rfl
  have h6Lc := pw_LcE I h6E hLc rfl
  have h6Ls := pw_ShsE I h6E hLs rfl
  have h6Rm := pw_RmE I h6E hRm rfl
  have h6Ro := pw_RoE I h6E hRo rfl
  refine pwl_ist E (pc' := 585) (ls' := [some (.ref 0), some (.ref 16), some (.ref 141), some (.ref 185), some (pw_i i), some (pw_i x7), a6, a7]) rfl rfl rfl rfl ?_
  refine pwl_ld E (pc' := 586) (st' := [.ref 141]) rfl (fun _ => rfl) ?_
  refine pwl_ld E (pc' := 587) (st' := [.ref 0, .ref 141]) rfl (fun _ => rfl) ?_
  refine pwl_ld E (pc' := 589) (st' := [pw_i i, .ref 0, .ref 141]) rfl (fun _ => rfl) ?_
  refine pwl_ld E (pc' := 590) (st' := [pw_i 1, pw_i i, .ref 0, .ref 141]) rfl (fun _ => rfl) ?_
  refine pwl_add E (pc' := 591) rfl rfl ?_
  refine pwl_sald E (pc' := 592) rfl hX0 hl (by omega) (by omega) rfl ?_
  have hs8 := pw_s_r xs (i + 1)
  refine pwl_ld E (pc' := 593) (st' := [.ref 0, pw_i (pw_s xs (i + 1)), .ref 141]) rfl (fun _ => rfl) ?_
  refine pwl_ld E (pc' := 595) (st' := [pw_i i, .ref 0, pw_i (pw_s xs (i + 1)), .ref 141]) rfl (fun _ => rfl) ?_
  refine pwl_ld E (pc' := 596) (st' := [pw_i 2, pw_i i, .ref 0, pw_i (pw_s xs (i + 1)), .ref 141]) rfl (fun _ => rfl) ?_
  refine pwl_add E (pc' := 597) rfl rfl ?_
  refine pwl_sald E (pc' := 598) rfl hX0 hl (by omega) (by omega) rfl ?_
  have hs9 := pw_s_r xs (i + 2)
  refine pwl_ld E (pc' := 599) (st' := [.ref 0, pw_i (pw_s xs (i + 2)), pw_i (pw_s xs (i + 1)), .ref 141]) rfl (fun _ => rfl) ?_
  refine pwl_ld E (pc' := 601) (st' := [pw_i i, .ref 0, pw_i (pw_s xs (i + 2)), pw_i (pw_s xs (i + 1)), .ref 141]) rfl (fun _ => rfl) ?_
  refine pwl_ld E (pc' := 602) (st' := [pw_i 3, pw_i i, .ref 0, pw_i (pw_s xs (i + 2)), pw_i (pw_s xs (i + 1)), .ref 141]) rfl (fun _ => rfl) ?_
  refine pwl_add E (pc' := 603) rfl rfl ?_
  refine pwl_sald E (pc' := 604) rfl hX0 hl (by omega) (by omega) rfl ?_
  have hs10 := pw_s_r xs (i + 3)
  refine pwl_ld E (pc' := 605) (st' := [.ref 0, pw_i (pw_s xs (i + 3)), pw_i (pw_s xs (i + 2)), pw_i (pw_s xs (i + 1)), .ref 141]) rfl (fun _ => rfl) ?_
  refine pwl_ld E (pc' := 607) (st' := [pw_i i, .ref 0, pw_i (pw_s xs (i + 3)), pw_i (pw_s xs (i + 2)), pw_i (pw_s xs (i + 1)), .ref 141]) rfl (fun _ => rfl) ?_
  refine pwl_ld E (pc' := 608) (st' := [pw_i 4, pw_i i, .ref 0, pw_i (pw_s xs (i + 3)), pw_i (pw_s xs (i + 2)), pw_i (pw_s xs (i + 1)), .ref 141]) rfl (fun _ => rfl) ?_
  refine pwl_add E (pc' := 609) rfl rfl ?_
  refine pwl_sald E (pc' := 610) rfl hX0 hl (by omega) (by omega) rfl ?_
  have hs11 := pw_s_r xs (i + 4)
  obtain ⟨f12l, f12h, -⟩ := pw_obj (c := 125) h6I rfl
  refine pwl_call (m' := 212) (As := [.ref 141, pw_i (pw_s xs (i + 1)), pw_i (pw_s xs (i + 2)), pw_i (pw_s xs (i + 3)), pw_i (pw_s xs (i + 4))]) (rest := []) (ls'' := [some (.ref 141), some (pw_i (pw_s xs (i + 1))), some (pw_i (pw_s xs (i + 2))), some (pw_i (pw_s xs (i + 3))), some (pw_i (pw_s xs (i + 4))), none, none, none, none, none, none]) E rfl (fun _ => pwl_iV rfl rfl rfl (pw_cellI f12h rfl)) (rfl : pm_ent 212 = some (5, 11, 12, 0, pmc_212)) (by decide) rfl rfl (cm_212 (by decide) h6I (pw_s xs (i + 1)) (by omega) (by omega) (pw_s xs (i + 2)) (by omega) (by omega) (pw_s xs (i + 3)) (by omega) (by omega) (pw_s xs (i + 4)) (by omega) (by omega)) ?_
  rintro h14 v13 ⟨h14I, h14E, x15, rfl, hx15a, hx15b⟩
  refine ⟨_, rfl, ?_⟩
  have h14K := pw_KE h6I h14E h6K rfl
  have h14L := h14E.1
  show pwl X _ h14 613 [some (.ref 0), some (.ref 16), some (.ref 141), some (.ref 185), some (pw_i i), some (pw_i x7), a6, a7] [pw_i x15] _
  have h14Tk : pw_PR 2 131 24 h14 := pw_PRE (c := 2) (c' := 131) rfl rfl h6I h14E h6Tk rfl
  have h14Ck : pw_PR 3 135 24 h14 := pw_PRE (c := 3) (c' := 135) rfl rfl h6I h14E h6Ck rfl
  have h14Bk : pw_PR 4 132 24 h14 := pw_PRE (c := 4) (c' := 132) rfl rfl h6I h14E h6Bk rfl
  have h14Wk : pw_PR 5 133 24 h14 := pw_PRE (c := 5) (c' := 133) rfl rfl h6I h14E h6Wk rfl
  have h14Mk : pw_PR 6 134 24 h14 := pw_PRE (c := 6) (c' := 134) rfl rfl h6I h14E h6Mk rfl
  have h14Fk : pw_PR 8 136 24 h14 := pw_PRE (c := 8) (c' := 136) rfl rfl h6I h14E h6Fk rfl
  have h14Rk : pw_PR 9 137 24 h14 := pw_PRE (c := 9) (c' := 137) rfl rfl h6I h14E h6Rk rfl
  have h14Hk : pw_PR 14 162 288 h14 := pw_PRE (c := 14) (c' := 162) rfl rfl h6I h14E h6Hk rfl
  have h14Gk : pw_PR 15 163 288 h14 := pw_PRE (c := 15) (c' := 163) rfl rfl h6I h14E h6Gk rfl
  have h14Tn := pw_TnE h6I h14E h6Tn rfl
  have h14Lc := pw_LcE h6I h14E h6Lc rfl
  have h14Ls := pw_ShsE h6I h14E h6Ls rfl
  have h14Rm := pw_RmE h6I h14E h6Rm rfl
  have h14Ro := pw_RoE h6I h14E h6Ro rfl
  refine pwl_ist E (pc' := 615) (ls' := [some (.ref 0), some (.ref 16), some (.ref 141), some (.ref 185), some (pw_i i), some (pw_i x7), some (pw_i x15), a7]) rfl rfl rfl rfl ?_
  refine pwl_goto E (pc' := 2368) rfl (by decide) ?_
  exact pwl_mono (by omega) (hB h14 (some (pw_i x7)) (some (pw_i x15)) (a7) h14I h14K h14Tk h14Ck h14Bk h14Wk h14Mk h14Fk h14Rk h14Hk h14Gk h14Tn h14Lc h14Ls h14Rm h14Ro (by omega) (by omega) (fun _ => rfl) (fun _ => rfl) s7)
set_option maxHeartbeats 4000000 in
theorem lc_7 {X : List (Nat × List Value)} {xs : List Int32} {K : Nat} {h : pm_H} {Q : pm_H → (Option Value ⊕ Unit) → Prop} (hX0 : X[0]? = some (0, xs.map Value.int)) (hl : xs.length ≤ 3584) (hX : pw_Xk X) (hR : pw_Xr X) (I : pw_I h) (hK : pw_K h) (hTk : pw_PR 2 131 24 h) (hCk : pw_PR 3 135 24 h) (hBk : pw_PR 4 132 24 h) (hWk : pw_PR 5 133 24 h) (hMk : pw_PR 6 134 24 h) (hFk : pw_PR 8 136 24 h) (hRk : pw_PR 9 137 24 h) (hHk : pw_PR 14 162 288 h) (hGk : pw_PR 15 163 288 h) (hTn : pw_Tn h) (hLc : pw_Lc h) (hLs : pw_Shs h) (hRm : pw_Rm h) (hRo : pw_Ro h) (i : Int) (hi0 : 0 ≤ i) (hi1 : i + 7 ≤ xs.length) (a5 a6 a7 : Option Value) (s5 : ∀ n, pm_scl n a5 = true) (s6 : ∀ n, pm_scl n a6 = true) (s7 : ∀ n, pm_scl n a7 = true) (hB : ∀ (h' : pm_H) (b5 b6 b7 : Option Value), pw_I h' → pw_K h' → pw_PR 2 131 24 h' → pw_PR 3 135 24 h' → pw_PR 4 132 24 h' → pw_PR 5 133 24 h' → pw_PR 6 134 24 h' → pw_PR 8 136 24 h' → pw_PR 9 137 24 h' → pw_PR 14 162 288 h' → pw_PR 15 163 288 h' → pw_Tn h' → pw_Lc h' → pw_Shs h' → pw_Rm h' → pw_Ro h' → h'.length ≤ h.length + 1 → pm_slt h' ≤ pm_slt h + 1000 → (∀ n, pm_scl n b5 = true) → (∀ n, pm_scl n b6 = true) → (∀ n, pm_scl n b7 = true) → pwl X K h' 2368 [some (.ref 0), some (.ref 16), some (.ref 141), some (.ref 185), some (pw_i i), b5, b6, b7] [] Q) : pwl X (K + 150) h 618 [some (.ref 0), some (.ref 16), some (.ref 141), some (.ref 185), some (pw_i i), a5, a6, a7] [] Q := by
  have E : pm_ent 309 = some (1, 8, 13, 1, pmc_309) := rfl
  refine pwl_ld E (pc' := 619) (st' := [.ref 16]) rfl (fun _ => rfl) ?_
  refine pwl_ld E (pc' := 620) (st' := [.ref 0, .ref 16]) rfl (fun _ => rfl) ?_
  refine pwl_ld E (pc' := 622) (st' := [pw_i i, .ref 0, .ref 16]) rfl (fun _ => rfl) ?_
  refine pwl_ld E (pc' := 623) (st' := [pw_i 1, pw_i i, .ref 0, .ref 16]) rfl (fun _ => rfl) ?_
  refine pwl_add E (pc' := 624) rfl rfl ?_
  refine pwl_sald E (pc' := 625) rfl hX0 hl (by omega) (by omega) rfl ?_
  have hs1 := pw_s_r xs (i + 1)
  refine pwl_ld E (pc' := 626) (st' := [.ref 0, pw_i (pw_s xs (i + 1)), .ref 16]) rfl (fun _ => rfl) ?_
  refine pwl_ld E (pc' := 628) (st' := [pw_i i, .ref 0, pw_i (pw_s xs (i + 1)), .ref 16]) rfl (fun _ => rfl) ?_
  refine pwl_ld E (pc' := 629) (st' := [pw_i 2, pw_i i, .ref 0, pw_i (pw_s xs (i + 1)), .ref 16]) rfl (fun _ => rfl) ?_
  refine pwl_add E (pc' := 630) rfl rfl ?_
  refine pwl_sald E (pc' := 631) rfl hX0 hl (by omega) (by omega) rfl ?_
  have hs2 := pw_s_r xs (i + 2)
  refine pwl_ld E (pc' := 632) (st' := [.ref 0, pw_i (pw_s xs (i + 2)), pw_i (pw_s xs (i + 1)), .ref 16]) rfl (fun _ => rfl) ?_
  refine pwl_ld E (pc' := 634) (st' := [pw_i i, .ref 0, pw_i (pw_s xs (i + 2)), pw_i (pw_s xs (i + 1)), .ref 16]) rfl (fun _ => rfl) ?_
  refine pwl_ld E (pc' := 635) (st' := [pw_i 3, pw_i i, .ref 0, pw_i (pw_s xs (i + 2)), pw_i (pw_s xs (i + 1)), .ref 16]) rfl (fun _ => rfl) ?_
  refine pwl_add E (pc' := 636) rfl rfl ?_
  refine pwl_sald E (pc' := 637) rfl hX0 hl (by omega) (by omega) rfl ?_
  have hs3 := pw_s_r xs (i + 3)
  refine pwl_ld E (pc' := 638) (st' := [.ref 0, pw_i (pw_s xs (i + 3)), pw_i (pw_s xs (i + 2)), pw_i (pw_s xs (i + 1)), .ref 16]) rfl (fun _ => rfl) ?_
  refine pwl_ld E (pc' := 640) (st' := [pw_i i, .ref 0, pw_i (pw_s xs (i + 3)), pw_i (pw_s xs (i + 2)), pw_i (pw_s xs (i + 1)), .ref 16]) rfl (fun _ => rfl) ?_
  refine pwl_ld E (pc' := 641) (st' := [pw_i 4, pw_i i, .ref 0, pw_i (pw_s xs (i + 3)), pw_i (pw_s xs (i + 2)), pw_i (pw_s xs (i + 1)), .ref 16]) rfl (fun _ => rfl) ?_
  refine pwl_add E (pc' := 642) rfl rfl ?_
  refine pwl_sald E (pc' := 643) rfl hX0 hl (by omega) (by omega) rfl ?_
  have hs4 := pw_s_r xs (i + 4)
  refine pwl_ld E (pc' := 644) (st' := [.ref 185, pw_i (pw_s xs (i + 4)), pw_i (pw_s xs (i + 3)), pw_i (pw_s xs (i + 2)), pw_i (pw_s xs (i + 1)), .ref 16]) rfl (fun _ => rfl) ?_
  refine pwl_call (m' := 311) (As := [.ref 16, pw_i (pw_s xs (i + 1)), pw_i (pw_s xs (i + 2)), pw_i (pw_s xs (i + 3)), pw_i (pw_s xs (i + 4)), .ref 185]) (rest := []) (ls'' := [some (.ref 16), some (pw_i (pw_s xs (i + 1))), some (pw_i (pw_s xs (i + 2))), some (pw_i (pw_s xs (i + 3))), some (pw_i (pw_s xs (i + 4))), some (.ref 185), none]) E rfl (fun _ => pwl_iS rfl rfl rfl (pw_sc8 I s5 s6 s7) rfl) (rfl : pm_ent 311 = some (6, 7, 13, 0, pmc_311)) (by decide) rfl rfl (cm_311 (by decide) I (pw_s xs (i + 1)) (by omega) (by omega) (pw_s xs (i + 2)) (by omega) (by omega) (pw_s xs (i + 3)) (by omega) (by omega) (pw_s xs (i + 4)) (by omega) (by omega)) ?_
  rintro h6 v5 ⟨h6I, h6E, x7, rfl, hx7a, hx7b⟩
  refine ⟨_, rfl, ?_⟩
  have h6K := pw_KE I h6E hK rfl
  have h6L := h6E.1
  show pwl X _ h6 647 [some (.ref 0), some (.ref 16), some (.ref 141), some (.ref 185), some (pw_i i), a5, a6, a7] [pw_i x7] _
  have h6Tk : pw_PR 2 131 24 h6 := pw_PRE (c := 2) (c' := 131) rfl rfl I h6E hTk rfl
  have h6Ck : pw_PR 3 135 24 h6 := pw_PRE (c := 3) (c' := 135) rfl rfl I h6E hCk rfl
  have h6Bk : pw_PR 4 132 24 h6 := pw_PRE (c := 4) (c' := 132) rfl rfl I h6E hBk rfl
  have h6Wk : pw_PR 5 133 24 h6 := pw_PRE (c := 5) (c' := 133) rfl rfl I h6E hWk rfl
  have h6Mk : pw_PR 6 134 24 h6 := pw_PRE (c := 6) (c' := 134) rfl rfl I h6E hMk rfl
  have h6Fk : pw_PR 8 136 24 h6 := pw_PRE (c := 8) (c' := 136) rfl rfl I h6E hFk rfl
  have h6Rk : pw_PR 9 137 24 h6 := pw_PRE (c := 9) (c' := 137) rfl rfl I h6E hRk rfl
  have h6Hk : pw_PR 14 162 288 h6 := pw_PRE (c := 14) (c' := 162) rfl rfl I h6E hHk rfl
  have h6Gk : pw_PR 15 163 288 h6 := pw_PRE (c := 15) (c' := 163) rfl rfl I h6E hGk rfl
  have h6Tn := pw_TnE I h6E hTn rfl
  have h6Lc := pw_LcE I h6E hLc rfl
  have h6Ls := pw_ShsE I h6E hLs rfl
  have h6Rm := pw_RmE I h6E hRm rfl
  have h6Ro := pw_RoE I h6E hRo rfl
  refine pwl_ist E (pc' := 649) (ls' := [some (.ref 0), some (.ref 16), some (.ref 141), some (.ref 185), some (pw_i i), some (pw_i x7), a6, a7]) rfl rfl rfl rfl ?_
  refine pwl_ld E (pc' := 650) (st' := [.ref 141]) rfl (fun _ => rfl) ?_
  refine pwl_ld E (pc' := 651) (st' := [.ref 0, .ref 141]) rfl (fun _ => rfl) ?_
  refine pwl_ld E (pc' := 653) (st' := [pw_i i, .ref 0, .ref 141]) rfl (fun _ => rfl) ?_
  refine pwl_ld E (pc' := 654) (st' := [pw_i 1, pw_i i, .ref 0, .ref 141]) rfl (fun _ => rfl) ?_
  refine pwl_add E (pc' := 655) rfl rfl ?_
  refine pwl_sald E (pc' := 656) rfl hX0 hl (by omega) (by omega) rfl ?_
  have hs8 := pw_s_r xs (i + 1)
  refine pwl_ld E (pc' := 657) (st' := [.ref 0, pw_i (pw_s xs (i + 1)), .ref 141]) rfl (fun _ => rfl) ?_
  refine pwl_ld E (pc' := 659) (st' := [pw_i i, .ref 0, pw_i (pw_s xs (i + 1)), .ref 141]) rfl (fun _ => rfl) ?_
  refine pwl_ld E (pc' := 660) (st' := [pw_i 2, pw_i i, .ref 0, pw_i (pw_s xs (i + 1)), .ref 141]) rfl (fun _ => rfl) ?_
  refine pwl_add E (pc' := 661) rfl rfl ?_
  refine pwl_sald E (pc' := 662) rfl hX0 hl (by omega) (by omega) rfl ?_
  have hs9 := pw_s_r xs (i + 2)
  refine pwl_ld E (pc' := 663) (st' := [.ref 0, pw_i (pw_s xs (i + 2)), pw_i (pw_s xs (i + 1)), .ref 141]) rfl (fun _ => rfl) ?_
  refine pwl_ld E (pc' := 665) (st' := [pw_i i, .ref 0, pw_i (pw_s xs (i + 2)), pw_i (pw_s xs (i + 1)), .ref 141]) rfl (fun _ => rfl) ?_
  refine pwl_ld E (pc' := 666) (st' := [pw_i 3, pw_i i, .ref 0, pw_i (pw_s xs (i + 2)), pw_i (pw_s xs (i + 1)), .ref 141]) rfl (fun _ => rfl) ?_
  refine pwl_add E (pc' := 667) rfl rfl ?_
  refine pwl_sald E (pc' := 668) rfl hX0 hl (by omega) (by omega) rfl ?_
  have hs10 := pw_s_r xs (i + 3)
  refine pwl_ld E (pc' := 669) (st' := [.ref 0, pw_i (pw_s xs (i + 3)), pw_i (pw_s xs (i + 2)), pw_i (pw_s xs (i + 1)), .ref 141]) rfl (fun _ => rfl) ?_
  refine pwl_ld E (pc' := 671) (st' := [pw_i i, .ref 0, pw_i (pw_s xs (i + 3)), pw_i (pw_s xs (i + 2)), pw_i (pw_s xs (i + 1)), .ref 141]) rfl (fun _ => rfl) ?_
  refine pwl_ld E (pc' := 672) (st' := [pw_i 4, pw_i i, .ref 0, pw_i (pw_s xs (i + 3)), pw_i (pw_s xs (i + 2)), pw_i (pw_s xs (i + 1)), .ref 141]) rfl (fun _ => rfl) ?_
  refine pwl_add E (pc' := 673) rfl rfl ?_
  refine pwl_sald E (pc' := 674) rfl hX0 hl (by omega) (by omega) rfl ?_
  have hs11 := pw_s_r xs (i + 4)
  obtain ⟨f12l, f12h, -⟩ := pw_obj (c := 125) h6I rfl
  refine pwl_call (m' := 216) (As := [.ref 141, pw_i (pw_s xs (i + 1)), pw_i (pw_s xs (i + 2)), pw_i (pw_s xs (i + 3)), pw_i (pw_s xs (i + 4))]) (rest := []) (ls'' := [some (.ref 141), some (pw_i (pw_s xs (i + 1))), some (pw_i (pw_s xs (i + 2))), some (pw_i (pw_s xs (i + 3))), some (pw_i (pw_s xs (i + 4)))]) E rfl (fun _ => pwl_iV rfl rfl rfl (pw_cellI f12h rfl)) (rfl : pm_ent 216 = some (5, 5, 12, 2, pmc_216)) (by decide) rfl rfl (cm_216 (by decide) h6I (pw_s xs (i + 1)) (by omega) (by omega) (pw_s xs (i + 2)) (by omega) (by omega) (pw_s xs (i + 3)) (by omega) (by omega) (pw_s xs (i + 4)) (by omega) (by omega)) ?_
  rintro h14 v13 ⟨h14I, h14E, w15, rfl⟩
  refine ⟨_, rfl, ?_⟩
  have h14K := pw_KE h6I h14E h6K rfl
  have h14L := h14E.1
  show pwl X _ h14 677 [some (.ref 0), some (.ref 16), some (.ref 141), some (.ref 185), some (pw_i i), some (pw_i x7), a6, a7] [.long w15] _
  have h14Tk : pw_PR 2 131 24 h14 := pw_PRE (c := 2) (c' := 131) rfl rfl h6I h14E h6Tk rfl
  have h14Ck : pw_PR 3 135 24 h14 := pw_PRE (c := 3) (c' := 135) rfl rfl h6I h14E h6Ck rfl
  have h14Bk : pw_PR 4 132 24 h14 := pw_PRE (c := 4) (c' := 132) rfl rfl h6I h14E h6Bk rfl
  have h14Wk : pw_PR 5 133 24 h14 := pw_PRE (c := 5) (c' := 133) rfl rfl h6I h14E h6Wk rfl
  have h14Mk : pw_PR 6 134 24 h14 := pw_PRE (c := 6) (c' := 134) rfl rfl h6I h14E h6Mk rfl
  have h14Fk : pw_PR 8 136 24 h14 := pw_PRE (c := 8) (c' := 136) rfl rfl h6I h14E h6Fk rfl
  have h14Rk : pw_PR 9 137 24 h14 := pw_PRE (c := 9) (c' := 137) rfl rfl h6I h14E h6Rk rfl
  have h14Hk : pw_PR 14 162 288 h14 := pw_PRE (c := 14) (c' := 162) rfl rfl h6I h14E h6Hk rfl
  have h14Gk : pw_PR 15 163 288 h14 := pw_PRE (c := 15) (c' := 163) rfl rfl h6I h14E h6Gk rfl
  have h14Tn := pw_TnE h6I h14E h6Tn rfl
  have h14Lc := pw_LcE h6I h14E h6Lc rfl
  have h14Ls := pw_ShsE h6I h14E h6Ls rfl
  have h14Rm := pw_RmE h6I h14E h6Rm rfl
  have h14Ro := pw_RoE h6I h14E h6Ro rfl
  refine pwl_lst E (pc' := 679) (ls' := [some (.ref 0), some (.ref 16), some (.ref 141), some (.ref 185), some (pw_i i), some (pw_i x7), some (.long w15), none]) rfl rfl rfl rfl ?_
  refine pwl_goto E (pc' := 2368) rfl (by decide) ?_
  exact pwl_mono (by omega) (hB h14 (some (pw_i x7)) (some (.long w15)) (none) h14I h14K h14Tk h14Ck h14Bk h14Wk h14Mk h14Fk h14Rk h14Hk h14Gk h14Tn h14Lc h14Ls h14Rm h14Ro (by omega) (by omega) (fun _ => rfl) (fun _ => rfl) (fun _ => rfl))
set_option maxHeartbeats 4000000 in
theorem lc_8 {X : List (Nat × List Value)} {xs : List Int32} {K : Nat} {h : pm_H} {Q : pm_H → (Option Value ⊕ Unit) → Prop} (hX0 : X[0]? = some (0, xs.map Value.int)) (hl : xs.length ≤ 3584) (hX : pw_Xk X) (hR : pw_Xr X) (I : pw_I h) (hK : pw_K h) (hTk : pw_PR 2 131 24 h) (hCk : pw_PR 3 135 24 h) (hBk : pw_PR 4 132 24 h) (hWk : pw_PR 5 133 24 h) (hMk : pw_PR 6 134 24 h) (hFk : pw_PR 8 136 24 h) (hRk : pw_PR 9 137 24 h) (hHk : pw_PR 14 162 288 h) (hGk : pw_PR 15 163 288 h) (hTn : pw_Tn h) (hLc : pw_Lc h) (hLs : pw_Shs h) (hRm : pw_Rm h) (hRo : pw_Ro h) (i : Int) (hi0 : 0 ≤ i) (hi1 : i + 7 ≤ xs.length) (a5 a6 a7 : Option Value) (s5 : ∀ n, pm_scl n a5 = true) (s6 : ∀ n, pm_scl n a6 = true) (s7 : ∀ n, pm_scl n a7 = true) (hB : ∀ (h' : pm_H) (b5 b6 b7 : Option Value), pw_I h' → pw_K h' → pw_PR 2 131 24 h' → pw_PR 3 135 24 h' → pw_PR 4 132 24 h' → pw_PR 5 133 24 h' → pw_PR 6 134 24 h' → pw_PR 8 136 24 h' → pw_PR 9 137 24 h' → pw_PR 14 162 288 h' → pw_PR 15 163 288 h' → pw_Tn h' → pw_Lc h' → pw_Shs h' → pw_Rm h' → pw_Ro h' → h'.length ≤ h.length + 1 → pm_slt h' ≤ pm_slt h + 1000 → (∀ n, pm_scl n b5 = true) → (∀ n, pm_scl n b6 = true) → (∀ n, pm_scl n b7 = true) → pwl X K h' 2368 [some (.ref 0), some (.ref 16), some (.ref 141), some (.ref 185), some (pw_i i), b5, b6, b7] [] Q) : pwl X (K + 150) h 682 [some (.ref 0), some (.ref 16), some (.ref 141), some (.ref 185), some (pw_i i), a5, a6, a7] [] Q := by
  have E : pm_ent 309 = some (1, 8, 13, 1, pmc_309) := rfl
  refine pwl_ld E (pc' := 683) (st' := [.ref 16]) rfl (fun _ => rfl) ?_
  refine pwl_ld E (pc' := 684) (st' := [.ref 0, .ref 16]) rfl (fun _ => rfl) ?_
  refine pwl_ld E (pc' := 686) (st' := [pw_i i, .ref 0, .ref 16]) rfl (fun _ => rfl) ?_
  refine pwl_ld E (pc' := 687) (st' := [pw_i 1, pw_i i, .ref 0, .ref 16]) rfl (fun _ => rfl) ?_
  refine pwl_add E (pc' := 688) rfl rfl ?_
  refine pwl_sald E (pc' := 689) rfl hX0 hl (by omega) (by omega) rfl ?_
  have hs1 := pw_s_r xs (i + 1)
  refine pwl_ld E (pc' := 690) (st' := [.ref 0, pw_i (pw_s xs (i + 1)), .ref 16]) rfl (fun _ => rfl) ?_
  refine pwl_ld E (pc' := 692) (st' := [pw_i i, .ref 0, pw_i (pw_s xs (i + 1)), .ref 16]) rfl (fun _ => rfl) ?_
  refine pwl_ld E (pc' := 693) (st' := [pw_i 2, pw_i i, .ref 0, pw_i (pw_s xs (i + 1)), .ref 16]) rfl (fun _ => rfl) ?_
  refine pwl_add E (pc' := 694) rfl rfl ?_
  refine pwl_sald E (pc' := 695) rfl hX0 hl (by omega) (by omega) rfl ?_
  have hs2 := pw_s_r xs (i + 2)
  refine pwl_ld E (pc' := 696) (st' := [.ref 0, pw_i (pw_s xs (i + 2)), pw_i (pw_s xs (i + 1)), .ref 16]) rfl (fun _ => rfl) ?_
  refine pwl_ld E (pc' := 698) (st' := [pw_i i, .ref 0, pw_i (pw_s xs (i + 2)), pw_i (pw_s xs (i + 1)), .ref 16]) rfl (fun _ => rfl) ?_
  refine pwl_ld E (pc' := 699) (st' := [pw_i 3, pw_i i, .ref 0, pw_i (pw_s xs (i + 2)), pw_i (pw_s xs (i + 1)), .ref 16]) rfl (fun _ => rfl) ?_
  refine pwl_add E (pc' := 700) rfl rfl ?_
  refine pwl_sald E (pc' := 701) rfl hX0 hl (by omega) (by omega) rfl ?_
  have hs3 := pw_s_r xs (i + 3)
  refine pwl_ld E (pc' := 702) (st' := [.ref 0, pw_i (pw_s xs (i + 3)), pw_i (pw_s xs (i + 2)), pw_i (pw_s xs (i + 1)), .ref 16]) rfl (fun _ => rfl) ?_
  refine pwl_ld E (pc' := 704) (st' := [pw_i i, .ref 0, pw_i (pw_s xs (i + 3)), pw_i (pw_s xs (i + 2)), pw_i (pw_s xs (i + 1)), .ref 16]) rfl (fun _ => rfl) ?_
  refine pwl_ld E (pc' := 705) (st' := [pw_i 4, pw_i i, .ref 0, pw_i (pw_s xs (i + 3)), pw_i (pw_s xs (i + 2)), pw_i (pw_s xs (i + 1)), .ref 16]) rfl (fun _ => rfl) ?_
  refine pwl_add E (pc' := 706) rfl rfl ?_
  refine pwl_sald E (pc' := 707) rfl hX0 hl (by omega) (by omega) rfl ?_
  have hs4 := pw_s_r xs (i + 4)
  refine pwl_ld E (pc' := 708) (st' := [.ref 185, pw_i (pw_s xs (i + 4)), pw_i (pw_s xs (i + 3)), pw_i (pw_s xs (i + 2)), pw_i (pw_s xs (i + 1)), .ref 16]) rfl (fun _ => rfl) ?_
  refine pwl_call (m' := 312) (As := [.ref 16, pw_i (pw_s xs (i + 1)), pw_i (pw_s xs (i + 2)), pw_i (pw_s xs (i + 3)), pw_i (pw_s xs (i + 4)), .ref 185]) (rest := []) (ls'' := [some (.ref 16), some (pw_i (pw_s xs (i + 1))), some (pw_i (pw_s xs (i + 2))), some (pw_i (pw_s xs (i + 3))), some (pw_i (pw_s xs (i + 4))), some (.ref 185), none]) E rfl (fun _ => pwl_iS rfl rfl rfl (pw_sc8 I s5 s6 s7) rfl) (rfl : pm_ent 312 = some (6, 7, 13, 0, pmc_312)) (by decide) rfl rfl (cm_312 (by decide) I (pw_s xs (i + 1)) (by omega) (by omega) (pw_s xs (i + 2)) (by omega) (by omega) (pw_s xs (i + 3)) (by omega) (by omega) (pw_s xs (i + 4)) (by omega) (by omega)) ?_
  rintro h6 v5 ⟨h6I, h6E, x7, rfl, hx7a, hx7b⟩
  refine ⟨_, rfl, ?_⟩
  have h6K := pw_KE I h6E hK rfl
  have h6L := h6E.1
  show pwl X _ h6 711 [some (.ref 0), some (.ref 16), some (.ref 141), some (.ref 185), some (pw_i i), a5, a6, a7] [pw_i x7] _
  have h6Tk : pw_PR 2 131 24 h6 := pw_PRE (c := 2) (c' := 131) rfl rfl I h6E hTk rfl
  have h6Ck : pw_PR 3 135 24 h6 := pw_PRE (c := 3) (c' := 135) rfl rfl I h6E hCk rfl
  have h6Bk : pw_PR 4 132 24 h6 := pw_PRE (c := 4) (c' := 132) rfl rfl I h6E hBk rfl
  have h6Wk : pw_PR 5 133 24 h6 := pw_PRE (c := 5) (c' := 133) rfl rfl I h6E hWk rfl
  have h6Mk : pw_PR 6 134 24 h6 := pw_PRE (c := 6) (c' := 134) rfl rfl I h6E hMk rfl
  have h6Fk : pw_PR 8 136 24 h6 := pw_PRE (c := 8) (c' := 136) rfl rfl I h6E hFk rfl
  have h6Rk : pw_PR 9 137 24 h6 := pw_PRE (c := 9) (c' := 137) rfl rfl I h6E hRk rfl
  have h6Hk : pw_PR 14 162 288 h6 := pw_PRE (c := 14) (c' := 162) rfl rfl I h6E hHk rfl
  have h6Gk : pw_PR 15 163 288 h6 := pw_PRE (c := 15) (c' := 163) rfl rfl I h6E hGk rfl
  have h6Tn := pw_TnE I h6E hTn rfl
  have h6Lc := pw_LcE I h6E hLc rfl
  have h6Ls := pw_ShsE I h6E hLs rfl
  have h6Rm := pw_RmE I h6E hRm rfl
  have h6Ro := pw_RoE I h6E hRo rfl
  refine pwl_ist E (pc' := 713) (ls' := [some (.ref 0), some (.ref 16), some (.ref 141), some (.ref 185), some (pw_i i), some (pw_i x7), a6, a7]) rfl rfl rfl rfl ?_
  refine pwl_ld E (pc' := 714) (st' := [.ref 141]) rfl (fun _ => rfl) ?_
  refine pwl_ld E (pc' := 715) (st' := [.ref 0, .ref 141]) rfl (fun _ => rfl) ?_
  refine pwl_ld E (pc' := 717) (st' := [pw_i i, .ref 0, .ref 141]) rfl (fun _ => rfl) ?_
  refine pwl_ld E (pc' := 718) (st' := [pw_i 1, pw_i i, .ref 0, .ref 141]) rfl (fun _ => rfl) ?_
  refine pwl_add E (pc' := 719) rfl rfl ?_
  refine pwl_sald E (pc' := 720) rfl hX0 hl (by omega) (by omega) rfl ?_
  have hs8 := pw_s_r xs (i + 1)
  refine pwl_ld E (pc' := 721) (st' := [.ref 0, pw_i (pw_s xs (i + 1)), .ref 141]) rfl (fun _ => rfl) ?_
  refine pwl_ld E (pc' := 723) (st' := [pw_i i, .ref 0, pw_i (pw_s xs (i + 1)), .ref 141]) rfl (fun _ => rfl) ?_
  refine pwl_ld E (pc' := 724) (st' := [pw_i 2, pw_i i, .ref 0, pw_i (pw_s xs (i + 1)), .ref 141]) rfl (fun _ => rfl) ?_
  refine pwl_add E (pc' := 725) rfl rfl ?_
  refine pwl_sald E (pc' := 726) rfl hX0 hl (by omega) (by omega) rfl ?_
  have hs9 := pw_s_r xs (i + 2)
  refine pwl_ld E (pc' := 727) (st' := [.ref 0, pw_i (pw_s xs (i + 2)), pw_i (pw_s xs (i + 1)), .ref 141]) rfl (fun _ => rfl) ?_
  refine pwl_ld E (pc' := 729) (st' := [pw_i i, .ref 0, pw_i (pw_s xs (i + 2)), pw_i (pw_s xs (i + 1)), .ref 141]) rfl (fun _ => rfl) ?_
  refine pwl_ld E (pc' := 730) (st' := [pw_i 3, pw_i i, .ref 0, pw_i (pw_s xs (i + 2)), pw_i (pw_s xs (i + 1)), .ref 141]) rfl (fun _ => rfl) ?_
  refine pwl_add E (pc' := 731) rfl rfl ?_
  refine pwl_sald E (pc' := 732) rfl hX0 hl (by omega) (by omega) rfl ?_
  have hs10 := pw_s_r xs (i + 3)
  refine pwl_ld E (pc' := 733) (st' := [.ref 0, pw_i (pw_s xs (i + 3)), pw_i (pw_s xs (i + 2)), pw_i (pw_s xs (i + 1)), .ref 141]) rfl (fun _ => rfl) ?_
  refine pwl_ld E (pc' := 735) (st' := [pw_i i, .ref 0, pw_i (pw_s xs (i + 3)), pw_i (pw_s xs (i + 2)), pw_i (pw_s xs (i + 1)), .ref 141]) rfl (fun _ => rfl) ?_
  refine pwl_ld E (pc' := 736) (st' := [pw_i 4, pw_i i, .ref 0, pw_i (pw_s xs (i + 3)), pw_i (pw_s xs (i + 2)), pw_i (pw_s xs (i + 1)), .ref 141]) rfl (fun _ => rfl) ?_
  refine pwl_add E (pc' := 737) rfl rfl ?_
  refine pwl_sald E (pc' := 738) rfl hX0 hl (by omega) (by omega) rfl ?_
  have hs11 := pw_s_r xs (i + 4)
  obtain ⟨f12l, f12h, -⟩ := pw_obj (c := 125) h6I rfl
  refine pwl_call (m' := 224) (As := [.ref 141, pw_i (pw_s xs (i + 1)), pw_i (pw_s xs (i + 2)), pw_i (pw_s xs (i + 3)), pw_i (pw_s xs (i + 4))]) (rest := []) (ls'' := [some (.ref 141), some (pw_i (pw_s xs (i + 1))), some (pw_i (pw_s xs (i + 2))), some (pw_i (pw_s xs (i + 3))), some (pw_i (pw_s xs (i + 4))), none, none, none, none]) E rfl (fun _ => pwl_iV rfl rfl rfl (pw_cellI f12h rfl)) (rfl : pm_ent 224 = some (5, 9, 12, 2, pmc_224)) (by decide) rfl rfl (cm_224 (by decide) h6I (pw_s xs (i + 1)) (by omega) (by omega) (pw_s xs (i + 2)) (by omega) (by omega) (pw_s xs (i + 3)) (by omega) (by omega) (pw_s xs (i + 4)) (by omega) (by omega)) ?_
  rintro h14 v13 ⟨h14I, h14E, w15, rfl⟩
  refine ⟨_, rfl, ?_⟩
  have h14K := pw_KE h6I h14E h6K rfl
  have h14L := h14E.1
  show pwl X _ h14 741 [some (.ref 0), some (.ref 16), some (.ref 141), some (.ref 185), some (pw_i i), some (pw_i x7), a6, a7] [.long w15] _
  have h14Tk : pw_PR 2 131 24 h14 := pw_PRE (c := 2) (c' := 131) rfl rfl h6I h14E h6Tk rfl
  have h14Ck : pw_PR 3 135 24 h14 := pw_PRE (c := 3) (c' := 135) rfl rfl h6I h14E h6Ck rfl
  have h14Bk : pw_PR 4 132 24 h14 := pw_PRE (c := 4) (c' := 132) rfl rfl h6I h14E h6Bk rfl
  have h14Wk : pw_PR 5 133 24 h14 := pw_PRE (c := 5) (c' := 133) rfl rfl h6I h14E h6Wk rfl
  have h14Mk : pw_PR 6 134 24 h14 := pw_PRE (c := 6) (c' := 134) rfl rfl h6I h14E h6Mk rfl
  have h14Fk : pw_PR 8 136 24 h14 := pw_PRE (c := 8) (c' := 136) rfl rfl h6I h14E h6Fk rfl
  have h14Rk : pw_PR 9 137 24 h14 := pw_PRE (c := 9) (c' := 137) rfl rfl h6I h14E h6Rk rfl
  have h14Hk : pw_PR 14 162 288 h14 := pw_PRE (c := 14) (c' := 162) rfl rfl h6I h14E h6Hk rfl
  have h14Gk : pw_PR 15 163 288 h14 := pw_PRE (c := 15) (c' := 163) rfl rfl h6I h14E h6Gk rfl
  have h14Tn := pw_TnE h6I h14E h6Tn rfl
  have h14Lc := pw_LcE h6I h14E h6Lc rfl
  have h14Ls := pw_ShsE h6I h14E h6Ls rfl
  have h14Rm := pw_RmE h6I h14E h6Rm rfl
  have h14Ro := pw_RoE h6I h14E h6Ro rfl
  refine pwl_lst E (pc' := 743) (ls' := [some (.ref 0), some (.ref 16), some (.ref 141), some (.ref 185), some (pw_i i), some (pw_i x7), some (.long w15), none]) rfl rfl rfl rfl ?_
  refine pwl_goto E (pc' := 2368) rfl (by decide) ?_
  exact pwl_mono (by omega) (hB h14 (some (pw_i x7)) (some (.long w15)) (none) h14I h14K h14Tk h14Ck h14Bk h14Wk h14Mk h14Fk h14Rk h14Hk h14Gk h14Tn h14Lc h14Ls h14Rm h14Ro (by omega) (by omega) (fun _ => rfl) (fun _ => rfl) (fun _ => rfl))
set_option maxHeartbeats 4000000 in
theorem lc_9 {X : List (Nat × List Value)} {xs : List Int32} {K : Nat} {h : pm_H} {Q : pm_H → (Option Value ⊕ Unit) → Prop} (hX0 : X[0]? = some (0, xs.map Value.int)) (hl : xs.length ≤ 3584) (hX : pw_Xk X) (hR : pw_Xr X) (I : pw_I h) (hK : pw_K h) (hTk : pw_PR 2 131 24 h) (hCk : pw_PR 3 135 24 h) (hBk : pw_PR 4 132 24 h) (hWk : pw_PR 5 133 24 h) (hMk : pw_PR 6 134 24 h) (hFk : pw_PR 8 136 24 h) (hRk : pw_PR 9 137 24 h) (hHk : pw_PR 14 162 288 h) (hGk : pw_PR 15 163 288 h) (hTn : pw_Tn h) (hLc : pw_Lc h) (hLs : pw_Shs h) (hRm : pw_Rm h) (hRo : pw_Ro h) (i : Int) (hi0 : 0 ≤ i) (hi1 : i + 7 ≤ xs.length) (a5 a6 a7 : Option Value) (s5 : ∀ n, pm_scl n a5 = true) (s6 : ∀ n, pm_scl n a6 = true) (s7 : ∀ n, pm_scl n a7 = true) (hB : ∀ (h' : pm_H) (b5 b6 b7 : Option Value), pw_I h' → pw_K h' → pw_PR 2 131 24 h' → pw_PR 3 135 24 h' → pw_PR 4 132 24 h' → pw_PR 5 133 24 h' → pw_PR 6 134 24 h' → pw_PR 8 136 24 h' → pw_PR 9 137 24 h' → pw_PR 14 162 288 h' → pw_PR 15 163 288 h' → pw_Tn h' → pw_Lc h' → pw_Shs h' → pw_Rm h' → pw_Ro h' → h'.length ≤ h.length + 1 → pm_slt h' ≤ pm_slt h + 1000 → (∀ n, pm_scl n b5 = true) → (∀ n, pm_scl n b6 = true) → (∀ n, pm_scl n b7 = true) → pwl X K h' 2368 [some (.ref 0), some (.ref 16), some (.ref 141), some (.ref 185), some (pw_i i), b5, b6, b7] [] Q) : pwl X (K + 150) h 746 [some (.ref 0), some (.ref 16), some (.ref 141), some (.ref 185), some (pw_i i), a5, a6, a7] [] Q := by
  have E : pm_ent 309 = some (1, 8, 13, 1, pmc_309) := rfl
  refine pwl_ld E (pc' := 747) (st' := [.ref 16]) rfl (fun _ => rfl) ?_
  refine pwl_ld E (pc' := 748) (st' := [.ref 0, .ref 16]) rfl (fun _ => rfl) ?_
  refine pwl_ld E (pc' := 750) (st' := [pw_i i, .ref 0, .ref 16]) rfl (fun _ => rfl) ?_
  refine pwl_ld E (pc' := 751) (st' := [pw_i 1, pw_i i, .ref 0, .ref 16]) rfl (fun _ => rfl) ?_
  refine pwl_add E (pc' := 752) rfl rfl ?_
  refine pwl_sald E (pc' := 753) rfl hX0 hl (by omega) (by omega) rfl ?_
  have hs1 := pw_s_r xs (i + 1)
  refine pwl_ld E (pc' := 754) (st' := [.ref 0, pw_i (pw_s xs (i + 1)), .ref 16]) rfl (fun _ => rfl) ?_
  refine pwl_ld E (pc' := 756) (st' := [pw_i i, .ref 0, pw_i (pw_s xs (i + 1)), .ref 16]) rfl (fun _ => rfl) ?_
  refine pwl_ld E (pc' := 757) (st' := [pw_i 2, pw_i i, .ref 0, pw_i (pw_s xs (i + 1)), .ref 16]) rfl (fun _ => rfl) ?_
  refine pwl_add E (pc' := 758) rfl rfl ?_
  refine pwl_sald E (pc' := 759) rfl hX0 hl (by omega) (by omega) rfl ?_
  have hs2 := pw_s_r xs (i + 2)
  refine pwl_ld E (pc' := 760) (st' := [.ref 0, pw_i (pw_s xs (i + 2)), pw_i (pw_s xs (i + 1)), .ref 16]) rfl (fun _ => rfl) ?_
  refine pwl_ld E (pc' := 762) (st' := [pw_i i, .ref 0, pw_i (pw_s xs (i + 2)), pw_i (pw_s xs (i + 1)), .ref 16]) rfl (fun _ => rfl) ?_
  refine pwl_ld E (pc' := 763) (st' := [pw_i 3, pw_i i, .ref 0, pw_i (pw_s xs (i + 2)), pw_i (pw_s xs (i + 1)), .ref 16]) rfl (fun _ => rfl) ?_
  refine pwl_add E (pc' := 764) rfl rfl ?_
  refine pwl_sald E (pc' := 765) rfl hX0 hl (by omega) (by omega) rfl ?_
  have hs3 := pw_s_r xs (i + 3)
  refine pwl_ld E (pc' := 766) (st' := [.ref 185, pw_i (pw_s xs (i + 3)), pw_i (pw_s xs (i + 2)), pw_i (pw_s xs (i + 1)), .ref 16]) rfl (fun _ => rfl) ?_
  refine pwl_call (m' := 313) (As := [.ref 16, pw_i (pw_s xs (i + 1)), pw_i (pw_s xs (i + 2)), pw_i (pw_s xs (i + 3)), .ref 185]) (rest := []) (ls'' := [some (.ref 16), some (pw_i (pw_s xs (i + 1))), some (pw_i (pw_s xs (i + 2))), some (pw_i (pw_s xs (i + 3))), some (.ref 185), none]) E rfl (fun _ => pwl_iS rfl rfl rfl (pw_sc8 I s5 s6 s7) rfl) (rfl : pm_ent 313 = some (5, 6, 13, 0, pmc_313)) (by decide) rfl rfl (cm_313 (by decide) I (pw_s xs (i + 1)) (by omega) (by omega) (pw_s xs (i + 2)) (by omega) (by omega) (pw_s xs (i + 3)) (by omega) (by omega)) ?_
  rintro h5 v4 ⟨h5I, h5E, x6, rfl, hx6a, hx6b⟩
  refine ⟨_, rfl, ?_⟩
  have h5K := pw_KE I h5E hK rfl
  have h5L := h5E.1
  show pwl X _ h5 769 [some (.ref 0), some (.ref 16), some (.ref 141), some (.ref 185), some (pw_i i), a5, a6, a7] [pw_i x6] _
  have h5Tk : pw_PR 2 131 24 h5 := pw_PRE (c := 2) (c' := 131) rfl rfl I h5E hTk rfl
  have h5Ck : pw_PR 3 135 24 h5 := pw_PRE (c := 3) (c' := 135) rfl rfl I h5E hCk rfl
  have h5Bk : pw_PR 4 132 24 h5 := pw_PRE (c := 4) (c' := 132) rfl rfl I h5E hBk rfl
  have h5Wk : pw_PR 5 133 24 h5 := pw_PRE (c := 5) (c' := 133) rfl rfl I h5E hWk rfl
  have h5Mk : pw_PR 6 134 24 h5 := pw_PRE (c := 6) (c' := 134) rfl rfl I h5E hMk rfl
  have h5Fk : pw_PR 8 136 24 h5 := pw_PRE (c := 8) (c' := 136) rfl rfl I h5E hFk rfl
  have h5Rk : pw_PR 9 137 24 h5 := pw_PRE (c := 9) (c' := 137) rfl rfl I h5E hRk rfl
  have h5Hk : pw_PR 14 162 288 h5 := pw_PRE (c := 14) (c' := 162) rfl rfl I h5E hHk rfl
  have h5Gk : pw_PR 15 163 288 h5 := pw_PRE (c := 15) (c' := 163) rfl rfl I h5E hGk rfl
  have h5Tn := pw_TnE I h5E hTn rfl
  have h5Lc := pw_LcE I h5E hLc rfl
  have h5Ls := pw_ShsE I h5E hLs rfl
  have h5Rm := pw_RmE I h5E hRm rfl
  have h5Ro := pw_RoE I h5E hRo rfl
  refine pwl_ist E (pc' := 771) (ls' := [some (.ref 0), some (.ref 16), some (.ref 141), some (.ref 185), some (pw_i i), some (pw_i x6), a6, a7]) rfl rfl rfl rfl ?_
  refine pwl_ld E (pc' := 772) (st' := [.ref 141]) rfl (fun _ => rfl) ?_
  refine pwl_ld E (pc' := 773) (st' := [.ref 0, .ref 141]) rfl (fun _ => rfl) ?_
  refine pwl_ld E (pc' := 775) (st' := [pw_i i, .ref 0, .ref 141]) rfl (fun _ => rfl) ?_
  refine pwl_ld E (pc' := 776) (st' := [pw_i 1, pw_i i, .ref 0, .ref 141]) rfl (fun _ => rfl) ?_
  refine pwl_add E (pc' := 777) rfl rfl ?_
  refine pwl_sald E (pc' := 778) rfl hX0 hl (by omega) (by omega) rfl ?_
  have hs7 := pw_s_r xs (i + 1)
  refine pwl_ld E (pc' := 779) (st' := [.ref 0, pw_i (pw_s xs (i + 1)), .ref 141]) rfl (fun _ => rfl) ?_
  refine pwl_ld E (pc' := 781) (st' := [pw_i i, .ref 0, pw_i (pw_s xs (i + 1)), .ref 141]) rfl (fun _ => rfl) ?_
  refine pwl_ld E (pc' := 782) (st' := [pw_i 2, pw_i i, .ref 0, pw_i (pw_s xs (i + 1)), .ref 141]) rfl (fun _ => rfl) ?_
  refine pwl_add E (pc' := 783) rfl rfl ?_
  refine pwl_sald E (pc' := 784) rfl hX0 hl (by omega) (by omega) rfl ?_
  have hs8 := pw_s_r xs (i + 2)
  refine pwl_ld E (pc' := 785) (st' := [.ref 0, pw_i (pw_s xs (i + 2)), pw_i (pw_s xs (i + 1)), .ref 141]) rfl (fun _ => rfl) ?_
  refine pwl_ld E (pc' := 787) (st' := [pw_i i, .ref 0, pw_i (pw_s xs (i + 2)), pw_i (pw_s xs (i + 1)), .ref 141]) rfl (fun _ => rfl) ?_
  refine pwl_ld E (pc' := 788) (st' := [pw_i 3, pw_i i, .ref 0, pw_i (pw_s xs (i + 2)), pw_i (pw_s xs (i + 1)), .ref 141]) rfl (fun _ => rfl) ?_
  refine pwl_add E (pc' := 789) rfl rfl ?_
  refine pwl_sald E (pc' := 790) rfl hX0 hl (by omega) (by omega) rfl ?_
  have hs9 := pw_s_r xs (i + 3)
  obtain ⟨f10l, f10h, -⟩ := pw_obj (c := 125) h5I rfl
  refine pwl_call (m' := 225) (As := [.ref 141, pw_i (pw_s xs (i + 1)), pw_i (pw_s xs (i + 2)), pw_i (pw_s xs (i + 3))]) (rest := []) (ls'' := [some (.ref 141), some (pw_i (pw_s xs (i + 1))), some (pw_i (pw_s xs (i + 2))), some (pw_i (pw_s xs (i + 3)))]) E rfl (fun _ => pwl_iV rfl rfl rfl (pw_cellI f10h rfl)) (rfl : pm_ent 225 = some (4, 4, 12, 2, pmc_225)) (by decide) rfl rfl (cm_225 (by decide) h5I (pw_s xs (i + 1)) (by omega) (by omega) (pw_s xs (i + 2)) (by omega) (by omega) (pw_s xs (i + 3)) (by omega) (by omega)) ?_
  rintro h12 v11 ⟨h12I, h12E, w13, rfl⟩
  refine ⟨_, rfl, ?_⟩
  have h12K := pw_KE h5I h12E h5K rfl
  have h12L := h12E.1
  show pwl X _ h12 793 [some (.ref 0), some (.ref 16), some (.ref 141), some (.ref 185), some (pw_i i), some (pw_i x6), a6, a7] [.long w13] _
  have h12Tk : pw_PR 2 131 24 h12 := pw_PRE (c := 2) (c' := 131) rfl rfl h5I h12E h5Tk rfl
  have h12Ck : pw_PR 3 135 24 h12 := pw_PRE (c := 3) (c' := 135) rfl rfl h5I h12E h5Ck rfl
  have h12Bk : pw_PR 4 132 24 h12 := pw_PRE (c := 4) (c' := 132) rfl rfl h5I h12E h5Bk rfl
  have h12Wk : pw_PR 5 133 24 h12 := pw_PRE (c := 5) (c' := 133) rfl rfl h5I h12E h5Wk rfl
  have h12Mk : pw_PR 6 134 24 h12 := pw_PRE (c := 6) (c' := 134) rfl rfl h5I h12E h5Mk rfl
  have h12Fk : pw_PR 8 136 24 h12 := pw_PRE (c := 8) (c' := 136) rfl rfl h5I h12E h5Fk rfl
  have h12Rk : pw_PR 9 137 24 h12 := pw_PRE (c := 9) (c' := 137) rfl rfl h5I h12E h5Rk rfl
  have h12Hk : pw_PR 14 162 288 h12 := pw_PRE (c := 14) (c' := 162) rfl rfl h5I h12E h5Hk rfl
  have h12Gk : pw_PR 15 163 288 h12 := pw_PRE (c := 15) (c' := 163) rfl rfl h5I h12E h5Gk rfl
  have h12Tn := pw_TnE h5I h12E h5Tn rfl
  have h12Lc := pw_LcE h5I h12E h5Lc rfl
  have h12Ls := pw_ShsE h5I h12E h5Ls rfl
  have h12Rm := pw_RmE h5I h12E h5Rm rfl
  have h12Ro := pw_RoE h5I h12E h5Ro rfl
  refine pwl_lst E (pc' := 795) (ls' := [some (.ref 0), some (.ref 16), some (.ref 141), some (.ref 185), some (pw_i i), some (pw_i x6), some (.long w13), none]) rfl rfl rfl rfl ?_
  refine pwl_goto E (pc' := 2368) rfl (by decide) ?_
  exact pwl_mono (by omega) (hB h12 (some (pw_i x6)) (some (.long w13)) (none) h12I h12K h12Tk h12Ck h12Bk h12Wk h12Mk h12Fk h12Rk h12Hk h12Gk h12Tn h12Lc h12Ls h12Rm h12Ro (by omega) (by omega) (fun _ => rfl) (fun _ => rfl) (fun _ => rfl))
set_option maxHeartbeats 4000000 in
theorem lc_10 {X : List (Nat × List Value)} {xs : List Int32} {K : Nat} {h : pm_H} {Q : pm_H → (Option Value ⊕ Unit) → Prop} (hX0 : X[0]? = some (0, xs.map Value.int)) (hl : xs.length ≤ 3584) (hX : pw_Xk X) (hR : pw_Xr X) (I : pw_I h) (hK : pw_K h) (hTk : pw_PR 2 131 24 h) (hCk : pw_PR 3 135 24 h) (hBk : pw_PR 4 132 24 h) (hWk : pw_PR 5 133 24 h) (hMk : pw_PR 6 134 24 h) (hFk : pw_PR 8 136 24 h) (hRk : pw_PR 9 137 24 h) (hHk : pw_PR 14 162 288 h) (hGk : pw_PR 15 163 288 h) (hTn : pw_Tn h) (hLc : pw_Lc h) (hLs : pw_Shs h) (hRm : pw_Rm h) (hRo : pw_Ro h) (i : Int) (hi0 : 0 ≤ i) (hi1 : i + 7 ≤ xs.length) (a5 a6 a7 : Option Value) (s5 : ∀ n, pm_scl n a5 = true) (s6 : ∀ n, pm_scl n a6 = true) (s7 : ∀ n, pm_scl n a7 = true) (hB : ∀ (h' : pm_H) (b5 b6 b7 : Option Value), pw_I h' → pw_K h' → pw_PR 2 131 24 h' → pw_PR 3 135 24 h' → pw_PR 4 132 24 h' → pw_PR 5 133 24 h' → pw_PR 6 134 24 h' → pw_PR 8 136 24 h' → pw_PR 9 137 24 h' → pw_PR 14 162 288 h' → pw_PR 15 163 288 h' → pw_Tn h' → pw_Lc h' → pw_Shs h' → pw_Rm h' → pw_Ro h' → h'.length ≤ h.length + 1 → pm_slt h' ≤ pm_slt h + 1000 → (∀ n, pm_scl n b5 = true) → (∀ n, pm_scl n b6 = true) → (∀ n, pm_scl n b7 = true) → pwl X K h' 2368 [some (.ref 0), some (.ref 16), some (.ref 141), some (.ref 185), some (pw_i i), b5, b6, b7] [] Q) : pwl X (K + 150) h 798 [some (.ref 0), some (.ref 16), some (.ref 141), some (.ref 185), some (pw_i i), a5, a6, a7] [] Q := by
  have E : pm_ent 309 = some (1, 8, 13, 1, pmc_309) := rfl
  refine pwl_ld E (pc' := 799) (st' := [.ref 16]) rfl (fun _ => rfl) ?_
  refine pwl_ld E (pc' := 800) (st' := [.ref 0, .ref 16]) rfl (fun _ => rfl) ?_
  refine pwl_ld E (pc' := 802) (st' := [pw_i i, .ref 0, .ref 16]) rfl (fun _ => rfl) ?_
  refine pwl_ld E (pc' := 803) (st' := [pw_i 1, pw_i i, .ref 0, .ref 16]) rfl (fun _ => rfl) ?_
  refine pwl_add E (pc' := 804) rfl rfl ?_
  refine pwl_sald E (pc' := 805) rfl hX0 hl (by omega) (by omega) rfl ?_
  have hs1 := pw_s_r xs (i + 1)
  refine pwl_ld E (pc' := 806) (st' := [.ref 0, pw_i (pw_s xs (i + 1)), .ref 16]) rfl (fun _ => rfl) ?_
  refine pwl_ld E (pc' := 808) (st' := [pw_i i, .ref 0, pw_i (pw_s xs (i + 1)), .ref 16]) rfl (fun _ => rfl) ?_
  refine pwl_ld E (pc' := 809) (st' := [pw_i 2, pw_i i, .ref 0, pw_i (pw_s xs (i + 1)), .ref 16]) rfl (fun _ => rfl) ?_
  refine pwl_add E (pc' := 810) rfl rfl ?_
  refine pwl_sald E (pc' := 811) rfl hX0 hl (by omega) (by omega) rfl ?_
  have hs2 := pw_s_r xs (i + 2)
  obtain ⟨f3l, f3h, -⟩ := pw_obj (c := 0) I rfl
  refine pwl_call (m' := 130) (As := [.ref 16, pw_i (pw_s xs (i + 1)), pw_i (pw_s xs (i + 2))]) (rest := []) (ls'' := [some (.ref 16), some (pw_i (pw_s xs (i + 1))), some (pw_i (pw_s xs (i + 2)))]) E rfl (fun _ => pwl_iV rfl rfl rfl (pw_cellI f3h rfl)) (rfl : pm_ent 130 = some (3, 3, 11, 0, pmc_130)) (by decide) rfl rfl (cm_130 (by decide) I (pw_s xs (i + 1)) (by omega) (by omega) (pw_s xs (i + 2)) (by omega) (by omega)) ?_
  rintro h5 v4 ⟨h5I, h5E, x6, rfl, hx6a, hx6b⟩
  refine ⟨_, rfl, ?_⟩
  have h5K := pw_KE I h5E hK rfl
  have h5L := h5E.1
  show pwl X _ h5 814 [some (.ref 0), some (.ref 16), some (.ref 141), some (.ref 185), some (pw_i i), a5, a6, a7] [pw_i x6] _
  have h5Tk : pw_PR 2 131 24 h5 := pw_PRE (c := 2) (c' := 131) rfl rfl I h5E hTk rfl
  have h5Ck : pw_PR 3 135 24 h5 := pw_PRE (c := 3) (c' := 135) rfl rfl I h5E hCk rfl
  have h5Bk : pw_PR 4 132 24 h5 := pw_PRE (c := 4) (c' := 132) rfl rfl I h5E hBk rfl
  have h5Wk : pw_PR 5 133 24 h5 := pw_PRE (c := 5) (c' := 133) rfl rfl I h5E hWk rfl
  have h5Mk : pw_PR 6 134 24 h5 := pw_PRE (c := 6) (c' := 134) rfl rfl I h5E hMk rfl
  have h5Fk : pw_PR 8 136 24 h5 := pw_PRE (c := 8) (c' := 136) rfl rfl I h5E hFk rfl
  have h5Rk : pw_PR 9 137 24 h5 := pw_PRE (c := 9) (c' := 137) rfl rfl I h5E hRk rfl
  have h5Hk : pw_PR 14 162 288 h5 := pw_PRE (c := 14) (c' := 162) rfl rfl I h5E hHk rfl
  have h5Gk : pw_PR 15 163 288 h5 := pw_PRE (c := 15) (c' := 163) rfl rfl I h5E hGk rfl
  have h5Tn := pw_TnE I h5E hTn rfl
  have h5Lc := pw_LcE I h5E hLc rfl
  have h5Ls := pw_ShsE I h5E hLs rfl
  have h5Rm := pw_RmE I h5E hRm rfl
  have h5Ro := pw_RoE I h5E hRo rfl
  refine pwl_ld E (pc' := 815) (st' := []) rfl (fun _ => rfl) ?_
  refine pwl_ld E (pc' := 816) (st' := [.ref 141]) rfl (fun _ => rfl) ?_
  refine pwl_ld E (pc' := 817) (st' := [.ref 0, .ref 141]) rfl (fun _ => rfl) ?_
  refine pwl_ld E (pc' := 819) (st' := [pw_i i, .ref 0, .ref 141]) rfl (fun _ => rfl) ?_
  refine pwl_ld E (pc' := 820) (st' := [pw_i 1, pw_i i, .ref 0, .ref 141]) rfl (fun _ => rfl) ?_
  refine pwl_add E (pc' := 821) rfl rfl ?_
  refine pwl_sald E (pc' := 822) rfl hX0 hl (by omega) (by omega) rfl ?_
  have hs7 := pw_s_r xs (i + 1)
  refine pwl_ld E (pc' := 823) (st' := [.ref 0, pw_i (pw_s xs (i + 1)), .ref 141]) rfl (fun _ => rfl) ?_
  refine pwl_ld E (pc' := 825) (st' := [pw_i i, .ref 0, pw_i (pw_s xs (i + 1)), .ref 141]) rfl (fun _ => rfl) ?_
  refine pwl_ld E (pc' := 826) (st' := [pw_i 2, pw_i i, .ref 0, pw_i (pw_s xs (i + 1)), .ref 141]) rfl (fun _ => rfl) ?_
  refine pwl_add E (pc' := 827) rfl rfl ?_
  refine pwl_sald E (pc' := 828) rfl hX0 hl (by omega) (by omega) rfl ?_
  have hs8 := pw_s_r xs (i + 2)
  obtain ⟨f9l, f9h, -⟩ := pw_obj (c := 125) h5I rfl
  refine pwl_call (m' := 228) (As := [.ref 141, pw_i (pw_s xs (i + 1)), pw_i (pw_s xs (i + 2))]) (rest := []) (ls'' := [some (.ref 141), some (pw_i (pw_s xs (i + 1))), some (pw_i (pw_s xs (i + 2))), none]) E rfl (fun _ => pwl_iV rfl rfl rfl (pw_cellI f9h rfl)) (rfl : pm_ent 228 = some (3, 4, 12, 0, pmc_228)) (by decide) rfl rfl (cm_228 (by decide) h5I (pw_s xs (i + 1)) (by omega) (by omega) (pw_s xs (i + 2)) (by omega) (by omega)) ?_
  rintro h11 v10 ⟨h11I, h11E, x12, rfl, hx12a, hx12b⟩
  refine ⟨_, rfl, ?_⟩
  have h11K := pw_KE h5I h11E h5K rfl
  have h11L := h11E.1
  show pwl X _ h11 831 [some (.ref 0), some (.ref 16), some (.ref 141), some (.ref 185), some (pw_i i), a5, a6, a7] [pw_i x12] _
  have h11Tk : pw_PR 2 131 24 h11 := pw_PRE (c := 2) (c' := 131) rfl rfl h5I h11E h5Tk rfl
  have h11Ck : pw_PR 3 135 24 h11 := pw_PRE (c := 3) (c' := 135) rfl rfl h5I h11E h5Ck rfl
  have h11Bk : pw_PR 4 132 24 h11 := pw_PRE (c := 4) (c' := 132) rfl rfl h5I h11E h5Bk rfl
  have h11Wk : pw_PR 5 133 24 h11 := pw_PRE (c := 5) (c' := 133) rfl rfl h5I h11E h5Wk rfl
  have h11Mk : pw_PR 6 134 24 h11 := pw_PRE (c := 6) (c' := 134) rfl rfl h5I h11E h5Mk rfl
  have h11Fk : pw_PR 8 136 24 h11 := pw_PRE (c := 8) (c' := 136) rfl rfl h5I h11E h5Fk rfl
  have h11Rk : pw_PR 9 137 24 h11 := pw_PRE (c := 9) (c' := 137) rfl rfl h5I h11E h5Rk rfl
  have h11Hk : pw_PR 14 162 288 h11 := pw_PRE (c := 14) (c' := 162) rfl rfl h5I h11E h5Hk rfl
  have h11Gk : pw_PR 15 163 288 h11 := pw_PRE (c := 15) (c' := 163) rfl rfl h5I h11E h5Gk rfl
  have h11Tn := pw_TnE h5I h11E h5Tn rfl
  have h11Lc := pw_LcE h5I h11E h5Lc rfl
  have h11Ls := pw_ShsE h5I h11E h5Ls rfl
  have h11Rm := pw_RmE h5I h11E h5Rm rfl
  have h11Ro := pw_RoE h5I h11E h5Ro rfl
  refine pwl_ld E (pc' := 832) (st' := []) rfl (fun _ => rfl) ?_
  refine pwl_goto E (pc' := 2368) rfl (by decide) ?_
  exact pwl_mono (by omega) (hB h11 (a5) (a6) (a7) h11I h11K h11Tk h11Ck h11Bk h11Wk h11Mk h11Fk h11Rk h11Hk h11Gk h11Tn h11Lc h11Ls h11Rm h11Ro (by omega) (by omega) s5 s6 s7)
set_option maxHeartbeats 4000000 in
theorem lc_11 {X : List (Nat × List Value)} {xs : List Int32} {K : Nat} {h : pm_H} {Q : pm_H → (Option Value ⊕ Unit) → Prop} (hX0 : X[0]? = some (0, xs.map Value.int)) (hl : xs.length ≤ 3584) (hX : pw_Xk X) (hR : pw_Xr X) (I : pw_I h) (hK : pw_K h) (hTk : pw_PR 2 131 24 h) (hCk : pw_PR 3 135 24 h) (hBk : pw_PR 4 132 24 h) (hWk : pw_PR 5 133 24 h) (hMk : pw_PR 6 134 24 h) (hFk : pw_PR 8 136 24 h) (hRk : pw_PR 9 137 24 h) (hHk : pw_PR 14 162 288 h) (hGk : pw_PR 15 163 288 h) (hTn : pw_Tn h) (hLc : pw_Lc h) (hLs : pw_Shs h) (hRm : pw_Rm h) (hRo : pw_Ro h) (i : Int) (hi0 : 0 ≤ i) (hi1 : i + 7 ≤ xs.length) (a5 a6 a7 : Option Value) (s5 : ∀ n, pm_scl n a5 = true) (s6 : ∀ n, pm_scl n a6 = true) (s7 : ∀ n, pm_scl n a7 = true) (hB : ∀ (h' : pm_H) (b5 b6 b7 : Option Value), pw_I h' → pw_K h' → pw_PR 2 131 24 h' → pw_PR 3 135 24 h' → pw_PR 4 132 24 h' → pw_PR 5 133 24 h' → pw_PR 6 134 24 h' → pw_PR 8 136 24 h' → pw_PR 9 137 24 h' → pw_PR 14 162 288 h' → pw_PR 15 163 288 h' → pw_Tn h' → pw_Lc h' → pw_Shs h' → pw_Rm h' → pw_Ro h' → h'.length ≤ h.length + 1 → pm_slt h' ≤ pm_slt h + 1000 → (∀ n, pm_scl n b5 = true) → (∀ n, pm_scl n b6 = true) → (∀ n, pm_scl n b7 = true) → pwl X K h' 2368 [some (.ref 0), some (.ref 16), some (.ref 141), some (.ref 185), some (pw_i i), b5, b6, b7] [] Q) : pwl X (K + 150) h 835 [some (.ref 0), some (.ref 16), some (.ref 141), some (.ref 185), some (pw_i i), a5, a6, a7] [] Q := by
  have E : pm_ent 309 = some (1, 8, 13, 1, pmc_309) := rfl
  refine pwl_ld E (pc' := 836) (st' := [.ref 16]) rfl (fun _ => rfl) ?_
  refine pwl_ld E (pc' := 837) (st' := [.ref 0, .ref 16]) rfl (fun _ => rfl) ?_
  refine pwl_ld E (pc' := 839) (st' := [pw_i i, .ref 0, .ref 16]) rfl (fun _ => rfl) ?_
  refine pwl_ld E (pc' := 840) (st' := [pw_i 1, pw_i i, .ref 0, .ref 16]) rfl (fun _ => rfl) ?_
  refine pwl_add E (pc' := 841) rfl rfl ?_
  refine pwl_sald E (pc' := 842) rfl hX0 hl (by omega) (by omega) rfl ?_
  have hs1 := pw_s_r xs (i + 1)
  refine pwl_ld E (pc' := 843) (st' := [.ref 0, pw_i (pw_s xs (i + 1)), .ref 16]) rfl (fun _ => rfl) ?_
  refine pwl_ld E (pc' := 845) (st' := [pw_i i, .ref 0, pw_i (pw_s xs (i + 1)), .ref 16]) rfl (fun _ => rfl) ?_
  refine pwl_ld E (pc' := 846) (st' := [pw_i 2, pw_i i, .ref 0, pw_i (pw_s xs (i + 1)), .ref 16]) rfl (fun _ => rfl) ?_
  refine pwl_add E (pc' := 847) rfl rfl ?_
  refine pwl_sald E (pc' := 848) rfl hX0 hl (by omega) (by omega) rfl ?_
  have hs2 := pw_s_r xs (i + 2)
  obtain ⟨f3l, f3h, -⟩ := pw_obj (c := 0) I rfl
  refine pwl_call (m' := 134) (As := [.ref 16, pw_i (pw_s xs (i + 1)), pw_i (pw_s xs (i + 2))]) (rest := []) (ls'' := [some (.ref 16), some (pw_i (pw_s xs (i + 1))), some (pw_i (pw_s xs (i + 2))), none, none, none, none, none, none, none, none, none, none]) E rfl (fun _ => pwl_iV rfl rfl rfl (pw_cellI f3h rfl)) (rfl : pm_ent 134 = some (3, 13, 11, 0, pmc_134)) (by decide) rfl rfl (cm_134 (by decide) I (pw_s xs (i + 1)) (by omega) (by omega) (pw_s xs (i + 2)) (by omega) (by omega)) ?_
  rintro h5 v4 ⟨rfl, x6, rfl, hx6a, hx6b⟩
  refine ⟨_, rfl, ?_⟩
  show pwl X _ h 851 [some (.ref 0), some (.ref 16), some (.ref 141), some (.ref 185), some (pw_i i), a5, a6, a7] [pw_i x6] _
  refine pwl_ld E (pc' := 852) (st' := []) rfl (fun _ => rfl) ?_
  refine pwl_ld E (pc' := 853) (st' := [.ref 141]) rfl (fun _ => rfl) ?_
  refine pwl_ld E (pc' := 854) (st' := [.ref 0, .ref 141]) rfl (fun _ => rfl) ?_
  refine pwl_ld E (pc' := 856) (st' := [pw_i i, .ref 0, .ref 141]) rfl (fun _ => rfl) ?_
  refine pwl_ld E (pc' := 857) (st' := [pw_i 1, pw_i i, .ref 0, .ref 141]) rfl (fun _ => rfl) ?_
  refine pwl_add E (pc' := 858) rfl rfl ?_
  refine pwl_sald E (pc' := 859) rfl hX0 hl (by omega) (by omega) rfl ?_
  have hs7 := pw_s_r xs (i + 1)
  refine pwl_ld E (pc' := 860) (st' := [.ref 0, pw_i (pw_s xs (i + 1)), .ref 141]) rfl (fun _ => rfl) ?_
  refine pwl_ld E (pc' := 862) (st' := [pw_i i, .ref 0, pw_i (pw_s xs (i + 1)), .ref 141]) rfl (fun _ => rfl) ?_
  refine pwl_ld E (pc' := 863) (st' := [pw_i 2, pw_i i, .ref 0, pw_i (pw_s xs (i + 1)), .ref 141]) rfl (fun _ => rfl) ?_
  refine pwl_add E (pc' := 864) rfl rfl ?_
  refine pwl_sald E (pc' := 865) rfl hX0 hl (by omega) (by omega) rfl ?_
  have hs8 := pw_s_r xs (i + 2)
  obtain ⟨f9l, f9h, -⟩ := pw_obj (c := 125) I rfl
  refine pwl_call (m' := 229) (As := [.ref 141, pw_i (pw_s xs (i + 1)), pw_i (pw_s xs (i + 2))]) (rest := []) (ls'' := [some (.ref 141), some (pw_i (pw_s xs (i + 1))), some (pw_i (pw_s xs (i + 2))), none, none, none, none, none, none, none, none, none, none, none]) E rfl (fun _ => pwl_iV rfl rfl rfl (pw_cellI f9h rfl)) (rfl : pm_ent 229 = some (3, 14, 12, 0, pmc_229)) (by decide) rfl rfl (cm_229 (by decide) I (pw_s xs (i + 1)) (by omega) (by omega) (pw_s xs (i + 2)) (by omega) (by omega)) ?_
  rintro h11 v10 ⟨h11I, h11E, x12, rfl, hx12a, hx12b⟩
  refine ⟨_, rfl, ?_⟩
  have h11K := pw_KE I h11E hK rfl
  have h11L := h11E.1
  show pwl X _ h11 868 [some (.ref 0), some (.ref 16), some (.ref 141), some (.ref 185), some (pw_i i), a5, a6, a7] [pw_i x12] _
  have h11Tk : pw_PR 2 131 24 h11 := pw_PRE (c := 2) (c' := 131) rfl rfl I h11E hTk rfl
  have h11Ck : pw_PR 3 135 24 h11 := pw_PRE (c := 3) (c' := 135) rfl rfl I h11E hCk rfl
  have h11Bk : pw_PR 4 132 24 h11 := pw_PRE (c := 4) (c' := 132) rfl rfl I h11E hBk rfl
  have h11Wk : pw_PR 5 133 24 h11 := pw_PRE (c := 5) (c' := 133) rfl rfl I h11E hWk rfl
  have h11Mk : pw_PR 6 134 24 h11 := pw_PRE (c := 6) (c' := 134) rfl rfl I h11E hMk rfl
  have h11Fk : pw_PR 8 136 24 h11 := pw_PRE (c := 8) (c' := 136) rfl rfl I h11E hFk rfl
  have h11Rk : pw_PR 9 137 24 h11 := pw_PRE (c := 9) (c' := 137) rfl rfl I h11E hRk rfl
  have h11Hk : pw_PR 14 162 288 h11 := pw_PRE (c := 14) (c' := 162) rfl rfl I h11E hHk rfl
  have h11Gk : pw_PR 15 163 288 h11 := pw_PRE (c := 15) (c' := 163) rfl rfl I h11E hGk rfl
  have h11Tn := pw_TnE I h11E hTn rfl
  have h11Lc := pw_LcE I h11E hLc rfl
  have h11Ls := pw_ShsE I h11E hLs rfl
  have h11Rm := pw_RmE I h11E hRm rfl
  have h11Ro := pw_RoE I h11E hRo rfl
  refine pwl_ld E (pc' := 869) (st' := []) rfl (fun _ => rfl) ?_
  refine pwl_goto E (pc' := 2368) rfl (by decide) ?_
  exact pwl_mono (by omega) (hB h11 (a5) (a6) (a7) h11I h11K h11Tk h11Ck h11Bk h11Wk h11Mk h11Fk h11Rk h11Hk h11Gk h11Tn h11Lc h11Ls h11Rm h11Ro (by omega) (by omega) s5 s6 s7)
set_option maxHeartbeats 4000000 in
theorem lc_12 {X : List (Nat × List Value)} {xs : List Int32} {K : Nat} {h : pm_H} {Q : pm_H → (Option Value ⊕ Unit) → Prop} (hX0 : X[0]? = some (0, xs.map Value.int)) (hl : xs.length ≤ 3584) (hX : pw_Xk X) (hR : pw_Xr X) (I : pw_I h) (hK : pw_K h) (hTk : pw_PR 2 131 24 h) (hCk : pw_PR 3 135 24 h) (hBk : pw_PR 4 132 24 h) (hWk : pw_PR 5 133 24 h) (hMk : pw_PR 6 134 24 h) (hFk : pw_PR 8 136 24 h) (hRk : pw_PR 9 137 24 h) (hHk : pw_PR 14 162 288 h) (hGk : pw_PR 15 163 288 h) (hTn : pw_Tn h) (hLc : pw_Lc h) (hLs : pw_Shs h) (hRm : pw_Rm h) (hRo : pw_Ro h) (i : Int) (hi0 : 0 ≤ i) (hi1 : i + 7 ≤ xs.length) (a5 a6 a7 : Option Value) (s5 : ∀ n, pm_scl n a5 = true) (s6 : ∀ n, pm_scl n a6 = true) (s7 : ∀ n, pm_scl n a7 = true) (hB : ∀ (h' : pm_H) (b5 b6 b7 : Option Value), pw_I h' → pw_K h' → pw_PR 2 131 24 h' → pw_PR 3 135 24 h' → pw_PR 4 132 24 h' → pw_PR 5 133 24 h' → pw_PR 6 134 24 h' → pw_PR 8 136 24 h' → pw_PR 9 137 24 h' → pw_PR 14 162 288 h' → pw_PR 15 163 288 h' → pw_Tn h' → pw_Lc h' → pw_Shs h' → pw_Rm h' → pw_Ro h' → h'.length ≤ h.length + 1 → pm_slt h' ≤ pm_slt h + 1000 → (∀ n, pm_scl n b5 = true) → (∀ n, pm_scl n b6 = true) → (∀ n, pm_scl n b7 = true) → pwl X K h' 2368 [some (.ref 0), some (.ref 16), some (.ref 141), some (.ref 185), some (pw_i i), b5, b6, b7] [] Q) : pwl X (K + 150) h 872 [some (.ref 0), some (.ref 16), some (.ref 141), some (.ref 185), some (pw_i i), a5, a6, a7] [] Q := by
  have E : pm_ent 309 = some (1, 8, 13, 1, pmc_309) := rfl
  refine pwl_ld E (pc' := 873) (st' := [.ref 16]) rfl (fun _ => rfl) ?_
  refine pwl_ld E (pc' := 874) (st' := [.ref 0, .ref 16]) rfl (fun _ => rfl) ?_
  refine pwl_ld E (pc' := 876) (st' := [pw_i i, .ref 0, .ref 16]) rfl (fun _ => rfl) ?_
  refine pwl_ld E (pc' := 877) (st' := [pw_i 1, pw_i i, .ref 0, .ref 16]) rfl (fun _ => rfl) ?_
  refine pwl_add E (pc' := 878) rfl rfl ?_
  refine pwl_sald E (pc' := 879) rfl hX0 hl (by omega) (by omega) rfl ?_
  have hs1 := pw_s_r xs (i + 1)
  refine pwl_ld E (pc' := 880) (st' := [.ref 0, pw_i (pw_s xs (i + 1)), .ref 16]) rfl (fun _ => rfl) ?_
  refine pwl_ld E (pc' := 882) (st' := [pw_i i, .ref 0, pw_i (pw_s xs (i + 1)), .ref 16]) rfl (fun _ => rfl) ?_
  refine pwl_ld E (pc' := 883) (st' := [pw_i 2, pw_i i, .ref 0, pw_i (pw_s xs (i + 1)), .ref 16]) rfl (fun _ => rfl) ?_
  refine pwl_add E (pc' := 884) rfl rfl ?_
  refine pwl_sald E (pc' := 885) rfl hX0 hl (by omega) (by omega) rfl ?_
  have hs2 := pw_s_r xs (i + 2)
  refine pwl_ld E (pc' := 886) (st' := [.ref 0, pw_i (pw_s xs (i + 2)), pw_i (pw_s xs (i + 1)), .ref 16]) rfl (fun _ => rfl) ?_
  refine pwl_ld E (pc' := 888) (st' := [pw_i i, .ref 0, pw_i (pw_s xs (i + 2)), pw_i (pw_s xs (i + 1)), .ref 16]) rfl (fun _ => rfl) ?_
  refine pwl_ld E (pc' := 889) (st' := [pw_i 3, pw_i i, .ref 0, pw_i (pw_s xs (i + 2)), pw_i (pw_s xs (i + 1)), .ref 16]) rfl (fun _ => rfl) ?_
  refine pwl_add E (pc' := 890) rfl rfl ?_
  refine pwl_sald E (pc' := 891) rfl hX0 hl (by omega) (by omega) rfl ?_
  have hs3 := pw_s_r xs (i + 3)
  refine pwl_if E (pc' := 898) rfl (by decide) (by omega) (by omega) ?_ ?_
  · intro hc4
    have hc4 : pw_s xs (i + 3) = (0 : Int) := hc4
    refine pwl_ld E (pc' := 899) (st' := [pw_i 0, pw_i (pw_s xs (i + 2)), pw_i (pw_s xs (i + 1)), .ref 16]) rfl (fun _ => rfl) ?_
    refine pwl_ld E (pc' := 900) (st' := [.ref 0, pw_i 0, pw_i (pw_s xs (i + 2)), pw_i (pw_s xs (i + 1)), .ref 16]) rfl (fun _ => rfl) ?_
    refine pwl_ld E (pc' := 902) (st' := [pw_i i, .ref 0, pw_i 0, pw_i (pw_s xs (i + 2)), pw_i (pw_s xs (i + 1)), .ref 16]) rfl (fun _ => rfl) ?_
    refine pwl_ld E (pc' := 903) (st' := [pw_i 4, pw_i i, .ref 0, pw_i 0, pw_i (pw_s xs (i + 2)), pw_i (pw_s xs (i + 1)), .ref 16]) rfl (fun _ => rfl) ?_
    refine pwl_add E (pc' := 904) rfl rfl ?_
    refine pwl_sald E (pc' := 905) rfl hX0 hl (by omega) (by omega) rfl ?_
    have hs5 := pw_s_r xs (i + 4)
    refine pwl_ld E (pc' := 906) (st' := [.ref 185, pw_i (pw_s xs (i + 4)), pw_i 0, pw_i (pw_s xs (i + 2)), pw_i (pw_s xs (i + 1)), .ref 16]) rfl (fun _ => rfl) ?_
    refine pwl_call (m' := 314) (As := [.ref 16, pw_i (pw_s xs (i + 1)), pw_i (pw_s xs (i + 2)), pw_i 0, pw_i (pw_s xs (i + 4)), .ref 185]) (rest := []) (ls'' := [some (.ref 16), some (pw_i (pw_s xs (i + 1))), some (pw_i (pw_s xs (i + 2))), some (pw_i 0), some (pw_i (pw_s xs (i + 4))), some (.ref 185), none]) E rfl (fun _ => pwl_iS rfl rfl rfl (pw_sc8 I s5 s6 s7) rfl) (rfl : pm_ent 314 = some (6, 7, 13, 0, pmc_314)) (by decide) rfl rfl (cm_314 (by decide) I (pw_s xs (i + 1)) (by omega) (by omega) (pw_s xs (i + 2)) (by omega) (by omega) 0 (by decide) (by decide) (pw_s xs (i + 4)) (by omega) (by omega)) ?_
    rintro h7 v6 ⟨h7I, h7E, x8, rfl, hx8a, hx8b⟩
    refine ⟨_, rfl, ?_⟩
    have h7K := pw_KE I h7E hK rfl
    have h7L := h7E.1
    show pwl X _ h7 909 [some (.ref 0), some (.ref 16), some (.ref 141), some (.ref 185), some (pw_i i), a5, a6, a7] [pw_i x8] _
    have h7Tk : pw_PR 2 131 24 h7 := pw_PRE (c := 2) (c' := 131) rfl rfl I h7E hTk rfl
    have h7Ck : pw_PR 3 135 24 h7 := pw_PRE (c := 3) (c' := 135) rfl rfl I h7E hCk rfl
    have h7Bk : pw_PR 4 132 24 h7 := pw_PRE (c := 4) (c' := 132) rfl rfl I h7E hBk rfl
    have h7Wk : pw_PR 5 133 24 h7 := pw_PRE (c := 5) (c' := 133) rfl rfl I h7E hWk rfl
    have h7Mk : pw_PR 6 134 24 h7 := pw_PRE (c := 6) (c' := 134) rfl rfl I h7E hMk rfl
    have h7Fk : pw_PR 8 136 24 h7 := pw_PRE (c := 8) (c' := 136) rfl rfl I h7E hFk rfl
    have h7Rk : pw_PR 9 137 24 h7 := pw_PRE (c := 9) (c' := 137) rfl rfl I h7E hRk rfl
    have h7Hk : pw_PR 14 162 288 h7 := pw_PRE (c := 14) (c' := 162) rfl rfl I h7E hHk rfl
    have h7Gk : pw_PR 15 163 288 h7 := pw_PRE (c := 15) (c' := 163) rfl rfl I h7E hGk rfl
    have h7Tn := pw_TnE I h7E hTn rfl
    have h7Lc := pw_LcE I h7E hLc rfl
    have h7Ls := pw_ShsE I h7E hLs rfl
    have h7Rm := pw_RmE I h7E hRm rfl
    have h7Ro := pw_RoE I h7E hRo rfl
    refine pwl_ist E (pc' := 911) (ls' := [some (.ref 0), some (.ref 16), some (.ref 141), some (.ref 185), some (pw_i i), some (pw_i x8), a6, a7]) rfl rfl rfl rfl ?_
    refine pwl_ld E (pc' := 912) (st' := [.ref 141]) rfl (fun _ => rfl) ?_
    refine pwl_ld E (pc' := 913) (st' := [.ref 0, .ref 141]) rfl (fun _ => rfl) ?_
    refine pwl_ld E (pc' := 915) (st' := [pw_i i, .ref 0, .ref 141]) rfl (fun _ => rfl) ?_
    refine pwl_ld E (pc' := 916) (st' := [pw_i 1, pw_i i, .ref 0, .ref 141]) rfl (fun _ => rfl) ?_
    refine pwl_add E (pc' := 917) rfl rfl ?_
    refine pwl_sald E (pc' := 918) rfl hX0 hl (by omega) (by omega) rfl ?_
    have hs9 := pw_s_r xs (i + 1)
    refine pwl_ld E (pc' := 919) (st' := [.ref 0, pw_i (pw_s xs (i + 1)), .ref 141]) rfl (fun _ => rfl) ?_
    refine pwl_ld E (pc' := 921) (st' := [pw_i i, .ref 0, pw_i (pw_s xs (i + 1)), .ref 141]) rfl (fun _ => rfl) ?_
    refine pwl_ld E (pc' := 922) (st' := [pw_i 2, pw_i i, .ref 0, pw_i (pw_s xs (i + 1)), .ref 141]) rfl (fun _ => rfl) ?_
    refine pwl_add E (pc' := 923) rfl rfl ?_
    refine pwl_sald E (pc' := 924) rfl hX0 hl (by omega) (by omega) rfl ?_
    have hs10 := pw_s_r xs (i + 2)
    refine pwl_ld E (pc' := 925) (st' := [.ref 0, pw_i (pw_s xs (i + 2)), pw_i (pw_s xs (i + 1)), .ref 141]) rfl (fun _ => rfl) ?_
    refine pwl_ld E (pc' := 927) (st' := [pw_i i, .ref 0, pw_i (pw_s xs (i + 2)), pw_i (pw_s xs (i + 1)), .ref 141]) rfl (fun _ => rfl) ?_
    refine pwl_ld E (pc' := 928) (st' := [pw_i 3, pw_i i, .ref 0, pw_i (pw_s xs (i + 2)), pw_i (pw_s xs (i + 1)), .ref 141]) rfl (fun _ => rfl) ?_
    refine pwl_add E (pc' := 929) rfl rfl ?_
    refine pwl_sald E (pc' := 930) rfl hX0 hl (by omega) (by omega) rfl ?_
    have hs11 := pw_s_r xs (i + 3)
    refine pwl_if E (pc' := 937) rfl (by decide) (by omega) (by omega) ?_ ?_
    · intro hc12
      have hc12 : pw_s xs (i + 3) = (0 : Int) := hc12
      refine pwl_ld E (pc' := 938) (st' := [pw_i 0, pw_i (pw_s xs (i + 2)), pw_i (pw_s xs (i + 1)), .ref 141]) rfl (fun _ => rfl) ?_
      refine pwl_ld E (pc' := 939) (st' := [.ref 0, pw_i 0, pw_i (pw_s xs (i + 2)), pw_i (pw_s xs (i + 1)), .ref 141]) rfl (fun _ => rfl) ?_
      refine pwl_ld E (pc' := 941) (st' := [pw_i i, .ref 0, pw_i 0, pw_i (pw_s xs (i + 2)), pw_i (pw_s xs (i + 1)), .ref 141]) rfl (fun _ => rfl) ?_
      refine pwl_ld E (pc' := 942) (st' := [pw_i 4, pw_i i, .ref 0, pw_i 0, pw_i (pw_s xs (i + 2)), pw_i (pw_s xs (i + 1)), .ref 141]) rfl (fun _ => rfl) ?_
      refine pwl_add E (pc' := 943) rfl rfl ?_
      refine pwl_sald E (pc' := 944) rfl hX0 hl (by omega) (by omega) rfl ?_
      have hs13 := pw_s_r xs (i + 4)
      obtain ⟨f14l, f14h, -⟩ := pw_obj (c := 125) h7I rfl
      refine pwl_call (m' := 230) (As := [.ref 141, pw_i (pw_s xs (i + 1)), pw_i (pw_s xs (i + 2)), pw_i 0, pw_i (pw_s xs (i + 4))]) (rest := []) (ls'' := [some (.ref 141), some (pw_i (pw_s xs (i + 1))), some (pw_i (pw_s xs (i + 2))), some (pw_i 0), some (pw_i (pw_s xs (i + 4))), none, none, none]) E rfl (fun _ => pwl_iV rfl rfl rfl (pw_cellI f14h rfl)) (rfl : pm_ent 230 = some (5, 8, 12, 2, pmc_230)) (by decide) rfl rfl (cm_230 (by decide) h7I (pw_s xs (i + 1)) (by omega) (by omega) (pw_s xs (i + 2)) (by omega) (by omega) 0 (by decide) (by decide) (pw_s xs (i + 4)) (by omega) (by omega)) ?_
      rintro h16 v15 ⟨h16I, h16E, w17, rfl⟩
      refine ⟨_, rfl, ?_⟩
      have h16K := pw_KE h7I h16E h7K rfl
      have h16L := h16E.1
      show pwl X _ h16 947 [some (.ref 0), some (.ref 16), some (.ref 141), some (.ref 185), some (pw_i i), some (pw_i x8), a6, a7] [.long w17] _
      have h16Tk : pw_PR 2 131 24 h16 := pw_PRE (c := 2) (c' := 131) rfl rfl h7I h16E h7Tk rfl
      have h16Ck : pw_PR 3 135 24 h16 := pw_PRE (c := 3) (c' := 135) rfl rfl h7I h16E h7Ck rfl
      have h16Bk : pw_PR 4 132 24 h16 := pw_PRE (c := 4) (c' := 132) rfl rfl h7I h16E h7Bk rfl
      have h16Wk : pw_PR 5 133 24 h16 := pw_PRE (c := 5) (c' := 133) rfl rfl h7I h16E h7Wk rfl
      have h16Mk : pw_PR 6 134 24 h16 := pw_PRE (c := 6) (c' := 134) rfl rfl h7I h16E h7Mk rfl
      have h16Fk : pw_PR 8 136 24 h16 := pw_PRE (c := 8) (c' := 136) rfl rfl h7I h16E h7Fk rfl
      have h16Rk : pw_PR 9 137 24 h16 := pw_PRE (c := 9) (c' := 137) rfl rfl h7I h16E h7Rk rfl
      have h16Hk : pw_PR 14 162 288 h16 := pw_PRE (c := 14) (c' := 162) rfl rfl h7I h16E h7Hk rfl
      have h16Gk : pw_PR 15 163 288 h16 := pw_PRE (c := 15) (c' := 163) rfl rfl h7I h16E h7Gk rfl
      have h16Tn := pw_TnE h7I h16E h7Tn rfl
      have h16Lc := pw_LcE h7I h16E h7Lc rfl
      have h16Ls := pw_ShsE h7I h16E h7Ls rfl
      have h16Rm := pw_RmE h7I h16E h7Rm rfl
      have h16Ro := pw_RoE h7I h16E h7Ro rfl
      refine pwl_lst E (pc' := 949) (ls' := [some (.ref 0), some (.ref 16), some (.ref 141), some (.ref 185), some (pw_i i), some (pw_i x8), some (.long w17), none]) rfl rfl rfl rfl ?_
      refine pwl_goto E (pc' := 2368) rfl (by decide) ?_
      exact pwl_mono (by omega) (hB h16 (some (pw_i x8)) (some (.long w17)) (none) h16I h16K h16Tk h16Ck h16Bk h16Wk h16Mk h16Fk h16Rk h16Hk h16Gk h16Tn h16Lc h16Ls h16Rm h16Ro (by omega) (by omega) (fun _ => rfl) (fun _ => rfl) (fun _ => rfl))
    · intro hc18
      have hc18 : ¬ (pw_s xs (i + 3) = (0 : Int)) := hc18
      exfalso; omega
  · intro hc19
    have hc19 : ¬ (pw_s xs (i + 3) = (0 : Int)) := hc19
    refine pwl_ld E (pc' := 895) (st' := [pw_i 1, pw_i (pw_s xs (i + 2)), pw_i (pw_s xs (i + 1)), .ref 16]) rfl (fun _ => rfl) ?_
    refine pwl_goto E (pc' := 899) rfl (by decide) ?_
    refine pwl_ld E (pc' := 900) (st' := [.ref 0, pw_i 1, pw_i (pw_s xs (i + 2)), pw_i (pw_s xs (i + 1)), .ref 16]) rfl (fun _ => rfl) ?_
    refine pwl_ld E (pc' := 902) (st' := [pw_i i, .ref 0, pw_i 1, pw_i (pw_s xs (i + 2)), pw_i (pw_s xs (i + 1)), .ref 16]) rfl (fun _ => rfl) ?_
    refine pwl_ld E (pc' := 903) (st' := [pw_i 4, pw_i i, .ref 0, pw_i 1, pw_i (pw_s xs (i + 2)), pw_i (pw_s xs (i + 1)), .ref 16]) rfl (fun _ => rfl) ?_
    refine pwl_add E (pc' := 904) rfl rfl ?_
    refine pwl_sald E (pc' := 905) rfl hX0 hl (by omega) (by omega) rfl ?_
    have hs20 := pw_s_r xs (i + 4)
    refine pwl_ld E (pc' := 906) (st' := [.ref 185, pw_i (pw_s xs (i + 4)), pw_i 1, pw_i (pw_s xs (i + 2)), pw_i (pw_s xs (i + 1)), .ref 16]) rfl (fun _ => rfl) ?_
    refine pwl_call (m' := 314) (As := [.ref 16, pw_i (pw_s xs (i + 1)), pw_i (pw_s xs (i + 2)), pw_i 1, pw_i (pw_s xs (i + 4)), .ref 185]) (rest := []) (ls'' := [some (.ref 16), some (pw_i (pw_s xs (i + 1))), some (pw_i (pw_s xs (i + 2))), some (pw_i 1), some (pw_i (pw_s xs (i + 4))), some (.ref 185), none]) E rfl (fun _ => pwl_iS rfl rfl rfl (pw_sc8 I s5 s6 s7) rfl) (rfl : pm_ent 314 = some (6, 7, 13, 0, pmc_314)) (by decide) rfl rfl (cm_314 (by decide) I (pw_s xs (i + 1)) (by omega) (by omega) (pw_s xs (i + 2)) (by omega) (by omega) 1 (by decide) (by decide) (pw_s xs (i + 4)) (by omega) (by omega)) ?_
    rintro h22 v21 ⟨h22I, h22E, x23, rfl, hx23a, hx23b⟩
    refine ⟨_, rfl, ?_⟩
    have h22K := pw_KE I h22E hK rfl
    have h22L := h22E.1
    show pwl X _ h22 909 [some (.ref 0), some (.ref 16), some (.ref 141), some (.ref 185), some (pw_i i), a5, a6, a7] [pw_i x23] _
    have h22Tk : pw_PR 2 131 24 h22 := pw_PRE (c := 2) (c' := 131) rfl rfl I h22E hTk rfl
    have h22Ck : pw_PR 3 135 24 h22 := pw_PRE (c := 3) (c' := 135) rfl rfl I h22E hCk rfl
    have h22Bk : pw_PR 4 132 24 h22 := pw_PRE (c := 4) (c' := 132) rfl rfl I h22E hBk rfl
    have h22Wk : pw_PR 5 133 24 h22 := pw_PRE (c := 5) (c' := 133) rfl rfl I h22E hWk rfl
    have h22Mk : pw_PR 6 134 24 h22 := pw_PRE (c := 6) (c' := 134) rfl rfl I h22E hMk rfl
    have h22Fk : pw_PR 8 136 24 h22 := pw_PRE (c := 8) (c' := 136) rfl rfl I h22E hFk rfl
    have h22Rk : pw_PR 9 137 24 h22 := pw_PRE (c := 9) (c' := 137) rfl rfl I h22E hRk rfl
    have h22Hk : pw_PR 14 162 288 h22 := pw_PRE (c := 14) (c' := 162) rfl rfl I h22E hHk rfl
    have h22Gk : pw_PR 15 163 288 h22 := pw_PRE (c := 15) (c' := 163) rfl rfl I h22E hGk rfl
    have h22Tn := pw_TnE I h22E hTn rfl
    have h22Lc := pw_LcE I h22E hLc rfl
    have h22Ls := pw_ShsE I h22E hLs rfl
    have h22Rm := pw_RmE I h22E hRm rfl
    have h22Ro := pw_RoE I h22E hRo rfl
    refine pwl_ist E (pc' := 911) (ls' := [some (.ref 0), some (.ref 16), some (.ref 141), some (.ref 185), some (pw_i i), some (pw_i x23), a6, a7]) rfl rfl rfl rfl ?_
    refine pwl_ld E (pc' := 912) (st' := [.ref 141]) rfl (fun _ => rfl) ?_
    refine pwl_ld E (pc' := 913) (st' := [.ref 0, .ref 141]) rfl (fun _ => rfl) ?_
    refine pwl_ld E (pc' := 915) (st' := [pw_i i, .ref 0, .ref 141]) rfl (fun _ => rfl) ?_
    refine pwl_ld E (pc' := 916) (st' := [pw_i 1, pw_i i, .ref 0, .ref 141]) rfl (fun _ => rfl) ?_
    refine pwl_add E (pc' := 917) rfl rfl ?_
    refine pwl_sald E (pc' := 918) rfl hX0 hl (by omega) (by omega) rfl ?_
    have hs24 := pw_s_r xs (i + 1)
    refine pwl_ld E (pc' := 919) (st' := [.ref 0, pw_i (pw_s xs (i + 1)), .ref 141]) rfl (fun _ => rfl) ?_
    refine pwl_ld E (pc' := 921) (st' := [pw_i i, .ref 0, pw_i (pw_s xs (i + 1)), .ref 141]) rfl (fun _ => rfl) ?_
    refine pwl_ld E (pc' := 922) (st' := [pw_i 2, pw_i i, .ref 0, pw_i (pw_s xs (i + 1)), .ref 141]) rfl (fun _ => rfl) ?_
    refine pwl_add E (pc' := 923) rfl rfl ?_
    refine pwl_sald E (pc' := 924) rfl hX0 hl (by omega) (by omega) rfl ?_
    have hs25 := pw_s_r xs (i + 2)
    refine pwl_ld E (pc' := 925) (st' := [.ref 0, pw_i (pw_s xs (i + 2)), pw_i (pw_s xs (i + 1)), .ref 141]) rfl (fun _ => rfl) ?_
    refine pwl_ld E (pc' := 927) (st' := [pw_i i, .ref 0, pw_i (pw_s xs (i + 2)), pw_i (pw_s xs (i + 1)), .ref 141]) rfl (fun _ => rfl) ?_
    refine pwl_ld E (pc' := 928) (st' := [pw_i 3, pw_i i, .ref 0, pw_i (pw_s xs (i + 2)), pw_i (pw_s xs (i + 1)), .ref 141]) rfl (fun _ => rfl) ?_
    refine pwl_add E (pc' := 929) rfl rfl ?_
    refine pwl_sald E (pc' := 930) rfl hX0 hl (by omega) (by omega) rfl ?_
    have hs26 := pw_s_r xs (i + 3)
    refine pwl_if E (pc' := 937) rfl (by decide) (by omega) (by omega) ?_ ?_
    · intro hc27
      have hc27 : pw_s xs (i + 3) = (0 : Int) := hc27
      exfalso; omega
    · intro hc28
      have hc28 : ¬ (pw_s xs (i + 3) = (0 : Int)) := hc28
      refine pwl_ld E (pc' := 934) (st' := [pw_i 1, pw_i (pw_s xs (i + 2)), pw_i (pw_s xs (i + 1)), .ref 141]) rfl (fun _ => rfl) ?_
      refine pwl_goto E (pc' := 938) rfl (by decide) ?_
      refine pwl_ld E (pc' := 939) (st' := [.ref 0, pw_i 1, pw_i (pw_s xs (i + 2)), pw_i (pw_s xs (i + 1)), .ref 141]) rfl (fun _ => rfl) ?_
      refine pwl_ld E (pc' := 941) (st' := [pw_i i, .ref 0, pw_i 1, pw_i (pw_s xs (i + 2)), pw_i (pw_s xs (i + 1)), .ref 141]) rfl (fun _ => rfl) ?_
      refine pwl_ld E (pc' := 942) (st' := [pw_i 4, pw_i i, .ref 0, pw_i 1, pw_i (pw_s xs (i + 2)), pw_i (pw_s xs (i + 1)), .ref 141]) rfl (fun _ => rfl) ?_
      refine pwl_add E (pc' := 943) rfl rfl ?_
      refine pwl_sald E (pc' := 944) rfl hX0 hl (by omega) (by omega) rfl ?_
      have hs29 := pw_s_r xs (i + 4)
      obtain ⟨f30l, f30h, -⟩ := pw_obj (c := 125) h22I rfl
      refine pwl_call (m' := 230) (As := [.ref 141, pw_i (pw_s xs (i + 1)), pw_i (pw_s xs (i + 2)), pw_i 1, pw_i (pw_s xs (i + 4))]) (rest := []) (ls'' := [some (.ref 141), some (pw_i (pw_s xs (i + 1))), some (pw_i (pw_s xs (i + 2))), some (pw_i 1), some (pw_i (pw_s xs (i + 4))), none, none, none]) E rfl (fun _ => pwl_iV rfl rfl rfl (pw_cellI f30h rfl)) (rfl : pm_ent 230 = some (5, 8, 12, 2, pmc_230)) (by decide) rfl rfl (cm_230 (by decide) h22I (pw_s xs (i + 1)) (by omega) (by omega) (pw_s xs (i + 2)) (by omega) (by omega) 1 (by decide) (by decide) (pw_s xs (i + 4)) (by omega) (by omega)) ?_
      rintro h32 v31 ⟨h32I, h32E, w33, rfl⟩
      refine ⟨_, rfl, ?_⟩
      have h32K := pw_KE h22I h32E h22K rfl
      have h32L := h32E.1
      show pwl X _ h32 947 [some (.ref 0), some (.ref 16), some (.ref 141), some (.ref 185), some (pw_i i), some (pw_i x23), a6, a7] [.long w33] _
      have h32Tk : pw_PR 2 131 24 h32 := pw_PRE (c := 2) (c' := 131) rfl rfl h22I h32E h22Tk rfl
      have h32Ck : pw_PR 3 135 24 h32 := pw_PRE (c := 3) (c' := 135) rfl rfl h22I h32E h22Ck rfl
      have h32Bk : pw_PR 4 132 24 h32 := pw_PRE (c := 4) (c' := 132) rfl rfl h22I h32E h22Bk rfl
      have h32Wk : pw_PR 5 133 24 h32 := pw_PRE (c := 5) (c' := 133) rfl rfl h22I h32E h22Wk rfl
      have h32Mk : pw_PR 6 134 24 h32 := pw_PRE (c := 6) (c' := 134) rfl rfl h22I h32E h22Mk rfl
      have h32Fk : pw_PR 8 136 24 h32 := pw_PRE (c := 8) (c' := 136) rfl rfl h22I h32E h22Fk rfl
      have h32Rk : pw_PR 9 137 24 h32 := pw_PRE (c := 9) (c' := 137) rfl rfl h22I h32E h22Rk rfl
      have h32Hk : pw_PR 14 162 288 h32 := pw_PRE (c := 14) (c' := 162) rfl rfl h22I h32E h22Hk rfl
      have h32Gk : pw_PR 15 163 288 h32 := pw_PRE (c := 15) (c' := 163) rfl rfl h22I h32E h22Gk rfl
      have h32Tn := pw_TnE h22I h32E h22Tn rfl
      have h32Lc := pw_LcE h22I h32E h22Lc rfl
      have h32Ls := pw_ShsE h22I h32E h22Ls rfl
      have h32Rm := pw_RmE h22I h32E h22Rm rfl
      have h32Ro := pw_RoE h22I h32E h22Ro rfl
      refine pwl_lst E (pc' := 949) (ls' := [some (.ref 0), some (.ref 16), some (.ref 141), some (.ref 185), some (pw_i i), some (pw_i x23), some (.long w33), none]) rfl rfl rfl rfl ?_
      refine pwl_goto E (pc' := 2368) rfl (by decide) ?_
      exact pwl_mono (by omega) (hB h32 (some (pw_i x23)) (some (.long w33)) (none) h32I h32K h32Tk h32Ck h32Bk h32Wk h32Mk h32Fk h32Rk h32Hk h32Gk h32Tn h32Lc h32Ls h32Rm h32Ro (by omega) (by omega) (fun _ => rfl) (fun _ => rfl) (fun _ => rfl))
set_option maxHeartbeats 4000000 in
theorem lc_13 {X : List (Nat × List Value)} {xs : List Int32} {K : Nat} {h : pm_H} {Q : pm_H → (Option Value ⊕ Unit) → Prop} (hX0 : X[0]? = some (0, xs.map Value.int)) (hl : xs.length ≤ 3584) (hX : pw_Xk X) (hR : pw_Xr X) (I : pw_I h) (hK : pw_K h) (hTk : pw_PR 2 131 24 h) (hCk : pw_PR 3 135 24 h) (hBk : pw_PR 4 132 24 h) (hWk : pw_PR 5 133 24 h) (hMk : pw_PR 6 134 24 h) (hFk : pw_PR 8 136 24 h) (hRk : pw_PR 9 137 24 h) (hHk : pw_PR 14 162 288 h) (hGk : pw_PR 15 163 288 h) (hTn : pw_Tn h) (hLc : pw_Lc h) (hLs : pw_Shs h) (hRm : pw_Rm h) (hRo : pw_Ro h) (i : Int) (hi0 : 0 ≤ i) (hi1 : i + 7 ≤ xs.length) (a5 a6 a7 : Option Value) (s5 : ∀ n, pm_scl n a5 = true) (s6 : ∀ n, pm_scl n a6 = true) (s7 : ∀ n, pm_scl n a7 = true) (hB : ∀ (h' : pm_H) (b5 b6 b7 : Option Value), pw_I h' → pw_K h' → pw_PR 2 131 24 h' → pw_PR 3 135 24 h' → pw_PR 4 132 24 h' → pw_PR 5 133 24 h' → pw_PR 6 134 24 h' → pw_PR 8 136 24 h' → pw_PR 9 137 24 h' → pw_PR 14 162 288 h' → pw_PR 15 163 288 h' → pw_Tn h' → pw_Lc h' → pw_Shs h' → pw_Rm h' → pw_Ro h' → h'.length ≤ h.length + 1 → pm_slt h' ≤ pm_slt h + 1000 → (∀ n, pm_scl n b5 = true) → (∀ n, pm_scl n b6 = true) → (∀ n, pm_scl n b7 = true) → pwl X K h' 2368 [some (.ref 0), some (.ref 16), some (.ref 141), some (.ref 185), some (pw_i i), b5, b6, b7] [] Q) : pwl X (K + 150) h 952 [some (.ref 0), some (.ref 16), some (.ref 141), some (.ref 185), some (pw_i i), a5, a6, a7] [] Q := by
  have E : pm_ent 309 = some (1, 8, 13, 1, pmc_309) := rfl
  refine pwl_ld E (pc' := 953) (st' := [.ref 16]) rfl (fun _ => rfl) ?_
  refine pwl_ld E (pc' := 954) (st' := [.ref 0, .ref 16]) rfl (fun _ => rfl) ?_
  refine pwl_ld E (pc' := 956) (st' := [pw_i i, .ref 0, .ref 16]) rfl (fun _ => rfl) ?_
  refine pwl_ld E (pc' := 957) (st' := [pw_i 1, pw_i i, .ref 0, .ref 16]) rfl (fun _ => rfl) ?_
  refine pwl_add E (pc' := 958) rfl rfl ?_
  refine pwl_sald E (pc' := 959) rfl hX0 hl (by omega) (by omega) rfl ?_
  have hs1 := pw_s_r xs (i + 1)
  refine pwl_ld E (pc' := 960) (st' := [.ref 0, pw_i (pw_s xs (i + 1)), .ref 16]) rfl (fun _ => rfl) ?_
  refine pwl_ld E (pc' := 962) (st' := [pw_i i, .ref 0, pw_i (pw_s xs (i + 1)), .ref 16]) rfl (fun _ => rfl) ?_
  refine pwl_ld E (pc' := 963) (st' := [pw_i 2, pw_i i, .ref 0, pw_i (pw_s xs (i + 1)), .ref 16]) rfl (fun _ => rfl) ?_
  refine pwl_add E (pc' := 964) rfl rfl ?_
  refine pwl_sald E (pc' := 965) rfl hX0 hl (by omega) (by omega) rfl ?_
  have hs2 := pw_s_r xs (i + 2)
  refine pwl_ld E (pc' := 966) (st' := [.ref 0, pw_i (pw_s xs (i + 2)), pw_i (pw_s xs (i + 1)), .ref 16]) rfl (fun _ => rfl) ?_
  refine pwl_ld E (pc' := 968) (st' := [pw_i i, .ref 0, pw_i (pw_s xs (i + 2)), pw_i (pw_s xs (i + 1)), .ref 16]) rfl (fun _ => rfl) ?_
  refine pwl_ld E (pc' := 969) (st' := [pw_i 3, pw_i i, .ref 0, pw_i (pw_s xs (i + 2)), pw_i (pw_s xs (i + 1)), .ref 16]) rfl (fun _ => rfl) ?_
  refine pwl_add E (pc' := 970) rfl rfl ?_
  refine pwl_sald E (pc' := 971) rfl hX0 hl (by omega) (by omega) rfl ?_
  have hs3 := pw_s_r xs (i + 3)
  refine pwl_ld E (pc' := 972) (st' := [.ref 0, pw_i (pw_s xs (i + 3)), pw_i (pw_s xs (i + 2)), pw_i (pw_s xs (i + 1)), .ref 16]) rfl (fun _ => rfl) ?_
  refine pwl_ld E (pc' := 974) (st' := [pw_i i, .ref 0, pw_i (pw_s xs (i + 3)), pw_i (pw_s xs (i + 2)), pw_i (pw_s xs (i + 1)), .ref 16]) rfl (fun _ => rfl) ?_
  refine pwl_ld E (pc' := 975) (st' := [pw_i 4, pw_i i, .ref 0, pw_i (pw_s xs (i + 3)), pw_i (pw_s xs (i + 2)), pw_i (pw_s xs (i + 1)), .ref 16]) rfl (fun _ => rfl) ?_
  refine pwl_add E (pc' := 976) rfl rfl ?_
  refine pwl_sald E (pc' := 977) rfl hX0 hl (by omega) (by omega) rfl ?_
  have hs4 := pw_s_r xs (i + 4)
  refine pwl_ld E (pc' := 978) (st' := [.ref 185, pw_i (pw_s xs (i + 4)), pw_i (pw_s xs (i + 3)), pw_i (pw_s xs (i + 2)), pw_i (pw_s xs (i + 1)), .ref 16]) rfl (fun _ => rfl) ?_
  refine pwl_call (m' := 315) (As := [.ref 16, pw_i (pw_s xs (i + 1)), pw_i (pw_s xs (i + 2)), pw_i (pw_s xs (i + 3)), pw_i (pw_s xs (i + 4)), .ref 185]) (rest := []) (ls'' := [some (.ref 16), some (pw_i (pw_s xs (i + 1))), some (pw_i (pw_s xs (i + 2))), some (pw_i (pw_s xs (i + 3))), some (pw_i (pw_s xs (i + 4))), some (.ref 185), none]) E rfl (fun _ => pwl_iS rfl rfl rfl (pw_sc8 I s5 s6 s7) rfl) (rfl : pm_ent 315 = some (6, 7, 13, 0, pmc_315)) (by decide) rfl rfl (cm_315 (by decide) I (pw_s xs (i + 1)) (by omega) (by omega) (pw_s xs (i + 2)) (by omega) (by omega) (pw_s xs (i + 3)) (by omega) (by omega) (pw_s xs (i + 4)) (by omega) (by omega)) ?_
  rintro h6 v5 ⟨h6I, h6E, x7, rfl, hx7a, hx7b⟩
  refine ⟨_, rfl, ?_⟩
  have h6K := pw_KE I h6E hK rfl
  have h6L := h6E.1
  show pwl X _ h6 981 [some (.ref 0), some (.ref 16), some (.ref 141), some (.ref 185), some (pw_i i), a5, a6, a7] [pw_i x7] _
  have h6Tk : pw_PR 2 131 24 h6 := pw_PRE (c := 2) (c' := 131) rfl rfl I h6E hTk rfl
  have h6Ck : pw_PR 3 135 24 h6 := pw_PRE (c := 3) (c' := 135) rfl rfl I h6E hCk rfl
  have h6Bk : pw_PR 4 132 24 h6 := pw_PRE (c := 4) (c' := 132) rfl rfl I h6E hBk rfl
  have h6Wk : pw_PR 5 133 24 h6 := pw_PRE (c := 5) (c' := 133) rfl rfl I h6E hWk rfl
  have h6Mk : pw_PR 6 134 24 h6 := pw_PRE (c := 6) (c' := 134) rfl rfl I h6E hMk rfl
  have h6Fk : pw_PR 8 136 24 h6 := pw_PRE (c := 8) (c' := 136) rfl rfl I h6E hFk rfl
  have h6Rk : pw_PR 9 137 24 h6 := pw_PRE (c := 9) (c' := 137) rfl rfl I h6E hRk rfl
  have h6Hk : pw_PR 14 162 288 h6 := pw_PRE (c := 14) (c' := 162) rfl rfl I h6E hHk rfl
  have h6Gk : pw_PR 15 163 288 h6 := pw_PRE (c := 15) (c' := 163) rfl rfl I h6E hGk rfl
  have h6Tn := pw_TnE I h6E hTn rfl
  have h6Lc := pw_LcE I h6E hLc rfl
  have h6Ls := pw_ShsE I h6E hLs rfl
  have h6Rm := pw_RmE I h6E hRm rfl
  have h6Ro := pw_RoE I h6E hRo rfl
  refine pwl_ist E (pc' := 983) (ls' := [some (.ref 0), some (.ref 16), some (.ref 141), some (.ref 185), some (pw_i i), some (pw_i x7), a6, a7]) rfl rfl rfl rfl ?_
  refine pwl_ld E (pc' := 984) (st' := [.ref 141]) rfl (fun _ => rfl) ?_
  refine pwl_ld E (pc' := 985) (st' := [.ref 0, .ref 141]) rfl (fun _ => rfl) ?_
  refine pwl_ld E (pc' := 987) (st' := [pw_i i, .ref 0, .ref 141]) rfl (fun _ => rfl) ?_
  refine pwl_ld E (pc' := 988) (st' := [pw_i 1, pw_i i, .ref 0, .ref 141]) rfl (fun _ => rfl) ?_
  refine pwl_add E (pc' := 989) rfl rfl ?_
  refine pwl_sald E (pc' := 990) rfl hX0 hl (by omega) (by omega) rfl ?_
  have hs8 := pw_s_r xs (i + 1)
  refine pwl_ld E (pc' := 991) (st' := [.ref 0, pw_i (pw_s xs (i + 1)), .ref 141]) rfl (fun _ => rfl) ?_
  refine pwl_ld E (pc' := 993) (st' := [pw_i i, .ref 0, pw_i (pw_s xs (i + 1)), .ref 141]) rfl (fun _ => rfl) ?_
  refine pwl_ld E (pc' := 994) (st' := [pw_i 2, pw_i i, .ref 0, pw_i (pw_s xs (i + 1)), .ref 141]) rfl (fun _ => rfl) ?_
  refine pwl_add E (pc' := 995) rfl rfl ?_
  refine pwl_sald E (pc' := 996) rfl hX0 hl (by omega) (by omega) rfl ?_
  have hs9 := pw_s_r xs (i + 2)
  refine pwl_ld E (pc' := 997) (st' := [.ref 0, pw_i (pw_s xs (i + 2)), pw_i (pw_s xs (i + 1)), .ref 141]) rfl (fun _ => rfl) ?_
  refine pwl_ld E (pc' := 999) (st' := [pw_i i, .ref 0, pw_i (pw_s xs (i + 2)), pw_i (pw_s xs (i + 1)), .ref 141]) rfl (fun _ => rfl) ?_
  refine pwl_ld E (pc' := 1000) (st' := [pw_i 3, pw_i i, .ref 0, pw_i (pw_s xs (i + 2)), pw_i (pw_s xs (i + 1)), .ref 141]) rfl (fun _ => rfl) ?_
  refine pwl_add E (pc' := 1001) rfl rfl ?_
  refine pwl_sald E (pc' := 1002) rfl hX0 hl (by omega) (by omega) rfl ?_
  have hs10 := pw_s_r xs (i + 3)
  refine pwl_ld E (pc' := 1003) (st' := [.ref 0, pw_i (pw_s xs (i + 3)), pw_i (pw_s xs (i + 2)), pw_i (pw_s xs (i + 1)), .ref 141]) rfl (fun _ => rfl) ?_
  refine pwl_ld E (pc' := 1005) (st' := [pw_i i, .ref 0, pw_i (pw_s xs (i + 3)), pw_i (pw_s xs (i + 2)), pw_i (pw_s xs (i + 1)), .ref 141]) rfl (fun _ => rfl) ?_
  refine pwl_ld E (pc' := 1006) (st' := [pw_i 4, pw_i i, .ref 0, pw_i (pw_s xs (i + 3)), pw_i (pw_s xs (i + 2)), pw_i (pw_s xs (i + 1)), .ref 141]) rfl (fun _ => rfl) ?_
  refine pwl_add E (pc' := 1007) rfl rfl ?_
  refine pwl_sald E (pc' := 1008) rfl hX0 hl (by omega) (by omega) rfl ?_
  have hs11 := pw_s_r xs (i + 4)
  obtain ⟨f12l, f12h, -⟩ := pw_obj (c := 125) h6I rfl
  refine pwl_call (m' := 231) (As := [.ref 141, pw_i (pw_s xs (i + 1)), pw_i (pw_s xs (i + 2)), pw_i (pw_s xs (i + 3)), pw_i (pw_s xs (i + 4))]) (rest := []) (ls'' := [some (.ref 141), some (pw_i (pw_s xs (i + 1))), some (pw_i (pw_s xs (i + 2))), some (pw_i (pw_s xs (i + 3))), some (pw_i (pw_s xs (i + 4))), none]) E rfl (fun _ => pwl_iV rfl rfl rfl (pw_cellI f12h rfl)) (rfl : pm_ent 231 = some (5, 6, 12, 2, pmc_231)) (by decide) rfl rfl (cm_231 (by decide) h6I (pw_s xs (i + 1)) (by omega) (by omega) (pw_s xs (i + 2)) (by omega) (by omega) (pw_s xs (i + 3)) (by omega) (by omega) (pw_s xs (i + 4)) (by omega) (by omega)) ?_
  rintro h14 v13 ⟨h14I, h14E, w15, rfl⟩
  refine ⟨_, rfl, ?_⟩
  have h14K := pw_KE h6I h14E h6K rfl
  have h14L := h14E.1
  show pwl X _ h14 1011 [some (.ref 0), some (.ref 16), some (.ref 141), some (.ref 185), some (pw_i i), some (pw_i x7), a6, a7] [.long w15] _
  have h14Tk : pw_PR 2 131 24 h14 := pw_PRE (c := 2) (c' := 131) rfl rfl h6I h14E h6Tk rfl
  have h14Ck : pw_PR 3 135 24 h14 := pw_PRE (c := 3) (c' := 135) rfl rfl h6I h14E h6Ck rfl
  have h14Bk : pw_PR 4 132 24 h14 := pw_PRE (c := 4) (c' := 132) rfl rfl h6I h14E h6Bk rfl
  have h14Wk : pw_PR 5 133 24 h14 := pw_PRE (c := 5) (c' := 133) rfl rfl h6I h14E h6Wk rfl
  have h14Mk : pw_PR 6 134 24 h14 := pw_PRE (c := 6) (c' := 134) rfl rfl h6I h14E h6Mk rfl
  have h14Fk : pw_PR 8 136 24 h14 := pw_PRE (c := 8) (c' := 136) rfl rfl h6I h14E h6Fk rfl
  have h14Rk : pw_PR 9 137 24 h14 := pw_PRE (c := 9) (c' := 137) rfl rfl h6I h14E h6Rk rfl
  have h14Hk : pw_PR 14 162 288 h14 := pw_PRE (c := 14) (c' := 162) rfl rfl h6I h14E h6Hk rfl
  have h14Gk : pw_PR 15 163 288 h14 := pw_PRE (c := 15) (c' := 163) rfl rfl h6I h14E h6Gk rfl
  have h14Tn := pw_TnE h6I h14E h6Tn rfl
  have h14Lc := pw_LcE h6I h14E h6Lc rfl
  have h14Ls := pw_ShsE h6I h14E h6Ls rfl
  have h14Rm := pw_RmE h6I h14E h6Rm rfl
  have h14Ro := pw_RoE h6I h14E h6Ro rfl
  refine pwl_lst E (pc' := 1013) (ls' := [some (.ref 0), some (.ref 16), some (.ref 141), some (.ref 185), some (pw_i i), some (pw_i x7), some (.long w15), none]) rfl rfl rfl rfl ?_
  refine pwl_goto E (pc' := 2368) rfl (by decide) ?_
  exact pwl_mono (by omega) (hB h14 (some (pw_i x7)) (some (.long w15)) (none) h14I h14K h14Tk h14Ck h14Bk h14Wk h14Mk h14Fk h14Rk h14Hk h14Gk h14Tn h14Lc h14Ls h14Rm h14Ro (by omega) (by omega) (fun _ => rfl) (fun _ => rfl) (fun _ => rfl))

