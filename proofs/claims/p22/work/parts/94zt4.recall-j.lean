section
theorem pt_C_all {X : List (Nat × List Value)} : ∀ k : Nat, k ≤ 5 → pt_C252 X (5 - (k : Int)) ∧ pt_C248 X (5 - (k : Int)) := by
  intro k
  induction k with
  | zero =>
    intro _
    have c2 : pt_C252 X (5 - (((0 : Nat) : Int) : Int)) := fun n K V P wr S o b c hd I a0 a1 a2 a3 a4 a5 a6 => cm_252_t _ (by omega) (by omega) (fun q => by omega) hd I n K V P wr S o b c a0 a1 a2 a3 a4 a5 a6
    have c3 : pt_C251 X (5 - (((0 : Nat) : Int) : Int)) := fun n K V P wr S o b c hd I a0 a1 a2 a3 a4 a5 a6 a7 a8 => cm_251_t _ (by omega) (by omega) c2 hd I n K V P wr S o b c a0 a1 a2 a3 a4 a5 a6 a7 a8
    have c4 : pt_C250 X (5 - (((0 : Nat) : Int) : Int)) := fun n K V P wr S o b c hd I a0 a1 a2 a3 a4 a5 a6 a7 a8 => cm_250_t _ (by omega) (by omega) c3 hd I n K V P wr S o b c a0 a1 a2 a3 a4 a5 a6 a7 a8
    have c5 : pt_C249 X (5 - (((0 : Nat) : Int) : Int)) := fun n K V P wr S o b c hd I a0 a1 a2 a3 a4 a5 a6 a7 a8 => cm_249_t _ (by omega) (by omega) c4 hd I n K V P wr S o b c a0 a1 a2 a3 a4 a5 a6 a7 a8
    exact ⟨c2, fun n K V P wr S o b c hd I a0 a1 a2 a3 a4 a5 a6 a7 a8 => cm_248_t _ (by omega) (by omega) c5 hd I n K V P wr S o b c a0 a1 a2 a3 a4 a5 a6 a7 a8⟩
  | succ k ih =>
    intro hk
    have e : (5 - ((k + 1 : Nat) : Int)) + 1 = 5 - (k : Int) := by omega
    have c2 : pt_C252 X (5 - (((k + 1 : Nat) : Int) : Int)) := fun n K V P wr S o b c hd I a0 a1 a2 a3 a4 a5 a6 => cm_252_t _ (by omega) (by omega) (fun _ => by rw [e]; exact ih (by omega)) hd I n K V P wr S o b c a0 a1 a2 a3 a4 a5 a6
    have c3 : pt_C251 X (5 - (((k + 1 : Nat) : Int) : Int)) := fun n K V P wr S o b c hd I a0 a1 a2 a3 a4 a5 a6 a7 a8 => cm_251_t _ (by omega) (by omega) c2 hd I n K V P wr S o b c a0 a1 a2 a3 a4 a5 a6 a7 a8
    have c4 : pt_C250 X (5 - (((k + 1 : Nat) : Int) : Int)) := fun n K V P wr S o b c hd I a0 a1 a2 a3 a4 a5 a6 a7 a8 => cm_250_t _ (by omega) (by omega) c3 hd I n K V P wr S o b c a0 a1 a2 a3 a4 a5 a6 a7 a8
    have c5 : pt_C249 X (5 - (((k + 1 : Nat) : Int) : Int)) := fun n K V P wr S o b c hd I a0 a1 a2 a3 a4 a5 a6 a7 a8 => cm_249_t _ (by omega) (by omega) c4 hd I n K V P wr S o b c a0 a1 a2 a3 a4 a5 a6 a7 a8
    exact ⟨c2, fun n K V P wr S o b c hd I a0 a1 a2 a3 a4 a5 a6 a7 a8 => cm_248_t _ (by omega) (by omega) c5 hd I n K V P wr S o b c a0 a1 a2 a3 a4 a5 a6 a7 a8⟩
theorem pt_C248_all {X : List (Nat × List Value)} : pt_C248 X 0 := (pt_C_all 5 (by omega)).2
end
section
/-! texts: lines and whole texts, as functions of the tokens -/
/-- the machine runs until it stops: how, where, how it stands -/
def pt_rn (F : Int → Int) (K V : Nat → Int) : Nat → Nat → pt_St → Int × Nat × pt_St
  | 0, i, s => (0, i, s)
  | m + 1, i, s => if (pt_es F (K i) (V i) s).1 = 0 then pt_rn F K V m (i + 1) (pt_es F (K i) (V i) s).2 else ((pt_es F (K i) (V i) s).1, i, (pt_es F (K i) (V i) s).2)
theorem pt_rn_mr {F : Int → Int} {K V : Nat → Int} {m' : Nat} {t : pt_St} : ∀ {m i : Nat} {s : pt_St}, pt_mr F K V m i s t → pt_rn F K V (m + m') i s = pt_rn F K V m' (i + m) t := by
  intro m
  induction m with
  | zero =>
    intro i s h
    have e : s = t := h
    rw [e, Nat.zero_add]
    rfl
  | succ m ih =>
    intro i s h
    rw [show m + 1 + m' = (m + m') + 1 by omega]
    have e : pt_rn F K V (m + m' + 1) i s = pt_rn F K V (m + m') (i + 1) (pt_es F (K i) (V i) s).2 := if_pos h.1
    rw [e, ih h.2, show i + 1 + m = i + (m + 1) by omega]
theorem pt_rn_of {F : Int → Int} {K V : Nat → Int} {i j : Int} {s t : pt_St} (h : pt_MR F K V i j s t) (hj : j ≤ 1001) (hs : (pt_es F (K j.toNat) (V j.toNat) t).1 ≠ 0) : pt_rn F K V 1100 i.toNat s = ((pt_es F (K j.toNat) (V j.toNat) t).1, j.toNat, (pt_es F (K j.toNat) (V j.toNat) t).2) := by
  obtain ⟨h0, h1, h2⟩ := h
  have e := pt_rn_mr (m' := (1099 - (j - i).toNat) + 1) h2
  rw [show (j - i).toNat + ((1099 - (j - i).toNat) + 1) = 1100 by omega, show i.toNat + (j - i).toNat = j.toNat by omega] at e
  rw [e]
  exact if_neg hs
theorem pt_rn_mf {F : Int → Int} {K V P : Nat → Int} {i f : Int} {s : pt_St} (h : pt_MF F K V P i s f) : (pt_rn F K V 1100 i.toNat s).1 ≠ 0 ∧ (pt_rn F K V 1100 i.toNat s).1 ≠ 9 ∧ f = (pt_rn F K V 1100 i.toNat s).1 + 16 * P (pt_rn F K V 1100 i.toNat s).2.1 := by
  obtain ⟨j, t, a, b, n0, n9, e⟩ := h
  rw [pt_rn_of a b n0]
  exact ⟨n0, n9, e⟩
theorem pt_rn_end {F : Int → Int} {K V : Nat → Int} {i j : Int} {s t u : pt_St} (h : pt_MR F K V i j s t) (hj : j ≤ 1001) (e : pt_es F (K j.toNat) (V j.toNat) t = (9, u)) : pt_rn F K V 1100 i.toNat s = (9, j.toNat, u) := by
  rw [pt_rn_of h hj (by rw [e]; exact (show ¬ (9 : Int) = 0 by decide)), e]
abbrev pt_s0 : pt_St := (0, [], 0, 0, [])
/-- an E from token i on, up to its sign: fault, the token behind, code -/
def pt_E (F : Int → Int) (K V P : Nat → Int) (i : Nat) : Int × Int × List Int := if (pt_rn F K V 1100 i pt_s0).1 = 9 then (0, ((pt_rn F K V 1100 i pt_s0).2.1 : Int) + 1, (pt_rn F K V 1100 i pt_s0).2.2.2.2.2.2) else ((pt_rn F K V 1100 i pt_s0).1 + 16 * P (pt_rn F K V 1100 i pt_s0).2.1, 0, [])
theorem pt_E_mf {F : Int → Int} {K V P : Nat → Int} {i f : Int} (h : pt_MF F K V P i pt_s0 f) : pt_E F K V P i.toNat = (f, 0, []) := by
  obtain ⟨-, n9, e⟩ := pt_rn_mf h
  unfold pt_E
  rw [if_neg n9, e]
theorem pt_E_end {F : Int → Int} {K V P : Nat → Int} {i j : Int} {c : List Int} (H : pt_GG 1 1 F K V i j [] 0 0 [] c) (hj : j ≤ 1001) (hk : K j.toNat = 3) (hv : V j.toNat = 59) : pt_E F K V P i.toNat = (0, j + 1, c) := by
  obtain ⟨t, a, b⟩ := H.end hk hv
  have j0 : 0 ≤ j := by have := a.1; have := a.2.1; omega
  unfold pt_E
  rw [pt_rn_end a hj b, if_pos rfl, show ((j.toNat : Nat) : Int) = j by omega]
/-- which line a word opens, what stands behind it: -1 an E, -2 when and an E, else a number up to that -/
def pt_LW (wr V : Int) : Int := if wr = 0 then pt_fd (fun k => pt_wc k) V 4 else pt_fd (fun k => pt_wc (18 + k)) V 4
def pt_FO (wr w : Int) : Int := if wr = 0 then (if w ≤ 1 then -1 else -2) else if w = 0 then -2 else if w = 3 then 10 else 11
/-- the line that begins at token i: fault, the token behind, its number, code, numeral -/
def pt_ln2 (wr : Int) (K V P : Nat → Int) (th : Int → Int) (i : Nat) (w : Int) : Int × Int × Int × List Int × Int :=
  if w < 0 then (1 + 16 * P i, 0, w, [], 0)
  else if th w ≠ 0 then (3 + 16 * P i, 0, w, [], 0)
  else if pt_FO wr w = -1 then ((pt_E (pt_FF wr) K V P (i + 1)).1, (pt_E (pt_FF wr) K V P (i + 1)).2.1, w, (pt_E (pt_FF wr) K V P (i + 1)).2.2, 0)
  else if pt_FO wr w = -2 then (if K (i + 1) = 1 ∧ V (i + 1) = 1176170 then ((pt_E (pt_FF wr) K V P (i + 2)).1, (pt_E (pt_FF wr) K V P (i + 2)).2.1, w, (pt_E (pt_FF wr) K V P (i + 2)).2.2, 0) else (1 + 16 * P (i + 1), 0, w, [], 0))
  else if K (i + 1) ≠ 2 then (1 + 16 * P (i + 1), 0, w, [], 0)
  else if pt_FO wr w < V (i + 1) then (4 + 16 * P (i + 1), 0, w, [], 0)
  else if K (i + 2) = 3 ∧ V (i + 2) = 59 then (0, (i : Int) + 3, w, [], V (i + 1))
  else (1 + 16 * P (i + 2), 0, w, [], 0)
def pt_wo (wr : Int) (K V : Nat → Int) (i : Nat) : Int := if K i = 1 then pt_LW wr (V i) else -1
def pt_line (wr : Int) (K V P : Nat → Int) (th : Int → Int) (i : Nat) : Int × Int × Int × List Int × Int := pt_ln2 wr K V P th i (pt_wo wr K V i)
theorem pt_line_w1 {wr : Int} {K V P : Nat → Int} {th : Int → Int} {i : Nat} (h : pt_wo wr K V i < 0) : (pt_line wr K V P th i).1 = 1 + 16 * P i := by
  unfold pt_line pt_ln2
  rw [if_pos h]
theorem pt_line_t3 {wr w : Int} {K V P : Nat → Int} {th : Int → Int} {i : Nat} (hw : pt_wo wr K V i = w) (h0 : 0 ≤ w) (h : th w ≠ 0) : (pt_line wr K V P th i).1 = 3 + 16 * P i := by
  unfold pt_line pt_ln2
  rw [hw, if_neg (by omega), if_pos h]
theorem pt_line_E1 {wr w : Int} {K V P : Nat → Int} {th : Int → Int} {i : Nat} (hw : pt_wo wr K V i = w) (h0 : 0 ≤ w) (h : th w = 0) (hf : pt_FO wr w = -1) : pt_line wr K V P th i = ((pt_E (pt_FF wr) K V P (i + 1)).1, (pt_E (pt_FF wr) K V P (i + 1)).2.1, w, (pt_E (pt_FF wr) K V P (i + 1)).2.2, 0) := by
  unfold pt_line pt_ln2
  rw [hw, if_neg (by omega), if_neg (fun z => z h), if_pos hf]
theorem pt_line_E2 {wr w : Int} {K V P : Nat → Int} {th : Int → Int} {i : Nat} (hw : pt_wo wr K V i = w) (h0 : 0 ≤ w) (h : th w = 0) (hf : pt_FO wr w = -2) (hk : K (i + 1) = 1 ∧ V (i + 1) = 1176170) : pt_line wr K V P th i = ((pt_E (pt_FF wr) K V P (i + 2)).1, (pt_E (pt_FF wr) K V P (i + 2)).2.1, w, (pt_E (pt_FF wr) K V P (i + 2)).2.2, 0) := by
  unfold pt_line pt_ln2
  rw [hw, if_neg (by omega), if_neg (fun z => z h), if_neg (by omega), if_pos hf, if_pos hk]
theorem pt_line_nw {wr w : Int} {K V P : Nat → Int} {th : Int → Int} {i : Nat} (hw : pt_wo wr K V i = w) (h0 : 0 ≤ w) (h : th w = 0) (hf : pt_FO wr w = -2) (hk : ¬ (K (i + 1) = 1 ∧ V (i + 1) = 1176170)) : (pt_line wr K V P th i).1 = 1 + 16 * P (i + 1) := by
  unfold pt_line pt_ln2
  rw [hw, if_neg (by omega), if_neg (fun z => z h), if_neg (by omega), if_pos hf, if_neg hk]
theorem pt_line_n1 {wr w : Int} {K V P : Nat → Int} {th : Int → Int} {i : Nat} (hw : pt_wo wr K V i = w) (h0 : 0 ≤ w) (h : th w = 0) (hf : 0 ≤ pt_FO wr w) (hk : K (i + 1) ≠ 2) : (pt_line wr K V P th i).1 = 1 + 16 * P (i + 1) := by
  unfold pt_line pt_ln2
  rw [hw, if_neg (by omega), if_neg (fun z => z h), if_neg (by omega), if_neg (by omega), if_pos hk]
theorem pt_line_n4 {wr w : Int} {K V P : Nat → Int} {th : Int → Int} {i : Nat} (hw : pt_wo wr K V i = w) (h0 : 0 ≤ w) (h : th w = 0) (hf : 0 ≤ pt_FO wr w) (hk : K (i + 1) = 2) (hv : pt_FO wr w < V (i + 1)) : (pt_line wr K V P th i).1 = 4 + 16 * P (i + 1) := by
  unfold pt_line pt_ln2
  rw [hw, if_neg (by omega), if_neg (fun z => z h), if_neg (by omega), if_neg (by omega), if_neg (fun z => z hk), if_pos hv]
theorem pt_line_nn {wr w : Int} {K V P : Nat → Int} {th : Int → Int} {i : Nat} (hw : pt_wo wr K V i = w) (h0 : 0 ≤ w) (h : th w = 0) (hf : 0 ≤ pt_FO wr w) (hk : K (i + 1) = 2) (hv : ¬ pt_FO wr w < V (i + 1)) (hs : K (i + 2) = 3 ∧ V (i + 2) = 59) : pt_line wr K V P th i = (0, (i : Int) + 3, w, [], V (i + 1)) := by
  unfold pt_line pt_ln2
  rw [hw, if_neg (by omega), if_neg (fun z => z h), if_neg (by omega), if_neg (by omega), if_neg (fun z => z hk), if_neg hv, if_pos hs]
theorem pt_line_ns {wr w : Int} {K V P : Nat → Int} {th : Int → Int} {i : Nat} (hw : pt_wo wr K V i = w) (h0 : 0 ≤ w) (h : th w = 0) (hf : 0 ≤ pt_FO wr w) (hk : K (i + 1) = 2) (hv : ¬ pt_FO wr w < V (i + 1)) (hs : ¬ (K (i + 2) = 3 ∧ V (i + 2) = 59)) : (pt_line wr K V P th i).1 = 1 + 16 * P (i + 2) := by
  unfold pt_line pt_ln2
  rw [hw, if_neg (by omega), if_neg (fun z => z h), if_neg (by omega), if_neg (by omega), if_neg (fun z => z hk), if_neg hv, if_neg hs]
/-- a text from token i on: fault, which lines are there, their codes and numerals -/
def pt_text (wr : Int) (K V P : Nat → Int) : Nat → Int → (Int → Int) → (Int → List Int) → (Int → Int) → Int × (Int → Int) × (Int → List Int) × (Int → Int)
  | 0, _, th, C, N => (0, th, C, N)
  | m + 1, i, th, C, N =>
    if K i.toNat = 0 then (0, th, C, N)
    else if (pt_line wr K V P th i.toNat).1 ≠ 0 then ((pt_line wr K V P th i.toNat).1, th, C, N)
    else pt_text wr K V P m (pt_line wr K V P th i.toNat).2.1 (fun k => if k = (pt_line wr K V P th i.toNat).2.2.1 then 1 else th k) (fun k => if k = (pt_line wr K V P th i.toNat).2.2.1 then (pt_line wr K V P th i.toNat).2.2.2.1 else C k) (fun k => if k = (pt_line wr K V P th i.toNat).2.2.1 then (pt_line wr K V P th i.toNat).2.2.2.2 else N k)
/-- a line's code as the model keeps it, and the lines read so far -/
def pt_SG (h : pm_H) (b : Int) (c : List Int) : Prop := pt_cl h (4400 + b).toNat c ∧ pw_g h 146 (4400 + b + c.length).toNat = 0 ∧ b + c.length < pw_g h 125 32
def pt_ML (h : pm_H) (th : Int → Int) (C : Int → List Int) : Prop := ∀ k : Int, 0 ≤ k → k ≤ 3 → (th k = 1 ∧ 0 ≤ pw_g h 145 (16 + k).toNat ∧ pt_SG h (pw_g h 145 (16 + k).toNat) (C k)) ∨ (th k = 0 ∧ pw_g h 145 (16 + k).toNat < 0)
theorem pt_ML.add {h g : pm_H} {th : Int → Int} {C : Int → List Int} {w b : Int} {c : List Int} (H : pt_ML h th C) (w0 : 0 ≤ w) (w3 : w ≤ 3) (e1 : ∀ k : Nat, k ≠ (16 + w).toNat → pw_g g 145 k = pw_g h 145 k) (e2 : pw_g g 145 (16 + w).toNat = b) (b0 : 0 ≤ b) (hs : ∀ j : Nat, (j : Int) < 4400 + pw_g h 125 32 → pw_g g 146 j = pw_g h 146 j ∧ pw_g g 147 j = pw_g h 147 j) (sg : pt_SG g b c) (hc : pw_g h 125 32 ≤ pw_g g 125 32) : pt_ML g (fun k => if k = w then 1 else th k) (fun k => if k = w then c else C k) := by
  intro k h0 h3
  dsimp only
  by_cases q : k = w
  · rw [if_pos q, if_pos q, q, e2]
    exact Or.inl ⟨rfl, b0, sg⟩
  · rw [if_neg q, if_neg q, e1 _ (by omega)]
    rcases H k h0 h3 with ⟨a1, a2, a3, a4, a5⟩ | a
    · refine Or.inl ⟨a1, a2, a3.cg (fun j hj => hs _ (by omega)), ?_, by omega⟩
      rw [(hs _ (by omega)).1]
      exact a4
    · exact Or.inr a
end
section
/-! where a fault is there, nothing is done -/
theorem cm_256_z {X : List (Nat × List Value)} {d : Nat} {h : pm_H} (hd : 2 ≤ d) (I : pw_I h) (ch : Int) (hch1 : (-2147483648) ≤ ch) (hch2 : ch ≤ 2147483647) (n : Nat) (hp0 : pw_A n h) (hp1 : pw_g h 125 8 ≠ 0) : pw X d h 256 0 [some (.ref 141), some (pw_i ch), none] [] (fun h' v => h = h' ∧ ∃ a : Int, v = .inl (some (pw_i a)) ∧ 0 ≤ a ∧ a ≤ 0) := by
  refine pw_mono (cm_256 hd I hp0 ch hch1 hch2) ?_
  rintro h' v ⟨a, rfl, ha, hq⟩
  have hz : pw_sg h ch = 0 := if_neg (fun q => hp1 q.1)
  rcases hq with ⟨q, e⟩ | ⟨q, -⟩
  · exact ⟨e, a, rfl, by omega, by omega⟩
  · exfalso; omega
theorem cm_254_z {X : List (Nat × List Value)} {d : Nat} {h : pm_H} (hd : 1 ≤ d) (I : pw_I h) (ch : Int) (hch1 : (-2147483648) ≤ ch) (hch2 : ch ≤ 2147483647) (n : Nat) (hp0 : pw_A n h) (hp1 : pw_g h 125 8 ≠ 0) : pw X d h 254 0 [some (.ref 141), some (pw_i ch)] [] (fun h' v => h = h' ∧ ∃ a : Int, v = .inl (some (pw_i a)) ∧ 0 ≤ a ∧ a ≤ 0) := by
  refine pw_mono (cm_254 hd I ch hch1 hch2) ?_
  rintro h' v ⟨e, a, rfl, h0, h1, ha, -⟩
  have hz : pw_sg h ch = 0 := if_neg (fun q => hp1 q.1)
  exact ⟨e, a, rfl, by omega, by omega⟩
theorem cm_244_z {X : List (Nat × List Value)} {d : Nat} {h : pm_H} (hd : 1 ≤ d) (I : pw_I h) (wd : Int) (hwd1 : 0 ≤ wd) (hwd2 : wd ≤ 27) (n : Nat) (hp0 : pw_A n h) (hp1 : pw_g h 125 8 ≠ 0) : pw X d h 244 0 [some (.ref 141), some (pw_i wd)] [] (fun h' v => h = h' ∧ ∃ a : Int, v = .inl (some (pw_i a)) ∧ 0 ≤ a ∧ a ≤ 0) := by
  refine pw_mono (cm_244 hd I wd hwd1 hwd2) ?_
  rintro h' v ⟨e, a, rfl, h0, h1, ha, -⟩
  have hz : pw_wd h wd = 0 := if_neg (fun q => hp1 q.1)
  exact ⟨e, a, rfl, by omega, by omega⟩
set_option maxHeartbeats 4000000 in
theorem cm_252_z {X : List (Nat × List Value)} {d : Nat} {h : pm_H} (hd : 28 ≤ d) (I : pw_I h) (dp : Int) (hdp1 : 0 ≤ dp) (hdp2 : dp ≤ 5) (n : Nat) (hp0 : pw_A n h) (hp1 : pw_g h 125 8 ≠ 0) : pw X d h 252 0 [some (.ref 141), some (pw_i dp), none, none] [] (fun h' v => h = h' ∧ v = .inl none) := by
  have E : pm_ent 252 = some (2, 4, 12, 4, pmc_252) := rfl
  have hA0 := hp0.2.2
  refine pw_ld E (pc' := 1) (st' := [.ref 141]) rfl (fun _ => rfl) ?_
  refine pw_getI2 I E (c := 125) (k := 8) (pc' := 4) rfl rfl rfl rfl rfl rfl (fun hf1a hf1b => ?_)
  refine pw_if E (pc' := 8) rfl (by decide) (by omega) (by omega) ?_ ?_
  · intro hc2
    change pw_g h 125 8 ≤ (0 : Int) at hc2
    exfalso; omega
  · intro hc3
    change ¬ (pw_g h 125 8 ≤ (0 : Int)) at hc3
    refine pw_vret E rfl ?_
    exact ⟨rfl, rfl⟩
set_option maxHeartbeats 4000000 in
theorem cm_251_z {X : List (Nat × List Value)} {d : Nat} {h : pm_H} (hd : 29 ≤ d) (I : pw_I h) (dp : Int) (hdp1 : 0 ≤ dp) (hdp2 : dp ≤ 5) (n : Nat) (hp0 : pw_A n h) (hp1 : pw_g h 125 8 ≠ 0) : pw X d h 251 0 [some (.ref 141), some (pw_i dp)] [] (fun h' v => h = h' ∧ v = .inl none) := by
  have E : pm_ent 251 = some (2, 2, 12, 4, pmc_251) := rfl
  have hA0 := hp0.2.2
  refine pw_ld E (pc' := 1) (st' := [.ref 141]) rfl (fun _ => rfl) ?_
  refine pw_ld E (pc' := 2) (st' := [pw_i dp, .ref 141]) rfl (fun _ => rfl) ?_
  obtain ⟨f1l, f1h, -⟩ := pw_obj (c := 125) I rfl
  refine pw_call (m' := 252) (As := [.ref 141, pw_i dp]) (rest := []) (ls'' := [some (.ref 141), some (pw_i dp), none, none]) (Nat.le_trans (by decide) hd) E rfl (fun _ => pw_iV rfl rfl rfl rfl (pw_cellI f1h rfl)) (rfl : pm_ent 252 = some (2, 4, 12, 4, pmc_252)) rfl rfl (cm_252_z (pw_dp hd (by decide)) I (dp) (by omega) (by omega) n hp0 hp1) ?_
  rintro u3 v2 ⟨rfl, rfl⟩
  refine ⟨_, rfl, ?_⟩
  show pw X d h 251 5 [some (.ref 141), some (pw_i dp)] [] _
  refine pw_ld E (pc' := 6) (st' := [.ref 141]) rfl (fun _ => rfl) ?_
  refine pw_bip E (pc' := 8) rfl rfl (by decide) ?_
  obtain ⟨f4l, f4h, -⟩ := pw_obj (c := 125) I rfl
  refine pw_call (m' := 256) (As := [.ref 141, pw_i 42]) (rest := []) (ls'' := [some (.ref 141), some (pw_i 42), none]) (Nat.le_trans (by decide) hd) E rfl (fun _ => pw_iV rfl rfl rfl rfl (pw_cellI f4h rfl)) (rfl : pm_ent 256 = some (2, 3, 12, 1, pmc_256)) rfl rfl (cm_256_z (pw_dp hd (by decide)) I (42) (by omega) (by omega) n hp0 hp1) ?_
  rintro u6 v5 ⟨rfl, x7, rfl, hx7a, hx7b⟩
  refine ⟨_, rfl, ?_⟩
  show pw X d h 251 11 [some (.ref 141), some (pw_i dp)] [pw_i x7] _
  refine pw_if E (pc' := 29) rfl (by decide) (by omega) (by omega) ?_ ?_
  · intro hc8
    change x7 = (0 : Int) at hc8
    refine pw_vret E rfl ?_
    exact ⟨rfl, rfl⟩
  · intro hc9
    change ¬ (x7 = (0 : Int)) at hc9
    exfalso; omega
set_option maxHeartbeats 4000000 in
theorem cm_250_z {X : List (Nat × List Value)} {d : Nat} {h : pm_H} (hd : 30 ≤ d) (I : pw_I h) (dp : Int) (hdp1 : 0 ≤ dp) (hdp2 : dp ≤ 5) (n : Nat) (hp0 : pw_A n h) (hp1 : pw_g h 125 8 ≠ 0) : pw X d h 250 0 [some (.ref 141), some (pw_i dp), none] [] (fun h' v => h = h' ∧ v = .inl none) := by
  have E : pm_ent 250 = some (2, 3, 12, 4, pmc_250) := rfl
  have hA0 := hp0.2.2
  refine pw_ld E (pc' := 1) (st' := [.ref 141]) rfl (fun _ => rfl) ?_
  refine pw_ld E (pc' := 2) (st' := [pw_i dp, .ref 141]) rfl (fun _ => rfl) ?_
  obtain ⟨f1l, f1h, -⟩ := pw_obj (c := 125) I rfl
  refine pw_call (m' := 251) (As := [.ref 141, pw_i dp]) (rest := []) (ls'' := [some (.ref 141), some (pw_i dp)]) (Nat.le_trans (by decide) hd) E rfl (fun _ => pw_iV rfl rfl rfl rfl (pw_cellI f1h rfl)) (rfl : pm_ent 251 = some (2, 2, 12, 4, pmc_251)) rfl rfl (cm_251_z (pw_dp hd (by decide)) I (dp) (by omega) (by omega) n hp0 hp1) ?_
  rintro u3 v2 ⟨rfl, rfl⟩
  refine ⟨_, rfl, ?_⟩
  show pw X d h 250 5 [some (.ref 141), some (pw_i dp), none] [] _
  refine pw_ld E (pc' := 6) (st' := [.ref 141]) rfl (fun _ => rfl) ?_
  refine pw_bip E (pc' := 8) rfl rfl (by decide) ?_
  obtain ⟨f4l, f4h, -⟩ := pw_obj (c := 125) I rfl
  refine pw_call (m' := 254) (As := [.ref 141, pw_i 43]) (rest := []) (ls'' := [some (.ref 141), some (pw_i 43)]) (Nat.le_trans (by decide) hd) E rfl (fun _ => pw_iV rfl rfl rfl rfl (pw_cellI f4h rfl)) (rfl : pm_ent 254 = some (2, 2, 12, 1, pmc_254)) rfl rfl (cm_254_z (pw_dp hd (by decide)) I (43) (by omega) (by omega) n hp0 hp1) ?_
  rintro u6 v5 ⟨rfl, x7, rfl, hx7a, hx7b⟩
  refine ⟨_, rfl, ?_⟩
  show pw X d h 250 11 [some (.ref 141), some (pw_i dp), none] [pw_i x7] _
  refine pw_if E (pc' := 23) rfl (by decide) (by omega) (by omega) ?_ ?_
  · intro hc8
    change x7 ≠ (0 : Int) at hc8
    exfalso; omega
  · intro hc9
    change ¬ (x7 ≠ (0 : Int)) at hc9
    refine pw_ld E (pc' := 15) (st' := [.ref 141]) rfl (fun _ => rfl) ?_
    refine pw_bip E (pc' := 17) rfl rfl (by decide) ?_
    obtain ⟨f10l, f10h, -⟩ := pw_obj (c := 125) I rfl
    refine pw_call (m' := 254) (As := [.ref 141, pw_i 45]) (rest := []) (ls'' := [some (.ref 141), some (pw_i 45)]) (Nat.le_trans (by decide) hd) E rfl (fun _ => pw_iV rfl rfl rfl rfl (pw_cellI f10h rfl)) (rfl : pm_ent 254 = some (2, 2, 12, 1, pmc_254)) rfl rfl (cm_254_z (pw_dp hd (by decide)) I (45) (by omega) (by omega) n hp0 hp1) ?_
    rintro u12 v11 ⟨rfl, x13, rfl, hx13a, hx13b⟩
    refine ⟨_, rfl, ?_⟩
    show pw X d h 250 20 [some (.ref 141), some (pw_i dp), none] [pw_i x13] _
    refine pw_if E (pc' := 62) rfl (by decide) (by omega) (by omega) ?_ ?_
    · intro hc14
      change x13 = (0 : Int) at hc14
      refine pw_vret E rfl ?_
      exact ⟨rfl, rfl⟩
    · intro hc15
      change ¬ (x13 = (0 : Int)) at hc15
      exfalso; omega
set_option maxHeartbeats 4000000 in
theorem cm_249_z {X : List (Nat × List Value)} {d : Nat} {h : pm_H} (hd : 31 ≤ d) (I : pw_I h) (dp : Int) (hdp1 : 0 ≤ dp) (hdp2 : dp ≤ 5) (n : Nat) (hp0 : pw_A n h) (hp1 : pw_g h 125 8 ≠ 0) : pw X d h 249 0 [some (.ref 141), some (pw_i dp), none] [] (fun h' v => h = h' ∧ v = .inl none) := by
  have E : pm_ent 249 = some (2, 3, 12, 4, pmc_249) := rfl
  have hA0 := hp0.2.2
  refine pw_ld E (pc' := 1) (st' := [.ref 141]) rfl (fun _ => rfl) ?_
  refine pw_ld E (pc' := 2) (st' := [pw_i dp, .ref 141]) rfl (fun _ => rfl) ?_
  obtain ⟨f1l, f1h, -⟩ := pw_obj (c := 125) I rfl
  refine pw_call (m' := 250) (As := [.ref 141, pw_i dp]) (rest := []) (ls'' := [some (.ref 141), some (pw_i dp), none]) (Nat.le_trans (by decide) hd) E rfl (fun _ => pw_iV rfl rfl rfl rfl (pw_cellI f1h rfl)) (rfl : pm_ent 250 = some (2, 3, 12, 4, pmc_250)) rfl rfl (cm_250_z (pw_dp hd (by decide)) I (dp) (by omega) (by omega) n hp0 hp1) ?_
  rintro u3 v2 ⟨rfl, rfl⟩
  refine ⟨_, rfl, ?_⟩
  show pw X d h 249 5 [some (.ref 141), some (pw_i dp), none] [] _
  refine pw_ld E (pc' := 6) (st' := [.ref 141]) rfl (fun _ => rfl) ?_
  refine pw_bip E (pc' := 8) rfl rfl (by decide) ?_
  obtain ⟨f4l, f4h, -⟩ := pw_obj (c := 125) I rfl
  refine pw_call (m' := 254) (As := [.ref 141, pw_i 60]) (rest := []) (ls'' := [some (.ref 141), some (pw_i 60)]) (Nat.le_trans (by decide) hd) E rfl (fun _ => pw_iV rfl rfl rfl rfl (pw_cellI f4h rfl)) (rfl : pm_ent 254 = some (2, 2, 12, 1, pmc_254)) rfl rfl (cm_254_z (pw_dp hd (by decide)) I (60) (by omega) (by omega) n hp0 hp1) ?_
  rintro u6 v5 ⟨rfl, x7, rfl, hx7a, hx7b⟩
  refine ⟨_, rfl, ?_⟩
  show pw X d h 249 11 [some (.ref 141), some (pw_i dp), none] [pw_i x7] _
  refine pw_istn E (pc' := 12) (ls' := [some (.ref 141), some (pw_i dp), some (pw_i x7)]) rfl rfl rfl rfl ?_
  refine pw_ld E (pc' := 13) (st' := [.ref 141]) rfl (fun _ => rfl) ?_
  refine pw_bip E (pc' := 15) rfl rfl (by decide) ?_
  obtain ⟨f8l, f8h, -⟩ := pw_obj (c := 125) I rfl
  refine pw_call (m' := 256) (As := [.ref 141, pw_i 60]) (rest := []) (ls'' := [some (.ref 141), some (pw_i 60), none]) (Nat.le_trans (by decide) hd) E rfl (fun _ => pw_iV rfl rfl rfl rfl (pw_cellI f8h rfl)) (rfl : pm_ent 256 = some (2, 3, 12, 1, pmc_256)) rfl rfl (cm_256_z (pw_dp hd (by decide)) I (60) (by omega) (by omega) n hp0 hp1) ?_
  rintro u10 v9 ⟨rfl, x11, rfl, hx11a, hx11b⟩
  refine ⟨_, rfl, ?_⟩
  show pw X d h 249 18 [some (.ref 141), some (pw_i dp), some (pw_i x7)] [pw_i x11] _
  refine pw_if E (pc' := 30) rfl (by decide) (by omega) (by omega) ?_ ?_
  · intro hc12
    change x11 ≠ (0 : Int) at hc12
    exfalso; omega
  · intro hc13
    change ¬ (x11 ≠ (0 : Int)) at hc13
    refine pw_ld E (pc' := 22) (st' := [.ref 141]) rfl (fun _ => rfl) ?_
    refine pw_bip E (pc' := 24) rfl rfl (by decide) ?_
    obtain ⟨f14l, f14h, -⟩ := pw_obj (c := 125) I rfl
    refine pw_call (m' := 256) (As := [.ref 141, pw_i 61]) (rest := []) (ls'' := [some (.ref 141), some (pw_i 61), none]) (Nat.le_trans (by decide) hd) E rfl (fun _ => pw_iV rfl rfl rfl rfl (pw_cellI f14h rfl)) (rfl : pm_ent 256 = some (2, 3, 12, 1, pmc_256)) rfl rfl (cm_256_z (pw_dp hd (by decide)) I (61) (by omega) (by omega) n hp0 hp1) ?_
    rintro u16 v15 ⟨rfl, x17, rfl, hx17a, hx17b⟩
    refine ⟨_, rfl, ?_⟩
    show pw X d h 249 27 [some (.ref 141), some (pw_i dp), some (pw_i x7)] [pw_i x17] _
    refine pw_if E (pc' := 51) rfl (by decide) (by omega) (by omega) ?_ ?_
    · intro hc18
      change x17 = (0 : Int) at hc18
      refine pw_vret E rfl ?_
      exact ⟨rfl, rfl⟩
    · intro hc19
      change ¬ (x17 = (0 : Int)) at hc19
      exfalso; omega
set_option maxHeartbeats 4000000 in
theorem cm_248_z {X : List (Nat × List Value)} {d : Nat} {h : pm_H} (hd : 32 ≤ d) (I : pw_I h) (dp : Int) (hdp1 : 0 ≤ dp) (hdp2 : dp ≤ 5) (n : Nat) (hp0 : pw_A n h) (hp1 : pw_g h 125 8 ≠ 0) : pw X d h 248 0 [some (.ref 141), some (pw_i dp), none] [] (fun h' v => h = h' ∧ v = .inl none) := by
  have E : pm_ent 248 = some (2, 3, 12, 4, pmc_248) := rfl
  have hA0 := hp0.2.2
  refine pw_ld E (pc' := 1) (st' := [.ref 141]) rfl (fun _ => rfl) ?_
  refine pw_ld E (pc' := 2) (st' := [pw_i dp, .ref 141]) rfl (fun _ => rfl) ?_
  obtain ⟨f1l, f1h, -⟩ := pw_obj (c := 125) I rfl
  refine pw_call (m' := 249) (As := [.ref 141, pw_i dp]) (rest := []) (ls'' := [some (.ref 141), some (pw_i dp), none]) (Nat.le_trans (by decide) hd) E rfl (fun _ => pw_iV rfl rfl rfl rfl (pw_cellI f1h rfl)) (rfl : pm_ent 249 = some (2, 3, 12, 4, pmc_249)) rfl rfl (cm_249_z (pw_dp hd (by decide)) I (dp) (by omega) (by omega) n hp0 hp1) ?_
  rintro u3 v2 ⟨rfl, rfl⟩
  refine ⟨_, rfl, ?_⟩
  show pw X d h 248 5 [some (.ref 141), some (pw_i dp), none] [] _
  refine pw_ld E (pc' := 6) (st' := [.ref 141]) rfl (fun _ => rfl) ?_
  refine pw_ld E (pc' := 7) (st' := [pw_i 5, .ref 141]) rfl (fun _ => rfl) ?_
  obtain ⟨f4l, f4h, -⟩ := pw_obj (c := 125) I rfl
  refine pw_call (m' := 244) (As := [.ref 141, pw_i 5]) (rest := []) (ls'' := [some (.ref 141), some (pw_i 5)]) (Nat.le_trans (by decide) hd) E rfl (fun _ => pw_iV rfl rfl rfl rfl (pw_cellI f4h rfl)) (rfl : pm_ent 244 = some (2, 2, 12, 1, pmc_244)) rfl rfl (cm_244_z (pw_dp hd (by decide)) I (5) (by omega) (by omega) n hp0 hp1) ?_
  rintro u6 v5 ⟨rfl, x7, rfl, hx7a, hx7b⟩
  refine ⟨_, rfl, ?_⟩
  show pw X d h 248 10 [some (.ref 141), some (pw_i dp), none] [pw_i x7] _
  refine pw_if E (pc' := 22) rfl (by decide) (by omega) (by omega) ?_ ?_
  · intro hc8
    change x7 ≠ (0 : Int) at hc8
    exfalso; omega
  · intro hc9
    change ¬ (x7 ≠ (0 : Int)) at hc9
    refine pw_ld E (pc' := 14) (st' := [.ref 141]) rfl (fun _ => rfl) ?_
    refine pw_bip E (pc' := 16) rfl rfl (by decide) ?_
    obtain ⟨f10l, f10h, -⟩ := pw_obj (c := 125) I rfl
    refine pw_call (m' := 244) (As := [.ref 141, pw_i 6]) (rest := []) (ls'' := [some (.ref 141), some (pw_i 6)]) (Nat.le_trans (by decide) hd) E rfl (fun _ => pw_iV rfl rfl rfl rfl (pw_cellI f10h rfl)) (rfl : pm_ent 244 = some (2, 2, 12, 1, pmc_244)) rfl rfl (cm_244_z (pw_dp hd (by decide)) I (6) (by omega) (by omega) n hp0 hp1) ?_
    rintro u12 v11 ⟨rfl, x13, rfl, hx13a, hx13b⟩
    refine ⟨_, rfl, ?_⟩
    show pw X d h 248 19 [some (.ref 141), some (pw_i dp), none] [pw_i x13] _
    refine pw_if E (pc' := 62) rfl (by decide) (by omega) (by omega) ?_ ?_
    · intro hc14
      change x13 = (0 : Int) at hc14
      refine pw_vret E rfl ?_
      exact ⟨rfl, rfl⟩
    · intro hc15
      change ¬ (x13 = (0 : Int)) at hc15
      exfalso; omega
end
section
/-! a line of the model, exactly -/
set_option maxHeartbeats 4000000 in
theorem cm_243_t {X : List (Nat × List Value)} {d : Nat} {h : pm_H} (hd : 33 ≤ d) (I : pw_I h) (n : Nat) (K V P : Nat → Int) (th : Int → Int) (C : Int → List Int) (hp0 : pw_A n h) (hp1 : pw_g h 125 32 ≤ pw_g h 125 7) (hp2 : pt_TK K V P 0 h) (hp3 : ∀ j : Nat, j < n → K j = 2 → 0 ≤ V j ∧ V j ≤ 9999) (hp4 : pw_g h 125 8 = 0) (hp5 : K (pw_g h 125 7).toNat ≠ 0) (hp6 : pt_ML h th C) : pw X d h 243 0 [some (.ref 141), none, none] [] (fun h' v => pw_I h' ∧ pw_E [125, 145, 146, 147] h h' ∧ (pt_TK K V P 0 h' ∧ ((pw_g h' 125 8 ≠ 0 ∧ (pt_line 0 K V P th (pw_g h 125 7).toNat).1 = pw_g h' 125 8) ∨ (pw_g h' 125 8 = 0 ∧ (pt_line 0 K V P th (pw_g h 125 7).toNat).1 = 0 ∧ pw_g h' 125 7 = (pt_line 0 K V P th (pw_g h 125 7).toNat).2.1 ∧ pt_ML h' (fun k => if k = (pt_line 0 K V P th (pw_g h 125 7).toNat).2.2.1 then 1 else th k) (fun k => if k = (pt_line 0 K V P th (pw_g h 125 7).toNat).2.2.1 then (pt_line 0 K V P th (pw_g h 125 7).toNat).2.2.2.1 else C k)))) ∧ (v = .inl none)) := by
  have E : pm_ent 243 = some (1, 3, 12, 4, pmc_243) := rfl
  have E0 : pw_E [125, 145, 146, 147] h h := pw_E.rf _ _
  have hn1 : n ≤ 1000 := hp0.1
  have hA0 := hp0.2.2
  refine pw_ld E (pc' := 1) (st' := [pw_i ((-1))]) rfl (fun _ => rfl) ?_
  refine pw_istn E (pc' := 2) (ls' := [some (.ref 141), some (pw_i ((-1))), none]) rfl rfl rfl rfl ?_
  refine pw_ld E (pc' := 3) (st' := [pw_i 0]) rfl (fun _ => rfl) ?_
  refine pw_istn E (pc' := 4) (ls' := [some (.ref 141), some (pw_i ((-1))), some (pw_i 0)]) rfl rfl rfl rfl ?_
  have L4 : ∀ (n4 : Nat) (k4_1 : Int) (k4_2 : Int), (-1) ≤ k4_1 → k4_1 ≤ 3 → 0 ≤ k4_2 → k4_2 ≤ 4 → pt_fI (pw_g h 125 8) (K (pw_g h 125 7).toNat) (fun k => pt_wc k) (V (pw_g h 125 7).toNat) (k4_2) (k4_1) → (4 - k4_2).toNat = n4 → pw X d h 243 4 [some (.ref 141), some (pw_i k4_1), some (pw_i k4_2)] [] (fun h' v => pw_I h' ∧ pw_E [125, 145, 146, 147] h h' ∧ (pt_TK K V P 0 h' ∧ ((pw_g h' 125 8 ≠ 0 ∧ (pt_line 0 K V P th (pw_g h 125 7).toNat).1 = pw_g h' 125 8) ∨ (pw_g h' 125 8 = 0 ∧ (pt_line 0 K V P th (pw_g h 125 7).toNat).1 = 0 ∧ pw_g h' 125 7 = (pt_line 0 K V P th (pw_g h 125 7).toNat).2.1 ∧ pt_ML h' (fun k => if k = (pt_line 0 K V P th (pw_g h 125 7).toNat).2.2.1 then 1 else th k) (fun k => if k = (pt_line 0 K V P th (pw_g h 125 7).toNat).2.2.1 then (pt_line 0 K V P th (pw_g h 125 7).toNat).2.2.2.1 else C k)))) ∧ (v = .inl none)) := by
    intro n4
    induction n4 using Nat.strongRecOn with
    | ind n4 ih4 =>
      intro k4_1 k4_2 k4_1a k4_1b k4_2a k4_2b hx4_0 hm4
      refine pw_ld E (pc' := 5) (st' := [pw_i k4_2]) rfl (fun _ => rfl) ?_
      refine pw_ld E (pc' := 6) (st' := [pw_i 3, pw_i k4_2]) rfl (fun _ => rfl) ?_
      refine pw_if2 E (pc' := 29) rfl (by decide) (by omega) (by omega) (by decide) (by decide) ?_ ?_
      · intro hc1
        change (3 : Int) < k4_2 at hc1
        have hw : pt_wo 0 K V (pw_g h 125 7).toNat = k4_1 := by
          rw [show k4_2 = 4 by omega] at hx4_0
          unfold pt_wo pt_LW
          rw [if_pos rfl]
          by_cases q : K (pw_g h 125 7).toNat = 1
          · rw [if_pos q]; exact (hx4_0.1 ⟨hp4, q⟩).symm
          · rw [if_neg q]; exact (hx4_0.2 (fun z => q z.2)).symm
        have hat0 : (((pw_g h 125 7).toNat : Nat) : Int) = pw_g h 125 7 := by omega
        refine pw_ld E (pc' := 30) (st' := [pw_i k4_1]) rfl (fun _ => rfl) ?_
        refine pw_if E (pc' := 41) rfl (by decide) (by omega) (by omega) ?_ ?_
        · intro hc2
          change (0 : Int) ≤ k4_1 at hc2
          refine pw_ld E (pc' := 42) (st' := [.ref 141]) rfl (fun _ => rfl) ?_
          refine pw_getR (b := 161) I E (c := 125) (k := 31) (pc' := 45) rfl rfl rfl rfl rfl rfl rfl ?_
          refine pw_bip E (pc' := 47) rfl rfl (by decide) ?_
          refine pw_ld E (pc' := 48) (st' := [pw_i k4_1, pw_i 16, .ref 161]) rfl (fun _ => rfl) ?_
          refine pw_add E (pc' := 49) rfl rfl ?_
          refine pw_ald2 I E (c := 145) (pc' := 50) rfl rfl rfl (by decide) rfl (by decide) (by omega) (by omega) rfl (fun hf3a hf3b => ?_)
          have hml := hp6 k4_1 (by omega) (by omega)
          refine pw_if E (pc' := 58) rfl (by decide) (by omega) (by omega) ?_ ?_
          · intro hc4
            change pw_g h 145 ((16 + k4_1).toNat) < (0 : Int) at hc4
            have hth : th k4_1 = 0 := by rcases hml with ⟨-, q, -⟩ | ⟨q, -⟩ <;> first | exact q | omega
            refine pw_ld E (pc' := 59) (st' := [.ref 141]) rfl (fun _ => rfl) ?_
            refine pw_getI2 I E (c := 125) (k := 8) (pc' := 62) rfl rfl rfl rfl rfl rfl (fun hf5a hf5b => ?_)
            refine pw_if E (pc' := 66) rfl (by decide) (by omega) (by omega) ?_ ?_
            · intro hc6
              change pw_g h 125 8 ≤ (0 : Int) at hc6
              have hk1 : K (pw_g h 125 7).toNat = 1 := Classical.byContradiction (fun q => by have z : pt_wo 0 K V (pw_g h 125 7).toNat = -1 := if_neg q; omega)
              have hlt := pw_A.lt hp0 (by rw [hp2.1, hk1]; decide)
              refine pw_ld E (pc' := 67) (st' := [.ref 141]) rfl (fun _ => rfl) ?_
              refine pw_ld E (pc' := 68) (st' := [.ref 141, .ref 141]) rfl (fun _ => rfl) ?_
              refine pw_getI2 I E (c := 125) (k := 7) (pc' := 71) rfl rfl rfl rfl rfl rfl (fun hf7a hf7b => ?_)
              refine pw_ld E (pc' := 72) (st' := [pw_i 1, pw_i (pw_g h 125 7), .ref 141]) rfl (fun _ => rfl) ?_
              refine pw_add E (pc' := 73) rfl rfl ?_
              refine pw_putI I E (c := 125) (k := 7) (pc' := 76) rfl rfl rfl rfl (by omega) (by omega) (by omega) (by omega) rfl rfl ?_
              intro h8I h8E
              generalize h8w : pw_w h 125 7 (pw_i ((pw_g h 125 7) + 1)) = h8 at h8I h8E ⊢
              have h8F := E0.tr (h8E.wk (W' := [125, 145, 146, 147]) (by first | rfl | simp))
              have h87 : pw_g h8 125 7 = pw_g h 125 7 + 1 := by rw [← h8w]; exact pw_g_eq (c := 125) (k := 7) I rfl rfl (by omega) (by omega)
              have h88 : pw_g h8 125 8 = pw_g h 125 8 := by rw [← h8w]; exact pw_g_ne (by omega)
              have h832 : pw_g h8 125 32 = pw_g h 125 32 := by rw [← h8w]; exact pw_g_ne (by omega)
              have h845 : pw_g h8 125 45 = pw_g h 125 45 := by rw [← h8w]; exact pw_g_ne (by omega)
              have tAw : pw_A n h8 := ⟨hn1, by rw [pw_Eg (c := 127) I h8E rfl rfl]; exact hp0.2.1, by omega, by omega, by omega, by omega⟩
              have tTw : pt_TK K V P 0 h8 := pt_TK.E I h8E hp2 rfl (by omega)
              have hq1 : pw_g h8 125 7 = pw_g h 125 7 + 1 := by omega
              have hc1 : pw_g h8 125 32 = pw_g h 125 32 := by omega
              have hz1 : pw_g h8 125 8 = 0 := by omega
              refine pw_ld E (pc' := 77) (st' := [pw_i k4_1]) rfl (fun _ => rfl) ?_
              refine pw_ld E (pc' := 78) (st' := [pw_i 1, pw_i k4_1]) rfl (fun _ => rfl) ?_
              refine pw_if2 E (pc' := 86) rfl (by decide) (by omega) (by omega) (by decide) (by decide) ?_ ?_
              · intro hc9
                change k4_1 ≤ (1 : Int) at hc9
                refine pw_ld E (pc' := 87) (st' := [.ref 141]) rfl (fun _ => rfl) ?_
                refine pw_getR (b := 161) h8I E (c := 125) (k := 31) (pc' := 90) rfl rfl rfl rfl rfl rfl rfl ?_
                refine pw_bip E (pc' := 92) rfl rfl (by decide) ?_
                refine pw_ld E (pc' := 93) (st' := [pw_i k4_1, pw_i 16, .ref 161]) rfl (fun _ => rfl) ?_
                refine pw_add E (pc' := 94) rfl rfl ?_
                refine pw_ld E (pc' := 95) (st' := [.ref 141, pw_i (16 + k4_1), .ref 161]) rfl (fun _ => rfl) ?_
                refine pw_getI2 h8I E (c := 125) (k := 32) (pc' := 98) rfl rfl rfl rfl rfl rfl (fun hf10a hf10b => ?_)
                have hb145 : ∀ j : Nat, pw_g h8 145 j = pw_g h 145 j := fun j => by rw [← h8w, pw_g_ne (by omega)]
                have hb146 : ∀ j : Nat, pw_g h8 146 j = pw_g h 146 j := fun j => by rw [← h8w, pw_g_ne (by omega)]
                have hb147 : ∀ j : Nat, pw_g h8 147 j = pw_g h 147 j := fun j => by rw [← h8w, pw_g_ne (by omega)]
                refine pw_ast0 h8I E (c := 145) (pc' := 99) rfl rfl rfl (by decide) rfl (by decide) (by omega) (by omega) rfl (by omega) (by omega) (by omega) (by omega) rfl ?_
                intro h11I h11E
                generalize h11w : pw_w h8 145 ((16 + k4_1).toNat) (pw_i (pw_g h8 125 32)) = h11 at h11I h11E ⊢
                have h11F := h8F.tr (h11E.wk (W' := [125, 145, 146, 147]) (by first | rfl | simp))
                have h117 : pw_g h11 125 7 = pw_g h8 125 7 := by rw [← h11w]; exact pw_g_ne (by omega)
                have h118 : pw_g h11 125 8 = pw_g h8 125 8 := by rw [← h11w]; exact pw_g_ne (by omega)
                have h1132 : pw_g h11 125 32 = pw_g h8 125 32 := by rw [← h11w]; exact pw_g_ne (by omega)
                have h1145 : pw_g h11 125 45 = pw_g h8 125 45 := by rw [← h11w]; exact pw_g_ne (by omega)
                have tAl : pw_A n h11 := ⟨hn1, by rw [pw_Eg (c := 127) h8I h11E rfl rfl]; exact tAw.2.1, by omega, by omega, by omega, by omega⟩
                have tTl : pt_TK K V P 0 h11 := pt_TK.E h8I h11E tTw rfl (by omega)
                have l1 : pw_g h11 145 (16 + k4_1).toNat = pw_g h8 125 32 := by rw [← h11w]; exact pw_g_eqA h8I rfl (by omega) (by omega) (by omega)
                have l2 : ∀ j : Nat, j ≠ (16 + k4_1).toNat → pw_g h11 145 j = pw_g h8 145 j := fun j hj => by rw [← h11w]; exact pw_g_ne (fun q => hj q.2.symm)
                have l3 : ∀ j : Nat, pw_g h11 146 j = pw_g h8 146 j ∧ pw_g h11 147 j = pw_g h8 147 j := fun j => ⟨by rw [← h11w]; exact pw_g_ne (by omega), by rw [← h11w]; exact pw_g_ne (by omega)⟩
                refine pw_ld E (pc' := 100) (st' := [.ref 141]) rfl (fun _ => rfl) ?_
                refine pw_ld E (pc' := 101) (st' := [pw_i 0, .ref 141]) rfl (fun _ => rfl) ?_
                have hC1 : pt_CD h11 (pw_g h11 125 32) [] := ⟨by omega, by show _ = _ + (0 : Int); omega, trivial⟩
                obtain ⟨f12l, f12h, -⟩ := pw_obj (c := 125) h11I rfl
                refine pw_call (m' := 248) (As := [.ref 141, pw_i 0]) (rest := []) (ls'' := [some (.ref 141), some (pw_i 0), none]) (Nat.le_trans (by decide) hd) E rfl (fun _ => pw_iV rfl rfl rfl rfl (pw_cellI f12h rfl)) (rfl : pm_ent 248 = some (2, 3, 12, 4, pmc_248)) rfl rfl (pw_and (pt_S248 (dp := 0) (by omega) (by omega) (by omega) h11I tAl (by omega)) (pt_C248_all n K V P 0 ([]) (0) (pw_g h11 125 32) ([]) (by omega) h11I tAl (by omega) tTl hp3 (by omega) (by omega) hC1 trivial (by decide))) ?_
                rintro h13 v14 ⟨⟨h13I, h13E, ⟨tAb, tRb⟩, rfl⟩, ⟨-, -, ⟨tTb, tMb⟩, -⟩⟩
                refine ⟨_, rfl, ?_⟩
                have h13F := h11F.tr (h13E.wk (W' := [125, 145, 146, 147]) (by first | rfl | simp))
                show pw X d h13 243 104 [some (.ref 141), some (pw_i k4_1), some (pw_i k4_2)] [] _
                have tBb := tAb.2.2
                have tCb := tRb.1.2.2.2.1
                have tDb := tRb.1.2.1
                have tGb := tRb.1.2.2.1
                refine pw_ld E (pc' := 105) (st' := [.ref 141]) rfl (fun _ => rfl) ?_
                refine pw_ld E (pc' := 106) (st' := [pw_i 0, .ref 141]) rfl (fun _ => rfl) ?_
                refine pw_ld E (pc' := 107) (st' := [pw_i 0, pw_i 0, .ref 141]) rfl (fun _ => rfl) ?_
                obtain ⟨f15l, f15h, -⟩ := pw_obj (c := 125) h13I rfl
                refine pw_call (m' := 255) (As := [.ref 141, pw_i 0, pw_i 0]) (rest := []) (ls'' := [some (.ref 141), some (pw_i 0), some (pw_i 0)]) (Nat.le_trans (by decide) hd) E rfl (fun _ => pw_iV rfl rfl rfl rfl (pw_cellI f15h rfl)) (rfl : pm_ent 255 = some (3, 3, 12, 4, pmc_255)) rfl rfl (cm_255_t (pw_dp hd (by decide)) h13I (0) (by omega) (by omega) (0) (by omega) (by omega) (by omega)) ?_
                rintro h16 v17 ⟨h16I, h16E, hqem, rfl⟩
                refine ⟨_, rfl, ?_⟩
                have h16F := h13F.tr (h16E.wk (W' := [125, 145, 146, 147]) (by first | rfl | simp))
                show pw X d h16 243 110 [some (.ref 141), some (pw_i k4_1), some (pw_i k4_2)] [] _
                have tE7 := hqem.1.1
                have tE8 := hqem.1.2.1
                have tE32 := hqem.1.2.2.1
                have tE45 := hqem.2
                have tAec : pw_A n h16 := ⟨hn1, by rw [pw_Eg (c := 127) h13I h16E rfl rfl]; exact tAb.2.1, by omega, by omega, by omega, by omega⟩
                have tTec : pt_TK K V P 0 h16 := pt_TK.E h13I h16E tTb rfl (by omega)
                refine pw_ld E (pc' := 111) (st' := [.ref 141]) rfl (fun _ => rfl) ?_
                refine pw_bip E (pc' := 113) rfl rfl (by decide) ?_
                obtain ⟨f18l, f18h, -⟩ := pw_obj (c := 125) h16I rfl
                refine pw_call (m' := 257) (As := [.ref 141, pw_i 59]) (rest := []) (ls'' := [some (.ref 141), some (pw_i 59)]) (Nat.le_trans (by decide) hd) E rfl (fun _ => pw_iV rfl rfl rfl rfl (pw_cellI f18h rfl)) (rfl : pm_ent 257 = some (2, 2, 12, 4, pmc_257)) rfl rfl (cm_257_t (pw_dp hd (by decide)) h16I (59) (by omega) (by omega) (by omega)) ?_
                rintro h19 v20 ⟨h19I, h19E, hqtk, rfl⟩
                refine ⟨_, rfl, ?_⟩
                have h19F := h16F.tr (h19E.wk (W' := [125, 145, 146, 147]) (by first | rfl | simp))
                show pw X d h19 243 116 [some (.ref 141), some (pw_i k4_1), some (pw_i k4_2)] [] _
                have w9 := pt_sgI tTec (ch := 59) (by decide) (by decide)
                have hw6 : pw_sg h16 59 = 1 → pw_g h16 125 7 < n := fun q => pw_A.lt tAec (by rw [tTec.1, (w9.resolve_right (fun z => by have := z.1; omega)).2.2.1]; decide)
                have hPz := pw_gA (c := 128) (j := pw_g h16 125 7) h16I rfl (by decide) (by omega) (by omega)
                have tAz : pw_A n h19 := ⟨hn1, by rw [pw_Eg (c := 127) h16I h19E rfl rfl]; exact tAec.2.1, by omega, by omega, by omega, by omega⟩
                have tTz : pt_TK K V P 0 h19 := pt_TK.E h16I h19E tTec rfl (by omega)
                refine pw_vret E rfl ?_
                have hLN := pt_line_E1 (P := P) hw (by omega) hth (by unfold pt_FO; rw [if_pos rfl, if_pos (by omega)])
                have hai : (pw_g h11 125 7).toNat = (pw_g h 125 7).toNat + 1 := by omega
                have hPl := pw_gA (c := 128) (j := pw_g h16 125 7) h16I rfl (by decide) (by omega) (by omega)
                rw [tTec.2.2.1] at hPl
                have hqw := hqtk.2.1
                rw [tTec.2.2.1] at hqw
                rcases tMb with ⟨z, f⟩ | ⟨z, c3, k3, m3⟩
                · have hE := pt_E_mf f
                  rw [hai] at hE
                  have n9 : pw_sg h16 59 ≠ 1 := fun q => by have := (w9.resolve_right (fun y => by have := y.1; omega)).2.1; omega
                  have z8 := (hqw n9).2.2 (by omega)
                  exact ⟨h19I, h19F, ⟨tTz, Or.inl ⟨by omega, by rw [hLN, hE]; show pw_g h13 125 8 = _; omega⟩⟩, rfl⟩
                · rcases w9 with ⟨y1, -, yk, yv⟩ | ⟨y0, yn⟩
                  · have e7 : pw_g h16 125 7 = pw_g h13 125 7 := by omega
                    rw [e7] at yk yv
                    have hE := pt_E_end (P := P) m3 (by omega) yk yv
                    rw [hai] at hE
                    obtain ⟨u7, u8⟩ := hqtk.1 y1
                    have q6 := tRb.1.2.2.2.2.2
                    have hsame : ∀ j : Nat, (j : Int) < 4400 + pw_g h 125 32 → pw_g h19 146 j = pw_g h 146 j ∧ pw_g h19 147 j = pw_g h 147 j := fun j hj => by
                      obtain ⟨a1, a2⟩ := q6 j (by omega)
                      obtain ⟨b1, b2⟩ := l3 j
                      obtain ⟨d1, d2⟩ := hqem.1.2.2.2.2.2 j (by omega)
                      rw [pw_Eg (c := 146) h16I h19E rfl rfl j, pw_Eg (c := 147) h16I h19E rfl rfl j, d1, d2, a1, a2, b1, b2, hb146, hb147]
                      exact ⟨rfl, rfl⟩
                    have h145 : ∀ k : Nat, k ≠ (16 + k4_1).toNat → pw_g h19 145 k = pw_g h 145 k := fun k hk => by rw [pw_Eg (c := 145) h16I h19E rfl rfl k, pw_Eg (c := 145) h13I h16E rfl rfl k, pw_Eg (c := 145) h11I h13E rfl rfl k, l2 k hk, hb145]
                    have h145w : pw_g h19 145 (16 + k4_1).toNat = pw_g h 125 32 := by rw [pw_Eg (c := 145) h16I h19E rfl rfl _, pw_Eg (c := 145) h13I h16E rfl rfl _, pw_Eg (c := 145) h11I h13E rfl rfl _, l1]; omega
                    have e32 : pw_g h11 125 32 = pw_g h 125 32 := by omega
                    rw [e32] at k3
                    have k3b := k3.2.1
                    have sg : pt_SG h19 (pw_g h 125 32) c3 := ⟨k3.2.2.cg (fun j hj => by obtain ⟨d1, d2⟩ := hqem.1.2.2.2.2.2 ((4400 + pw_g h 125 32).toNat + j) (by omega); rw [pw_Eg (c := 146) h16I h19E rfl rfl _, pw_Eg (c := 147) h16I h19E rfl rfl _]; exact ⟨d1, d2⟩), by rw [pw_Eg (c := 146) h16I h19E rfl rfl _, show 4400 + pw_g h 125 32 + (c3.length : Int) = 4400 + pw_g h13 125 32 by omega]; exact hqem.1.2.2.2.1, by omega⟩
                    have hML := hp6.add (by omega) (by omega) h145 h145w (by omega) hsame sg (by omega)
                    exact ⟨h19I, h19F, ⟨tTz, Or.inr ⟨by omega, by rw [hLN, hE], by rw [hLN, hE]; show pw_g h19 125 7 = pw_g h13 125 7 + 1; omega, by rw [hLN, hE]; exact hML⟩⟩, rfl⟩
                  · have e7 : pw_g h16 125 7 = pw_g h13 125 7 := by omega
                    obtain ⟨u7, u8, -⟩ := hqw (by omega)
                    have u8 := u8 (by omega)
                    rw [e7] at u8 yn
                    have hE := pt_E_mf (pt_GG.noend m3 (by omega) (fun q => yn ⟨by omega, q.1, q.2⟩) u8)
                    rw [hai] at hE
                    exact ⟨h19I, h19F, ⟨tTz, Or.inl ⟨by omega, by rw [hLN, hE]⟩⟩, rfl⟩
              · intro hc21
                change ¬ (k4_1 ≤ (1 : Int)) at hc21
                refine pw_ld E (pc' := 82) (st' := [.ref 141]) rfl (fun _ => rfl) ?_
                refine pw_ld E (pc' := 83) (st' := [pw_i 4, .ref 141]) rfl (fun _ => rfl) ?_
                obtain ⟨f22l, f22h, -⟩ := pw_obj (c := 125) h8I rfl
                refine pw_call (m' := 246) (As := [.ref 141, pw_i 4]) (rest := []) (ls'' := [some (.ref 141), some (pw_i 4)]) (Nat.le_trans (by decide) hd) E rfl (fun _ => pw_iV rfl rfl rfl rfl (pw_cellI f22h rfl)) (rfl : pm_ent 246 = some (2, 2, 12, 4, pmc_246)) rfl rfl (cm_246_t (pw_dp hd (by decide)) h8I (4) (by omega) (by omega) (by omega)) ?_
                rintro h23 v24 ⟨h23I, h23E, hqtk, rfl⟩
                refine ⟨_, rfl, ?_⟩
                have h23F := h8F.tr (h23E.wk (W' := [125, 145, 146, 147]) (by first | rfl | simp))
                show pw X d h23 243 86 [some (.ref 141), some (pw_i k4_1), some (pw_i k4_2)] [] _
                have w4 := pt_wdI tTw (w := 4) (by decide) (by decide)
                have hw5 : pw_wd h8 4 = 1 → pw_g h8 125 7 < n := fun q => pw_A.lt tAw (by rw [tTw.1, (w4.resolve_right (fun z => by have := z.1; omega)).2.2.1]; decide)
                have hpl0 := pw_gA (c := 128) (j := pw_g h8 125 7) h8I rfl (by decide) (by omega) (by omega)
                have tAt : pw_A n h23 := ⟨hn1, by rw [pw_Eg (c := 127) h8I h23E rfl rfl]; exact tAw.2.1, by omega, by omega, by omega, by omega⟩
                have tTt : pt_TK K V P 0 h23 := pt_TK.E h8I h23E tTw rfl (by omega)
                rcases (by omega : pw_wd h8 4 = 1 ∨ pw_wd h8 4 ≠ 1) with hw4 | hw4
                · have hw4 : pw_wd h8 4 = 1 := hw4
                  obtain ⟨t7, t8⟩ := hqtk.1 hw4
                  have hwh := (w4.resolve_right (fun z => by have := z.1; omega)).2.2
                  have hwh : K ((pw_g h 125 7).toNat + 1) = 1 ∧ V ((pw_g h 125 7).toNat + 1) = 1176170 := by rw [show (pw_g h 125 7).toNat + 1 = (pw_g h8 125 7).toNat by omega]; exact hwh
                  refine pw_ld E (pc' := 87) (st' := [.ref 141]) rfl (fun _ => rfl) ?_
                  refine pw_getR (b := 161) h23I E (c := 125) (k := 31) (pc' := 90) rfl rfl rfl rfl rfl rfl rfl ?_
                  refine pw_bip E (pc' := 92) rfl rfl (by decide) ?_
                  refine pw_ld E (pc' := 93) (st' := [pw_i k4_1, pw_i 16, .ref 161]) rfl (fun _ => rfl) ?_
                  refine pw_add E (pc' := 94) rfl rfl ?_
                  refine pw_ld E (pc' := 95) (st' := [.ref 141, pw_i (16 + k4_1), .ref 161]) rfl (fun _ => rfl) ?_
                  refine pw_getI2 h23I E (c := 125) (k := 32) (pc' := 98) rfl rfl rfl rfl rfl rfl (fun hf25a hf25b => ?_)
                  have hb145 : ∀ j : Nat, pw_g h23 145 j = pw_g h 145 j := fun j => by rw [pw_Eg (c := 145) h8I h23E rfl rfl j, ← h8w, pw_g_ne (by omega)]
                  have hb146 : ∀ j : Nat, pw_g h23 146 j = pw_g h 146 j := fun j => by rw [pw_Eg (c := 146) h8I h23E rfl rfl j, ← h8w, pw_g_ne (by omega)]
                  have hb147 : ∀ j : Nat, pw_g h23 147 j = pw_g h 147 j := fun j => by rw [pw_Eg (c := 147) h8I h23E rfl rfl j, ← h8w, pw_g_ne (by omega)]
                  refine pw_ast0 h23I E (c := 145) (pc' := 99) rfl rfl rfl (by decide) rfl (by decide) (by omega) (by omega) rfl (by omega) (by omega) (by omega) (by omega) rfl ?_
                  intro h26I h26E
                  generalize h26w : pw_w h23 145 ((16 + k4_1).toNat) (pw_i (pw_g h23 125 32)) = h26 at h26I h26E ⊢
                  have h26F := h23F.tr (h26E.wk (W' := [125, 145, 146, 147]) (by first | rfl | simp))
                  have h267 : pw_g h26 125 7 = pw_g h23 125 7 := by rw [← h26w]; exact pw_g_ne (by omega)
                  have h268 : pw_g h26 125 8 = pw_g h23 125 8 := by rw [← h26w]; exact pw_g_ne (by omega)
                  have h2632 : pw_g h26 125 32 = pw_g h23 125 32 := by rw [← h26w]; exact pw_g_ne (by omega)
                  have h2645 : pw_g h26 125 45 = pw_g h23 125 45 := by rw [← h26w]; exact pw_g_ne (by omega)
                  have tAl : pw_A n h26 := ⟨hn1, by rw [pw_Eg (c := 127) h23I h26E rfl rfl]; exact tAt.2.1, by omega, by omega, by omega, by omega⟩
                  have tTl : pt_TK K V P 0 h26 := pt_TK.E h23I h26E tTt rfl (by omega)
                  have l1 : pw_g h26 145 (16 + k4_1).toNat = pw_g h23 125 32 := by rw [← h26w]; exact pw_g_eqA h23I rfl (by omega) (by omega) (by omega)
                  have l2 : ∀ j : Nat, j ≠ (16 + k4_1).toNat → pw_g h26 145 j = pw_g h23 145 j := fun j hj => by rw [← h26w]; exact pw_g_ne (fun q => hj q.2.symm)
                  have l3 : ∀ j : Nat, pw_g h26 146 j = pw_g h23 146 j ∧ pw_g h26 147 j = pw_g h23 147 j := fun j => ⟨by rw [← h26w]; exact pw_g_ne (by omega), by rw [← h26w]; exact pw_g_ne (by omega)⟩
                  refine pw_ld E (pc' := 100) (st' := [.ref 141]) rfl (fun _ => rfl) ?_
                  refine pw_ld E (pc' := 101) (st' := [pw_i 0, .ref 141]) rfl (fun _ => rfl) ?_
                  have hC1 : pt_CD h26 (pw_g h26 125 32) [] := ⟨by omega, by show _ = _ + (0 : Int); omega, trivial⟩
                  obtain ⟨f27l, f27h, -⟩ := pw_obj (c := 125) h26I rfl
                  refine pw_call (m' := 248) (As := [.ref 141, pw_i 0]) (rest := []) (ls'' := [some (.ref 141), some (pw_i 0), none]) (Nat.le_trans (by decide) hd) E rfl (fun _ => pw_iV rfl rfl rfl rfl (pw_cellI f27h rfl)) (rfl : pm_ent 248 = some (2, 3, 12, 4, pmc_248)) rfl rfl (pw_and (pt_S248 (dp := 0) (by omega) (by omega) (by omega) h26I tAl (by omega)) (pt_C248_all n K V P 0 ([]) (0) (pw_g h26 125 32) ([]) (by omega) h26I tAl (by omega) tTl hp3 (by omega) (by omega) hC1 trivial (by decide))) ?_
                  rintro h28 v29 ⟨⟨h28I, h28E, ⟨tAb, tRb⟩, rfl⟩, ⟨-, -, ⟨tTb, tMb⟩, -⟩⟩
                  refine ⟨_, rfl, ?_⟩
                  have h28F := h26F.tr (h28E.wk (W' := [125, 145, 146, 147]) (by first | rfl | simp))
                  show pw X d h28 243 104 [some (.ref 141), some (pw_i k4_1), some (pw_i k4_2)] [] _
                  have tBb := tAb.2.2
                  have tCb := tRb.1.2.2.2.1
                  have tDb := tRb.1.2.1
                  have tGb := tRb.1.2.2.1
                  refine pw_ld E (pc' := 105) (st' := [.ref 141]) rfl (fun _ => rfl) ?_
                  refine pw_ld E (pc' := 106) (st' := [pw_i 0, .ref 141]) rfl (fun _ => rfl) ?_
                  refine pw_ld E (pc' := 107) (st' := [pw_i 0, pw_i 0, .ref 141]) rfl (fun _ => rfl) ?_
                  obtain ⟨f30l, f30h, -⟩ := pw_obj (c := 125) h28I rfl
                  refine pw_call (m' := 255) (As := [.ref 141, pw_i 0, pw_i 0]) (rest := []) (ls'' := [some (.ref 141), some (pw_i 0), some (pw_i 0)]) (Nat.le_trans (by decide) hd) E rfl (fun _ => pw_iV rfl rfl rfl rfl (pw_cellI f30h rfl)) (rfl : pm_ent 255 = some (3, 3, 12, 4, pmc_255)) rfl rfl (cm_255_t (pw_dp hd (by decide)) h28I (0) (by omega) (by omega) (0) (by omega) (by omega) (by omega)) ?_
                  rintro h31 v32 ⟨h31I, h31E, hqem, rfl⟩
                  refine ⟨_, rfl, ?_⟩
                  have h31F := h28F.tr (h31E.wk (W' := [125, 145, 146, 147]) (by first | rfl | simp))
                  show pw X d h31 243 110 [some (.ref 141), some (pw_i k4_1), some (pw_i k4_2)] [] _
                  have tE7 := hqem.1.1
                  have tE8 := hqem.1.2.1
                  have tE32 := hqem.1.2.2.1
                  have tE45 := hqem.2
                  have tAec : pw_A n h31 := ⟨hn1, by rw [pw_Eg (c := 127) h28I h31E rfl rfl]; exact tAb.2.1, by omega, by omega, by omega, by omega⟩
                  have tTec : pt_TK K V P 0 h31 := pt_TK.E h28I h31E tTb rfl (by omega)
                  refine pw_ld E (pc' := 111) (st' := [.ref 141]) rfl (fun _ => rfl) ?_
                  refine pw_bip E (pc' := 113) rfl rfl (by decide) ?_
                  obtain ⟨f33l, f33h, -⟩ := pw_obj (c := 125) h31I rfl
                  refine pw_call (m' := 257) (As := [.ref 141, pw_i 59]) (rest := []) (ls'' := [some (.ref 141), some (pw_i 59)]) (Nat.le_trans (by decide) hd) E rfl (fun _ => pw_iV rfl rfl rfl rfl (pw_cellI f33h rfl)) (rfl : pm_ent 257 = some (2, 2, 12, 4, pmc_257)) rfl rfl (cm_257_t (pw_dp hd (by decide)) h31I (59) (by omega) (by omega) (by omega)) ?_
                  rintro h34 v35 ⟨h34I, h34E, hqtk, rfl⟩
                  refine ⟨_, rfl, ?_⟩
                  have h34F := h31F.tr (h34E.wk (W' := [125, 145, 146, 147]) (by first | rfl | simp))
                  show pw X d h34 243 116 [some (.ref 141), some (pw_i k4_1), some (pw_i k4_2)] [] _
                  have w9 := pt_sgI tTec (ch := 59) (by decide) (by decide)
                  have hw6 : pw_sg h31 59 = 1 → pw_g h31 125 7 < n := fun q => pw_A.lt tAec (by rw [tTec.1, (w9.resolve_right (fun z => by have := z.1; omega)).2.2.1]; decide)
                  have hPz := pw_gA (c := 128) (j := pw_g h31 125 7) h31I rfl (by decide) (by omega) (by omega)
                  have tAz : pw_A n h34 := ⟨hn1, by rw [pw_Eg (c := 127) h31I h34E rfl rfl]; exact tAec.2.1, by omega, by omega, by omega, by omega⟩
                  have tTz : pt_TK K V P 0 h34 := pt_TK.E h31I h34E tTec rfl (by omega)
                  refine pw_vret E rfl ?_
                  have hLN := pt_line_E2 (P := P) hw (by omega) hth (by unfold pt_FO; rw [if_pos rfl, if_neg (by omega)]) hwh
                  have hai : (pw_g h26 125 7).toNat = (pw_g h 125 7).toNat + 2 := by omega
                  have hPl := pw_gA (c := 128) (j := pw_g h31 125 7) h31I rfl (by decide) (by omega) (by omega)
                  rw [tTec.2.2.1] at hPl
                  have hqw := hqtk.2.1
                  rw [tTec.2.2.1] at hqw
                  rcases tMb with ⟨z, f⟩ | ⟨z, c3, k3, m3⟩
                  · have hE := pt_E_mf f
                    rw [hai] at hE
                    have n9 : pw_sg h31 59 ≠ 1 := fun q => by have := (w9.resolve_right (fun y => by have := y.1; omega)).2.1; omega
                    have z8 := (hqw n9).2.2 (by omega)
                    exact ⟨h34I, h34F, ⟨tTz, Or.inl ⟨by omega, by rw [hLN, hE]; show pw_g h28 125 8 = _; omega⟩⟩, rfl⟩
                  · rcases w9 with ⟨y1, -, yk, yv⟩ | ⟨y0, yn⟩
                    · have e7 : pw_g h31 125 7 = pw_g h28 125 7 := by omega
                      rw [e7] at yk yv
                      have hE := pt_E_end (P := P) m3 (by omega) yk yv
                      rw [hai] at hE
                      obtain ⟨u7, u8⟩ := hqtk.1 y1
                      have q6 := tRb.1.2.2.2.2.2
                      have hsame : ∀ j : Nat, (j : Int) < 4400 + pw_g h 125 32 → pw_g h34 146 j = pw_g h 146 j ∧ pw_g h34 147 j = pw_g h 147 j := fun j hj => by
                        obtain ⟨a1, a2⟩ := q6 j (by omega)
                        obtain ⟨b1, b2⟩ := l3 j
                        obtain ⟨d1, d2⟩ := hqem.1.2.2.2.2.2 j (by omega)
                        rw [pw_Eg (c := 146) h31I h34E rfl rfl j, pw_Eg (c := 147) h31I h34E rfl rfl j, d1, d2, a1, a2, b1, b2, hb146, hb147]
                        exact ⟨rfl, rfl⟩
                      have h145 : ∀ k : Nat, k ≠ (16 + k4_1).toNat → pw_g h34 145 k = pw_g h 145 k := fun k hk => by rw [pw_Eg (c := 145) h31I h34E rfl rfl k, pw_Eg (c := 145) h28I h31E rfl rfl k, pw_Eg (c := 145) h26I h28E rfl rfl k, l2 k hk, hb145]
                      have h145w : pw_g h34 145 (16 + k4_1).toNat = pw_g h 125 32 := by rw [pw_Eg (c := 145) h31I h34E rfl rfl _, pw_Eg (c := 145) h28I h31E rfl rfl _, pw_Eg (c := 145) h26I h28E rfl rfl _, l1]; omega
                      have e32 : pw_g h26 125 32 = pw_g h 125 32 := by omega
                      rw [e32] at k3
                      have k3b := k3.2.1
                      have sg : pt_SG h34 (pw_g h 125 32) c3 := ⟨k3.2.2.cg (fun j hj => by obtain ⟨d1, d2⟩ := hqem.1.2.2.2.2.2 ((4400 + pw_g h 125 32).toNat + j) (by omega); rw [pw_Eg (c := 146) h31I h34E rfl rfl _, pw_Eg (c := 147) h31I h34E rfl rfl _]; exact ⟨d1, d2⟩), by rw [pw_Eg (c := 146) h31I h34E rfl rfl _, show 4400 + pw_g h 125 32 + (c3.length : Int) = 4400 + pw_g h28 125 32 by omega]; exact hqem.1.2.2.2.1, by omega⟩
                      have hML := hp6.add (by omega) (by omega) h145 h145w (by omega) hsame sg (by omega)
                      exact ⟨h34I, h34F, ⟨tTz, Or.inr ⟨by omega, by rw [hLN, hE], by rw [hLN, hE]; show pw_g h34 125 7 = pw_g h28 125 7 + 1; omega, by rw [hLN, hE]; exact hML⟩⟩, rfl⟩
                    · have e7 : pw_g h31 125 7 = pw_g h28 125 7 := by omega
                      obtain ⟨u7, u8, -⟩ := hqw (by omega)
                      have u8 := u8 (by omega)
                      rw [e7] at u8 yn
                      have hE := pt_E_mf (pt_GG.noend m3 (by omega) (fun q => yn ⟨by omega, q.1, q.2⟩) u8)
                      rw [hai] at hE
                      exact ⟨h34I, h34F, ⟨tTz, Or.inl ⟨by omega, by rw [hLN, hE]⟩⟩, rfl⟩
                · have hw4 : pw_wd h8 4 ≠ 1 := hw4
                  obtain ⟨t7, t8, -⟩ := hqtk.2.1 hw4
                  have t8 := t8 (by omega)
                  have hwn := (w4.resolve_left (fun z => by have := z.1; omega)).2
                  have hwn : ¬ (K ((pw_g h 125 7).toNat + 1) = 1 ∧ V ((pw_g h 125 7).toNat + 1) = 1176170) := by rw [show (pw_g h 125 7).toNat + 1 = (pw_g h8 125 7).toNat by omega]; exact fun z => hwn ⟨by omega, z⟩
                  have hpl := pw_gA (c := 128) (j := pw_g h8 125 7) h8I rfl (by decide) (by omega) (by omega)
                  have hpE : pw_g h8 128 (pw_g h8 125 7).toNat = P ((pw_g h 125 7).toNat + 1) := by rw [tTw.2.2.1, show (pw_g h 125 7).toNat + 1 = (pw_g h8 125 7).toNat by omega]
                  refine pw_ld E (pc' := 87) (st' := [.ref 141]) rfl (fun _ => rfl) ?_
                  refine pw_getR (b := 161) h23I E (c := 125) (k := 31) (pc' := 90) rfl rfl rfl rfl rfl rfl rfl ?_
                  refine pw_bip E (pc' := 92) rfl rfl (by decide) ?_
                  refine pw_ld E (pc' := 93) (st' := [pw_i k4_1, pw_i 16, .ref 161]) rfl (fun _ => rfl) ?_
                  refine pw_add E (pc' := 94) rfl rfl ?_
                  refine pw_ld E (pc' := 95) (st' := [.ref 141, pw_i (16 + k4_1), .ref 161]) rfl (fun _ => rfl) ?_
                  refine pw_getI2 h23I E (c := 125) (k := 32) (pc' := 98) rfl rfl rfl rfl rfl rfl (fun hf36a hf36b => ?_)
                  have hb145 : ∀ j : Nat, pw_g h23 145 j = pw_g h 145 j := fun j => by rw [pw_Eg (c := 145) h8I h23E rfl rfl j, ← h8w, pw_g_ne (by omega)]
                  have hb146 : ∀ j : Nat, pw_g h23 146 j = pw_g h 146 j := fun j => by rw [pw_Eg (c := 146) h8I h23E rfl rfl j, ← h8w, pw_g_ne (by omega)]
                  have hb147 : ∀ j : Nat, pw_g h23 147 j = pw_g h 147 j := fun j => by rw [pw_Eg (c := 147) h8I h23E rfl rfl j, ← h8w, pw_g_ne (by omega)]
                  refine pw_ast0 h23I E (c := 145) (pc' := 99) rfl rfl rfl (by decide) rfl (by decide) (by omega) (by omega) rfl (by omega) (by omega) (by omega) (by omega) rfl ?_
                  intro h37I h37E
                  generalize h37w : pw_w h23 145 ((16 + k4_1).toNat) (pw_i (pw_g h23 125 32)) = h37 at h37I h37E ⊢
                  have h37F := h23F.tr (h37E.wk (W' := [125, 145, 146, 147]) (by first | rfl | simp))
                  have h377 : pw_g h37 125 7 = pw_g h23 125 7 := by rw [← h37w]; exact pw_g_ne (by omega)
                  have h378 : pw_g h37 125 8 = pw_g h23 125 8 := by rw [← h37w]; exact pw_g_ne (by omega)
                  have h3732 : pw_g h37 125 32 = pw_g h23 125 32 := by rw [← h37w]; exact pw_g_ne (by omega)
                  have h3745 : pw_g h37 125 45 = pw_g h23 125 45 := by rw [← h37w]; exact pw_g_ne (by omega)
                  have tAl : pw_A n h37 := ⟨hn1, by rw [pw_Eg (c := 127) h23I h37E rfl rfl]; exact tAt.2.1, by omega, by omega, by omega, by omega⟩
                  have tTl : pt_TK K V P 0 h37 := pt_TK.E h23I h37E tTt rfl (by omega)
                  have l1 : pw_g h37 145 (16 + k4_1).toNat = pw_g h23 125 32 := by rw [← h37w]; exact pw_g_eqA h23I rfl (by omega) (by omega) (by omega)
                  have l2 : ∀ j : Nat, j ≠ (16 + k4_1).toNat → pw_g h37 145 j = pw_g h23 145 j := fun j hj => by rw [← h37w]; exact pw_g_ne (fun q => hj q.2.symm)
                  have l3 : ∀ j : Nat, pw_g h37 146 j = pw_g h23 146 j ∧ pw_g h37 147 j = pw_g h23 147 j := fun j => ⟨by rw [← h37w]; exact pw_g_ne (by omega), by rw [← h37w]; exact pw_g_ne (by omega)⟩
                  refine pw_ld E (pc' := 100) (st' := [.ref 141]) rfl (fun _ => rfl) ?_
                  refine pw_ld E (pc' := 101) (st' := [pw_i 0, .ref 141]) rfl (fun _ => rfl) ?_
                  have hC1 : pt_CD h37 (pw_g h37 125 32) [] := ⟨by omega, by show _ = _ + (0 : Int); omega, trivial⟩
                  obtain ⟨f38l, f38h, -⟩ := pw_obj (c := 125) h37I rfl
                  refine pw_call (m' := 248) (As := [.ref 141, pw_i 0]) (rest := []) (ls'' := [some (.ref 141), some (pw_i 0), none]) (Nat.le_trans (by decide) hd) E rfl (fun _ => pw_iV rfl rfl rfl rfl (pw_cellI f38h rfl)) (rfl : pm_ent 248 = some (2, 3, 12, 4, pmc_248)) rfl rfl (cm_248_z (pw_dp hd (by decide)) h37I (0) (by omega) (by omega) n tAl (by omega)) ?_
                  rintro u40 v39 ⟨rfl, rfl⟩
                  refine ⟨_, rfl, ?_⟩
                  show pw X d h37 243 104 [some (.ref 141), some (pw_i k4_1), some (pw_i k4_2)] [] _
                  refine pw_ld E (pc' := 105) (st' := [.ref 141]) rfl (fun _ => rfl) ?_
                  refine pw_ld E (pc' := 106) (st' := [pw_i 0, .ref 141]) rfl (fun _ => rfl) ?_
                  refine pw_ld E (pc' := 107) (st' := [pw_i 0, pw_i 0, .ref 141]) rfl (fun _ => rfl) ?_
                  obtain ⟨f41l, f41h, -⟩ := pw_obj (c := 125) h37I rfl
                  refine pw_call (m' := 255) (As := [.ref 141, pw_i 0, pw_i 0]) (rest := []) (ls'' := [some (.ref 141), some (pw_i 0), some (pw_i 0)]) (Nat.le_trans (by decide) hd) E rfl (fun _ => pw_iV rfl rfl rfl rfl (pw_cellI f41h rfl)) (rfl : pm_ent 255 = some (3, 3, 12, 4, pmc_255)) rfl rfl (cm_255_t (pw_dp hd (by decide)) h37I (0) (by omega) (by omega) (0) (by omega) (by omega) (by omega)) ?_
                  rintro h42 v43 ⟨h42I, h42E, hqem, rfl⟩
                  refine ⟨_, rfl, ?_⟩
                  have h42F := h37F.tr (h42E.wk (W' := [125, 145, 146, 147]) (by first | rfl | simp))
                  show pw X d h42 243 110 [some (.ref 141), some (pw_i k4_1), some (pw_i k4_2)] [] _
                  have tE7 := hqem.1.1
                  have tE8 := hqem.1.2.1
                  have tE32 := hqem.1.2.2.1
                  have tE45 := hqem.2
                  have tAec : pw_A n h42 := ⟨hn1, by rw [pw_Eg (c := 127) h37I h42E rfl rfl]; exact tAl.2.1, by omega, by omega, by omega, by omega⟩
                  have tTec : pt_TK K V P 0 h42 := pt_TK.E h37I h42E tTl rfl (by omega)
                  refine pw_ld E (pc' := 111) (st' := [.ref 141]) rfl (fun _ => rfl) ?_
                  refine pw_bip E (pc' := 113) rfl rfl (by decide) ?_
                  obtain ⟨f44l, f44h, -⟩ := pw_obj (c := 125) h42I rfl
                  refine pw_call (m' := 257) (As := [.ref 141, pw_i 59]) (rest := []) (ls'' := [some (.ref 141), some (pw_i 59)]) (Nat.le_trans (by decide) hd) E rfl (fun _ => pw_iV rfl rfl rfl rfl (pw_cellI f44h rfl)) (rfl : pm_ent 257 = some (2, 2, 12, 4, pmc_257)) rfl rfl (cm_257_t (pw_dp hd (by decide)) h42I (59) (by omega) (by omega) (by omega)) ?_
                  rintro h45 v46 ⟨h45I, h45E, hqtk, rfl⟩
                  refine ⟨_, rfl, ?_⟩
                  have h45F := h42F.tr (h45E.wk (W' := [125, 145, 146, 147]) (by first | rfl | simp))
                  show pw X d h45 243 116 [some (.ref 141), some (pw_i k4_1), some (pw_i k4_2)] [] _
                  have w9 := pt_sgI tTec (ch := 59) (by decide) (by decide)
                  have hw6 : pw_sg h42 59 = 1 → pw_g h42 125 7 < n := fun q => pw_A.lt tAec (by rw [tTec.1, (w9.resolve_right (fun z => by have := z.1; omega)).2.2.1]; decide)
                  have hPz := pw_gA (c := 128) (j := pw_g h42 125 7) h42I rfl (by decide) (by omega) (by omega)
                  have tAz : pw_A n h45 := ⟨hn1, by rw [pw_Eg (c := 127) h42I h45E rfl rfl]; exact tAec.2.1, by omega, by omega, by omega, by omega⟩
                  have tTz : pt_TK K V P 0 h45 := pt_TK.E h42I h45E tTec rfl (by omega)
                  refine pw_vret E rfl ?_
                  have n9 : pw_sg h42 59 ≠ 1 := fun q => by have := (w9.resolve_right (fun z => by have := z.1; omega)).2.1; omega
                  have z8 := (hqtk.2.1 n9).2.2 (by omega)
                  exact ⟨h45I, h45F, ⟨tTz, Or.inl ⟨by omega, (pt_line_nw hw (by omega) hth (by unfold pt_FO; rw [if_pos rfl, if_neg (by omega)]) hwn).trans (by omega)⟩⟩, rfl⟩
            · intro hc47
              change ¬ (pw_g h 125 8 ≤ (0 : Int)) at hc47
              exfalso; omega
          · intro hc48
            change ¬ (pw_g h 145 ((16 + k4_1).toNat) < (0 : Int)) at hc48
            have hth : th k4_1 ≠ 0 := by rcases hml with ⟨q, -⟩ | ⟨-, q⟩ <;> omega
            refine pw_ld E (pc' := 54) (st' := [.ref 141]) rfl (fun _ => rfl) ?_
            refine pw_ld E (pc' := 55) (st' := [pw_i 3, .ref 141]) rfl (fun _ => rfl) ?_
            obtain ⟨f49l, f49h, -⟩ := pw_obj (c := 125) I rfl
            refine pw_call (m' := 245) (As := [.ref 141, pw_i 3]) (rest := []) (ls'' := [some (.ref 141), some (pw_i 3)]) (Nat.le_trans (by decide) hd) E rfl (fun _ => pw_iV rfl rfl rfl rfl (pw_cellI f49h rfl)) (rfl : pm_ent 245 = some (2, 2, 12, 4, pmc_245)) rfl rfl (cm_245_t (pw_dp hd (by decide)) I (3) (by omega) (by omega)) ?_
            rintro h50 v51 ⟨h50I, h50E, hqwr, rfl⟩
            refine ⟨_, rfl, ?_⟩
            have h50F := E0.tr (h50E.wk (W' := [125, 145, 146, 147]) (by first | rfl | simp))
            show pw X d h50 243 58 [some (.ref 141), some (pw_i k4_1), some (pw_i k4_2)] [] _
            have hPw := pw_gA (c := 128) (j := pw_g h 125 7) I rfl (by decide) (by omega) (by omega)
            have hwf := hqwr.1 hp4
            have tAx : pw_A n h50 := ⟨hn1, by rw [pw_Eg (c := 127) I h50E rfl rfl]; exact hp0.2.1, by omega, by omega, by omega, by omega⟩
            have tTx : pt_TK K V P 0 h50 := pt_TK.E I h50E hp2 rfl (by omega)
            rw [hp2.2.2.1] at hwf
            have hf0 : pw_g h50 125 8 ≠ 0 := by have := pw_gA (c := 128) (j := pw_g h 125 7) I rfl (by decide) (by omega) (by omega); rw [hp2.2.2.1] at this; omega
            have hln : (pt_line 0 K V P th (pw_g h 125 7).toNat).1 = pw_g h50 125 8 := (pt_line_t3 hw (by omega) hth).trans hwf.symm
            refine pw_ld E (pc' := 59) (st' := [.ref 141]) rfl (fun _ => rfl) ?_
            refine pw_getI2 h50I E (c := 125) (k := 8) (pc' := 62) rfl rfl rfl rfl rfl rfl (fun hf52a hf52b => ?_)
            refine pw_if E (pc' := 66) rfl (by decide) (by omega) (by omega) ?_ ?_
            · intro hc53
              change pw_g h50 125 8 ≤ (0 : Int) at hc53
              exfalso; omega
            · intro hc54
              change ¬ (pw_g h50 125 8 ≤ (0 : Int)) at hc54
              refine pw_vret E rfl ?_
              exact ⟨h50I, h50F, ⟨tTx, Or.inl ⟨hf0, hln⟩⟩, rfl⟩
        · intro hc55
          change ¬ ((0 : Int) ≤ k4_1) at hc55
          refine pw_ld E (pc' := 34) (st' := [.ref 141]) rfl (fun _ => rfl) ?_
          refine pw_ld E (pc' := 35) (st' := [pw_i 1, .ref 141]) rfl (fun _ => rfl) ?_
          obtain ⟨f56l, f56h, -⟩ := pw_obj (c := 125) I rfl
          refine pw_call (m' := 245) (As := [.ref 141, pw_i 1]) (rest := []) (ls'' := [some (.ref 141), some (pw_i 1)]) (Nat.le_trans (by decide) hd) E rfl (fun _ => pw_iV rfl rfl rfl rfl (pw_cellI f56h rfl)) (rfl : pm_ent 245 = some (2, 2, 12, 4, pmc_245)) rfl rfl (cm_245_t (pw_dp hd (by decide)) I (1) (by omega) (by omega)) ?_
          rintro h57 v58 ⟨h57I, h57E, hqwr, rfl⟩
          refine ⟨_, rfl, ?_⟩
          have h57F := E0.tr (h57E.wk (W' := [125, 145, 146, 147]) (by first | rfl | simp))
          show pw X d h57 243 38 [some (.ref 141), some (pw_i k4_1), some (pw_i k4_2)] [] _
          refine pw_goto E (pc' := 58) rfl (by decide) ?_
          have hPw := pw_gA (c := 128) (j := pw_g h 125 7) I rfl (by decide) (by omega) (by omega)
          have hwf := hqwr.1 hp4
          have tAx : pw_A n h57 := ⟨hn1, by rw [pw_Eg (c := 127) I h57E rfl rfl]; exact hp0.2.1, by omega, by omega, by omega, by omega⟩
          have tTx : pt_TK K V P 0 h57 := pt_TK.E I h57E hp2 rfl (by omega)
          rw [hp2.2.2.1] at hwf
          have hf0 : pw_g h57 125 8 ≠ 0 := by have := pw_gA (c := 128) (j := pw_g h 125 7) I rfl (by decide) (by omega) (by omega); rw [hp2.2.2.1] at this; omega
          have hln : (pt_line 0 K V P th (pw_g h 125 7).toNat).1 = pw_g h57 125 8 := (pt_line_w1 (by omega)).trans hwf.symm
          refine pw_ld E (pc' := 59) (st' := [.ref 141]) rfl (fun _ => rfl) ?_
          refine pw_getI2 h57I E (c := 125) (k := 8) (pc' := 62) rfl rfl rfl rfl rfl rfl (fun hf59a hf59b => ?_)
          refine pw_if E (pc' := 66) rfl (by decide) (by omega) (by omega) ?_ ?_
          · intro hc60
            change pw_g h57 125 8 ≤ (0 : Int) at hc60
            exfalso; omega
          · intro hc61
            change ¬ (pw_g h57 125 8 ≤ (0 : Int)) at hc61
            refine pw_vret E rfl ?_
            exact ⟨h57I, h57F, ⟨tTx, Or.inl ⟨hf0, hln⟩⟩, rfl⟩
      · intro hc62
        change ¬ ((3 : Int) < k4_2) at hc62
        refine pw_ld E (pc' := 10) (st' := [.ref 141]) rfl (fun _ => rfl) ?_
        refine pw_ld E (pc' := 11) (st' := [pw_i k4_2, .ref 141]) rfl (fun _ => rfl) ?_
        obtain ⟨f63l, f63h, -⟩ := pw_obj (c := 125) I rfl
        refine pw_call (m' := 244) (As := [.ref 141, pw_i k4_2]) (rest := []) (ls'' := [some (.ref 141), some (pw_i k4_2)]) (Nat.le_trans (by decide) hd) E rfl (fun _ => pw_iV rfl rfl rfl rfl (pw_cellI f63h rfl)) (rfl : pm_ent 244 = some (2, 2, 12, 1, pmc_244)) rfl rfl (cm_244 (pw_dp hd (by decide)) I (k4_2) (by omega) (by omega)) ?_
        rintro u65 v64 ⟨rfl, x66, rfl, hx66a, hx66b, hx66r⟩
        refine ⟨_, rfl, ?_⟩
        show pw X d h 243 14 [some (.ref 141), some (pw_i k4_1), some (pw_i k4_2)] [pw_i x66] _
        change x66 = pw_wd h k4_2 ∧ (x66 = 1 → pw_g h 125 8 = 0 ∧ pw_g h 127 (pw_g h 125 7).toNat = 1) at hx66r
        rcases (by omega : x66 = 1 ∨ x66 = 0) with hb67 | hb67
        · skip
          have o1 := pt_wdI hp2 (w := k4_2) (by omega) (by omega)
          rw [← hx66r.1] at o1
          have o2 := pt_fI.st hx4_0 (by omega) o1
          refine pw_if E (pc' := 21) rfl (by decide) (by omega) (by omega) ?_ ?_
          · intro hc68
            change x66 = (0 : Int) at hc68
            exfalso; omega
          · intro hc69
            change ¬ (x66 = (0 : Int)) at hc69
            refine pw_ld E (pc' := 18) (st' := [pw_i k4_2]) rfl (fun _ => rfl) ?_
            refine pw_goto E (pc' := 22) rfl (by decide) ?_
            refine pw_istn E (pc' := 23) (ls' := [some (.ref 141), some (pw_i k4_2), some (pw_i k4_2)]) rfl rfl rfl rfl ?_
            have o3 := o2.1 (by omega)
            refine pw_inc E (pc' := 26) (ls' := [some (.ref 141), some (pw_i k4_2), some (pw_i (k4_2 + 1))]) rfl rfl rfl rfl ?_
            refine pw_goto E (pc' := 4) rfl (by decide) ?_
            exact ih4 _ (by omega) (k4_2) (k4_2 + 1)  (by omega) (by omega) (by omega) (by omega) o3 rfl
        · skip
          have o1 := pt_wdI hp2 (w := k4_2) (by omega) (by omega)
          rw [← hx66r.1] at o1
          have o2 := pt_fI.st hx4_0 (by omega) o1
          refine pw_if E (pc' := 21) rfl (by decide) (by omega) (by omega) ?_ ?_
          · intro hc71
            change x66 = (0 : Int) at hc71
            refine pw_ld E (pc' := 22) (st' := [pw_i k4_1]) rfl (fun _ => rfl) ?_
            refine pw_istn E (pc' := 23) (ls' := [some (.ref 141), some (pw_i k4_1), some (pw_i k4_2)]) rfl rfl rfl rfl ?_
            have o3 := o2.2 (by omega)
            refine pw_inc E (pc' := 26) (ls' := [some (.ref 141), some (pw_i k4_1), some (pw_i (k4_2 + 1))]) rfl rfl rfl rfl ?_
            refine pw_goto E (pc' := 4) rfl (by decide) ?_
            exact ih4 _ (by omega) (k4_1) (k4_2 + 1)  (by omega) (by omega) (by omega) (by omega) o3 rfl
          · intro hc72
            change ¬ (x66 = (0 : Int)) at hc72
            exfalso; omega
  exact L4 _ ((-1)) (0)  (by omega) (by omega) (by omega) (by omega) pt_fI.z rfl
end
section
/-! texts: the tokens of a text, as its signs say -/
def pt_bl (c : Int) : Prop := c = 10 ∨ c = 32
def pt_le (c : Int) : Prop := 97 ≤ c ∧ c ≤ 122
def pt_di (c : Int) : Prop := 48 ≤ c ∧ c ≤ 57
def pt_si (c : Int) : Prop := c = 40 ∨ c = 41 ∨ c = 59 ∨ c = 61 ∨ c = 60 ∨ c = 43 ∨ c = 45 ∨ c = 42
/-- letters as one number, numerals as one -/
def pt_hw (T : Nat → Int) (s : Nat) : Nat → Int
  | 0 => 0
  | n + 1 => 37 * pt_hw T s n + (T (s + n) - 96)
def pt_hd (T : Nat → Int) (s : Nat) : Nat → Int
  | 0 => 0
  | n + 1 => 10 * pt_hd T s n + (T (s + n) - 48)
/-- where a token begins, where it ends, kind, value -/
abbrev pt_tok := Nat × Nat × Int × Int
def pt_ta (T : Nat → Int) (z : Nat) (t : pt_tok) : Prop := t.1 < t.2.1 ∧ t.2.1 ≤ z ∧ ¬ pt_bl (T t.1) ∧
  ((pt_le (T t.1) ∧ (∀ j : Nat, t.1 ≤ j → j < t.2.1 → pt_le (T j)) ∧ (t.2.1 < z → ¬ pt_le (T t.2.1)) ∧ (8 < t.2.1 - t.1 → t.2.2.1 = 4) ∧ (t.2.1 - t.1 ≤ 8 → t.2.2.1 = 1) ∧ t.2.2.2 = pt_hw T t.1 (min 8 (t.2.1 - t.1))) ∨
   (pt_di (T t.1) ∧ (∀ j : Nat, t.1 ≤ j → j < t.2.1 → pt_di (T j)) ∧ (t.2.1 < z → ¬ pt_di (T t.2.1)) ∧ (4 < t.2.1 - t.1 → t.2.2.1 = 4) ∧ (t.2.1 - t.1 ≤ 4 → t.2.2.1 = 2) ∧ t.2.2.2 = pt_hd T t.1 (min 4 (t.2.1 - t.1))) ∨
   (¬ pt_le (T t.1) ∧ ¬ pt_di (T t.1) ∧ t.2.1 = t.1 + 1 ∧ (pt_si (T t.1) → t.2.2.1 = 3) ∧ (¬ pt_si (T t.1) → t.2.2.1 = 4) ∧ t.2.2.2 = T t.1))
/-- the tokens from sign k up to sign e -/
def pt_sg (T : Nat → Int) (z : Nat) : Nat → List pt_tok → Nat → Prop
  | k, [], e => k ≤ e ∧ ∀ j : Nat, k ≤ j → j < e → pt_bl (T j)
  | k, t :: L, e => (k ≤ t.1 ∧ ∀ j : Nat, k ≤ j → j < t.1 → pt_bl (T j)) ∧ pt_ta T z t ∧ pt_sg T z t.2.1 L e
theorem pt_sg.bl {T : Nat → Int} {z e : Nat} : ∀ {L : List pt_tok} {k : Nat}, pt_sg T z k L e → pt_bl (T e) → pt_sg T z k L (e + 1)
  | [], _, h, b => ⟨by have := h.1; omega, fun j h1 h2 => by
      by_cases q : j = e
      · rw [q]; exact b
      · exact h.2 j h1 (by omega)⟩
  | _ :: _, _, h, b => ⟨h.1, h.2.1, pt_sg.bl h.2.2 b⟩
theorem pt_sg.ap {T : Nat → Int} {z e : Nat} {t : pt_tok} (ht : pt_ta T z t) (he : t.1 = e) : ∀ {L : List pt_tok} {k : Nat}, pt_sg T z k L e → pt_sg T z k (L ++ [t]) t.2.1
  | [], _, h => ⟨⟨by rw [he]; exact h.1, by rw [he]; exact h.2⟩, ht, Nat.le_refl _, fun j h1 h2 => by omega⟩
  | _ :: _, _, h => ⟨h.1, h.2.1, pt_sg.ap ht he h.2.2⟩
theorem pt_ta.nb {T : Nat → Int} {z : Nat} {t : pt_tok} (h : pt_ta T z t) : ¬ pt_bl (T t.1) := h.2.2.1
theorem pt_ta.en {T : Nat → Int} {z : Nat} {t u : pt_tok} (h : pt_ta T z t) (h' : pt_ta T z u) (e : t.1 = u.1) : t.2.1 = u.2.1 := by
  obtain ⟨a1, a2, a3, a4⟩ := h
  obtain ⟨b1, b2, b3, b4⟩ := h'
  rcases (by omega : t.2.1 < u.2.1 ∨ u.2.1 < t.2.1 ∨ t.2.1 = u.2.1) with q | q | q
  · exfalso
    rcases a4 with ⟨c1, c2, c3, -⟩ | ⟨c1, c2, c3, -⟩ | ⟨c1, c2, c3, -⟩
    · rcases b4 with ⟨-, d2, -⟩ | ⟨d1, -⟩ | ⟨d1, -⟩
      · exact c3 (by omega) (d2 _ (by omega) q)
      · rw [← e] at d1; unfold pt_le at c1; unfold pt_di at d1; omega
      · rw [← e] at d1; exact d1 c1
    · rcases b4 with ⟨d1, -⟩ | ⟨-, d2, -⟩ | ⟨-, d1, -⟩
      · rw [← e] at d1; unfold pt_di at c1; unfold pt_le at d1; omega
      · exact c3 (by omega) (d2 _ (by omega) q)
      · rw [← e] at d1; exact d1 c1
    · rcases b4 with ⟨d1, -⟩ | ⟨d1, -⟩ | ⟨-, -, d3, -⟩
      · rw [← e] at d1; exact c1 d1
      · rw [← e] at d1; exact c2 d1
      · omega
  · exfalso
    rcases b4 with ⟨c1, c2, c3, -⟩ | ⟨c1, c2, c3, -⟩ | ⟨c1, c2, c3, -⟩
    · rcases a4 with ⟨-, d2, -⟩ | ⟨d1, -⟩ | ⟨d1, -⟩
      · exact c3 (by omega) (d2 _ (by omega) q)
      · rw [e] at d1; unfold pt_le at c1; unfold pt_di at d1; omega
      · rw [e] at d1; exact d1 c1
    · rcases a4 with ⟨d1, -⟩ | ⟨-, d2, -⟩ | ⟨-, d1, -⟩
      · rw [e] at d1; unfold pt_di at c1; unfold pt_le at d1; omega
      · exact c3 (by omega) (d2 _ (by omega) q)
      · rw [e] at d1; exact d1 c1
    · rcases a4 with ⟨d1, -⟩ | ⟨d1, -⟩ | ⟨-, -, d3, -⟩
      · rw [e] at d1; exact c1 d1
      · rw [e] at d1; exact c2 d1
      · omega
  · exact q
theorem pt_ta.eq {T : Nat → Int} {z : Nat} {t u : pt_tok} (h : pt_ta T z t) (h' : pt_ta T z u) (e : t.1 = u.1) : t = u := by
  have e2 := h.en h' e
  obtain ⟨t1, t2, t3, t4⟩ := t
  obtain ⟨u1, u2, u3, u4⟩ := u
  have e : t1 = u1 := e
  have e2 : t2 = u2 := e2
  subst e e2
  obtain ⟨a1, a2, a3, a4⟩ := h
  obtain ⟨b1, b2, b3, b4⟩ := h'
  dsimp only at a1 a2 a3 a4 b1 b2 b3 b4
  have key : t3 = u3 ∧ t4 = u4 := by
    rcases a4 with ⟨c1, -, -, c4, c5, c6⟩ | ⟨c1, -, -, c4, c5, c6⟩ | ⟨c1, c2, -, c4, c5, c6⟩
    · rcases b4 with ⟨-, -, -, d4, d5, d6⟩ | ⟨d1, -⟩ | ⟨d1, -⟩
      · refine ⟨?_, c6.trans d6.symm⟩
        by_cases q : 8 < t2 - t1
        · rw [c4 q, d4 q]
        · rw [c5 (by omega), d5 (by omega)]
      · unfold pt_le at c1; unfold pt_di at d1; omega
      · exact absurd c1 d1
    · rcases b4 with ⟨d1, -⟩ | ⟨-, -, -, d4, d5, d6⟩ | ⟨-, d1, -⟩
      · unfold pt_di at c1; unfold pt_le at d1; omega
      · refine ⟨?_, c6.trans d6.symm⟩
        by_cases q : 4 < t2 - t1
        · rw [c4 q, d4 q]
        · rw [c5 (by omega), d5 (by omega)]
      · exact absurd c1 d1
    · rcases b4 with ⟨d1, -⟩ | ⟨d1, -⟩ | ⟨-, -, -, d4, d5, d6⟩
      · exact absurd d1 c1
      · exact absurd d1 c2
      · refine ⟨?_, c6.trans d6.symm⟩
        by_cases q : pt_si (T t1)
        · rw [c4 q, d4 q]
        · rw [c5 q, d5 q]
  rw [key.1, key.2]
theorem pt_sg.u {T : Nat → Int} {z : Nat} : ∀ {L L' : List pt_tok} {k : Nat}, pt_sg T z k L z → pt_sg T z k L' z → L = L'
  | [], [], _, _, _ => rfl
  | [], u :: _, _, h, h' => by
    have a := h'.2.1.nb
    have b := h'.2.1.1
    have c := h'.2.1.2.1
    exact absurd (h.2 u.1 h'.1.1 (by omega)) a
  | t :: _, [], _, h, h' => by
    have a := h.2.1.nb
    have b := h.2.1.1
    have c := h.2.1.2.1
    exact absurd (h'.2 t.1 h.1.1 (by omega)) a
  | t :: L, u :: L', k, h, h' => by
    have e : t.1 = u.1 := by
      rcases (by omega : t.1 < u.1 ∨ u.1 < t.1 ∨ t.1 = u.1) with q | q | q
      · exact absurd (h'.1.2 t.1 h.1.1 q) h.2.1.nb
      · exact absurd (h.1.2 u.1 h'.1.1 q) h'.2.1.nb
      · exact q
    have e2 := h.2.1.eq h'.2.1 e
    subst e2
    rw [pt_sg.u h.2.2 h'.2.2]
/-- how many tokens there can be -/
theorem pt_sg.len {T : Nat → Int} {z e : Nat} : ∀ {L : List pt_tok} {k : Nat}, pt_sg T z k L e → k + L.length ≤ e
  | [], _, h => h.1
  | _ :: L, _, h => by
    have a := pt_sg.len h.2.2
    have b := h.2.1.1
    have c := h.1.1
    rw [List.length_cons]
    omega
/-- kind, value, place of a token by its number -/
abbrev pt_gt (L : List pt_tok) (i : Nat) : pt_tok := L.getD i (0, 0, 0, 0)
theorem pt_gt0 {L : List pt_tok} {t : pt_tok} {i : Nat} (h : i < L.length) : pt_gt (L ++ [t]) i = pt_gt L i := by
  unfold pt_gt
  rw [List.getD_eq_getElem?_getD, List.getD_eq_getElem?_getD, List.getElem?_append_left h]
theorem pt_gt1 {L : List pt_tok} {t : pt_tok} : pt_gt (L ++ [t]) L.length = t := by
  unfold pt_gt
  rw [List.getD_eq_getElem?_getD, List.getElem?_append_right (Nat.le_refl _), Nat.sub_self]
  rfl
theorem pt_gt2 {L : List pt_tok} {i : Nat} (h : L.length ≤ i) : pt_gt L i = (0, 0, 0, 0) := by
  unfold pt_gt
  rw [List.getD_eq_getElem?_getD, List.getElem?_eq_none h]
  rfl
def pt_K (L : List pt_tok) (i : Nat) : Int := (pt_gt L i).2.2.1
def pt_V (L : List pt_tok) (i : Nat) : Int := (pt_gt L i).2.2.2
def pt_P (L : List pt_tok) (z i : Nat) : Int := if i < L.length then (pt_gt L i).1 else z
/-- the numbers of letters are small -/
theorem pt_hwB {T : Nat → Int} {s : Nat} : ∀ n : Nat, (∀ j : Nat, j < n → pt_le (T (s + j))) → 0 ≤ pt_hw T s n ∧ pt_hw T s n < 37 ^ n := by
  intro n
  induction n with
  | zero => intro _; exact ⟨Int.le_refl _, show (0 : Int) < 37 ^ 0 from by decide⟩
  | succ n ih =>
    intro H
    have a := ih (fun j hj => H j (by omega))
    have b := H n (by omega)
    unfold pt_le at b
    show 0 ≤ 37 * pt_hw T s n + (T (s + n) - 96) ∧ 37 * pt_hw T s n + (T (s + n) - 96) < 37 ^ (n + 1)
    rw [Int.pow_succ]
    generalize (37 : Int) ^ n = p at a
    omega
theorem pt_hdB {T : Nat → Int} {s : Nat} : ∀ n : Nat, (∀ j : Nat, j < n → pt_di (T (s + j))) → 0 ≤ pt_hd T s n ∧ pt_hd T s n < 10 ^ n := by
  intro n
  induction n with
  | zero => intro _; exact ⟨Int.le_refl _, show (0 : Int) < 10 ^ 0 from by decide⟩
  | succ n ih =>
    intro H
    have a := ih (fun j hj => H j (by omega))
    have b := H n (by omega)
    unfold pt_di at b
    show 0 ≤ 10 * pt_hd T s n + (T (s + n) - 48) ∧ 10 * pt_hd T s n + (T (s + n) - 48) < 10 ^ (n + 1)
    rw [Int.pow_succ]
    generalize (10 : Int) ^ n = p at a
    omega
/-- the same letters, if the same number -/
theorem pt_hwI {T T' : Nat → Int} {s s' : Nat} : ∀ n n' : Nat, (∀ j : Nat, j < n → pt_le (T (s + j))) → (∀ j : Nat, j < n' → pt_le (T' (s' + j))) → pt_hw T s n = pt_hw T' s' n' → n = n' ∧ ∀ j : Nat, j < n → T (s + j) = T' (s' + j)
  | 0, 0, _, _, _ => ⟨rfl, fun j hj => by omega⟩
  | 0, n + 1, _, H', e => by
    have b := H' n (by omega)
    have a := (pt_hwB n (fun j hj => H' j (by omega))).1
    have e : (0 : Int) = 37 * pt_hw T' s' n + (T' (s' + n) - 96) := e
    unfold pt_le at b
    omega
  | n + 1, 0, H, _, e => by
    have b := H n (by omega)
    have a := (pt_hwB n (fun j hj => H j (by omega))).1
    have e : 37 * pt_hw T s n + (T (s + n) - 96) = (0 : Int) := e
    unfold pt_le at b
    omega
  | n + 1, n' + 1, H, H', e => by
    have b := H n (by omega)
    have b' := H' n' (by omega)
    have e : 37 * pt_hw T s n + (T (s + n) - 96) = 37 * pt_hw T' s' n' + (T' (s' + n') - 96) := e
    unfold pt_le at b b'
    obtain ⟨u, v⟩ := pt_hwI n n' (fun j hj => H j (by omega)) (fun j hj => H' j (by omega)) (by omega)
    refine ⟨by omega, fun j hj => ?_⟩
    by_cases q : j = n
    · subst q; rw [← u] at e b'; omega
    · exact v j (by omega)
/-- the model's tokens so far -/
def pt_LI (L : List pt_tok) (g : pm_H) : Prop := ∀ i : Nat, i < L.length → pw_g g 127 i = pt_K L i ∧ pw_gm g 129 i = pt_V L i ∧ pw_g g 128 i = ((pt_gt L i).1 : Int)
theorem pt_LI.z {g : pm_H} : pt_LI [] g := fun i hi => absurd hi (by rw [List.length_nil]; omega)
theorem pt_LI.st {L : List pt_tok} {t : pt_tok} {n s a : Int} {w : Int64} {g g1 g2 g3 : pm_H} (H : pt_LI L g) (hn : L.length = n.toNat) (h0 : 0 ≤ n) (h1 : n < 1002) (w1 : pw_w g 128 n.toNat (pw_i a) = g1) (w2 : pw_w g1 127 n.toNat (pw_i s) = g2) (w3 : pw_w g2 129 n.toNat (.long w) = g3) (I : pw_I g) (I1 : pw_I g1) (I2 : pw_I g2) (a0 : 0 ≤ a) (a1 : a ≤ 1000) (s0 : 0 ≤ s) (s1 : s ≤ 4) (ta : ((t.1 : Nat) : Int) = a) (ts : t.2.2.1 = s) (tw : t.2.2.2 = w.toInt) : pt_LI (L ++ [t]) g3 := by
  intro i hi
  rw [List.length_append] at hi
  have hi : i < L.length + 1 := hi
  unfold pt_K pt_V
  by_cases q : i < L.length
  · rw [pt_gt0 q, ← w3, pw_g_ne (by omega), pw_gm_ne (by omega), pw_g_ne (by omega), ← w2, pw_g_ne (by omega), pw_gm_ne (by omega), pw_g_ne (by omega), ← w1, pw_g_ne (by omega), pw_gm_ne (by omega), pw_g_ne (by omega)]
    exact H i q
  · have e : i = L.length := by omega
    subst e
    rw [pt_gt1, ta, ts, tw]
    refine ⟨?_, ?_, ?_⟩
    · rw [hn, ← w3, pw_g_ne (by omega), ← w2]
      exact pw_g_eqA I1 rfl (by omega) (by omega) (by omega)
    · rw [hn, ← w3]
      exact pw_gm_eqA I2 rfl (by omega)
    · rw [hn, ← w3, pw_g_ne (by omega), ← w2, pw_g_ne (by omega), ← w1]
      exact pw_g_eqA I rfl (by omega) (by omega) (by omega)
def pt_LJ (T : Nat → Int) (z : Nat) (n k : Int) (g : pm_H) : Prop := ∃ L : List pt_tok, L.length = n.toNat ∧ pt_sg T z 0 L k.toNat ∧ pt_LI L g
theorem pt_LJ.z {T : Nat → Int} {z : Nat} {g : pm_H} : pt_LJ T z 0 0 g := ⟨[], rfl, ⟨Nat.le_refl _, fun j h1 h2 => absurd h2 (by show ¬ j < 0; omega)⟩, pt_LI.z⟩
theorem pt_LJ.bl {T : Nat → Int} {z : Nat} {n k : Int} {g : pm_H} (H : pt_LJ T z n k g) (k0 : 0 ≤ k) (b : pt_bl (T k.toNat)) : pt_LJ T z n (k + 1) g := by
  obtain ⟨L, h1, h2, h3⟩ := H
  refine ⟨L, h1, ?_, h3⟩
  rw [show (k + 1).toNat = k.toNat + 1 by omega]
  exact h2.bl b
theorem pt_LJ.st {T : Nat → Int} {z : Nat} {n s a b : Int} {w : Int64} {v : Int} {g g1 g2 g3 : pm_H} (H : pt_LJ T z n a g) (h0 : 0 ≤ n) (h1 : n < 1002) (w1 : pw_w g 128 n.toNat (pw_i a) = g1) (w2 : pw_w g1 127 n.toNat (pw_i s) = g2) (w3 : pw_w g2 129 n.toNat (.long w) = g3) (I : pw_I g) (I1 : pw_I g1) (I2 : pw_I g2) (a0 : 0 ≤ a) (a1 : a ≤ 1000) (s0 : 0 ≤ s) (s1 : s ≤ 4) (tw : v = w.toInt) (ta : pt_ta T z (a.toNat, b.toNat, s, v)) : pt_LJ T z (n + 1) b g3 := by
  obtain ⟨L, e1, e2, e3⟩ := H
  refine ⟨L ++ [(a.toNat, b.toNat, s, v)], by rw [List.length_append, e1]; show n.toNat + 1 = _; omega, e2.ap ta rfl, e3.st e1 h0 h1 w1 w2 w3 I I1 I2 a0 a1 s0 s1 (by show ((a.toNat : Nat) : Int) = a; omega) rfl tw⟩
theorem pt_taW {T : Nat → Int} {z a b : Nat} {s v : Int} (h1 : a < b) (h2 : b ≤ z) (h3 : ∀ j : Nat, a ≤ j → j < b → pt_le (T j)) (h4 : b < z → ¬ pt_le (T b)) (h5 : 8 < b - a → s = 4) (h6 : b - a ≤ 8 → s = 1) (h7 : v = pt_hw T a (min 8 (b - a))) : pt_ta T z (a, b, s, v) := by
  have q := h3 a (Nat.le_refl _) h1
  refine ⟨h1, h2, fun w => ?_, Or.inl ⟨q, h3, h4, h5, h6, h7⟩⟩
  have w : pt_bl (T a) := w
  unfold pt_le at q
  unfold pt_bl at w
  omega
theorem pt_taN {T : Nat → Int} {z a b : Nat} {s v : Int} (h1 : a < b) (h2 : b ≤ z) (h3 : ∀ j : Nat, a ≤ j → j < b → pt_di (T j)) (h4 : b < z → ¬ pt_di (T b)) (h5 : 4 < b - a → s = 4) (h6 : b - a ≤ 4 → s = 2) (h7 : v = pt_hd T a (min 4 (b - a))) : pt_ta T z (a, b, s, v) := by
  have q := h3 a (Nat.le_refl _) h1
  refine ⟨h1, h2, fun w => ?_, Or.inr (Or.inl ⟨q, h3, h4, h5, h6, h7⟩)⟩
  have w : pt_bl (T a) := w
  unfold pt_di at q
  unfold pt_bl at w
  omega
theorem pt_taS {T : Nat → Int} {z a b : Nat} {s v : Int} (h1 : b = a + 1) (h2 : b ≤ z) (h3 : ¬ pt_bl (T a)) (h4 : ¬ pt_le (T a)) (h5 : ¬ pt_di (T a)) (h6 : pt_si (T a) → s = 3) (h7 : ¬ pt_si (T a) → s = 4) (h8 : v = T a) : pt_ta T z (a, b, s, v) := ⟨by show a < b; omega, h2, h3, Or.inr (Or.inr ⟨h4, h5, h1, h6, h7, h8⟩)⟩
/-- letter by letter, digit by digit -/
def pt_WL (T : Nat → Int) (a k v : Int) : Prop := (∀ j : Nat, a.toNat ≤ j → j < k.toNat → pt_le (T j)) ∧ v = pt_hw T a.toNat (min 8 (k.toNat - a.toNat))
theorem pt_WL.z {T : Nat → Int} {a : Int} : pt_WL T a a 0 := ⟨fun j h1 h2 => by omega, by rw [Nat.sub_self]; rfl⟩
theorem pt_WL.s {T : Nat → Int} {a k v : Int} (H : pt_WL T a k v) (a0 : 0 ≤ a) (k0 : a ≤ k) (c : pt_le (T k.toNat)) : (8 ≤ k - a → pt_WL T a (k + 1) v) ∧ (k - a < 8 → pt_WL T a (k + 1) (37 * v + (T k.toNat - 96)) ∧ 0 ≤ v ∧ 37 * v + (T k.toNat - 96) ≤ 3512479453921) := by
  obtain ⟨h1, h2⟩ := H
  have h3 : ∀ j : Nat, a.toNat ≤ j → j < (k + 1).toNat → pt_le (T j) := fun j p q => by
    by_cases e : j = k.toNat
    · rw [e]; exact c
    · exact h1 j p (by omega)
  refine ⟨fun q => ⟨h3, ?_⟩, fun q => ?_⟩
  · rw [h2, show min 8 ((k + 1).toNat - a.toNat) = 8 by omega, show min 8 (k.toNat - a.toNat) = 8 by omega]
  · have e : pt_hw T a.toNat (min 8 ((k + 1).toNat - a.toNat)) = 37 * v + (T k.toNat - 96) := by
      rw [h2, show min 8 ((k + 1).toNat - a.toNat) = (k.toNat - a.toNat) + 1 by omega, show min 8 (k.toNat - a.toNat) = k.toNat - a.toNat by omega]
      show 37 * pt_hw T a.toNat (k.toNat - a.toNat) + (T (a.toNat + (k.toNat - a.toNat)) - 96) = _
      rw [show a.toNat + (k.toNat - a.toNat) = k.toNat by omega]
    have B := (pt_hwB (T := T) (s := a.toNat) (min 8 (k.toNat - a.toNat)) (fun j hj => h1 _ (by omega) (by omega))).1
    have C := (pt_hwB (T := T) (s := a.toNat) (min 8 ((k + 1).toNat - a.toNat)) (fun j hj => h3 _ (by omega) (by omega))).2
    have D : (37 : Int) ^ (min 8 ((k + 1).toNat - a.toNat)) ≤ 3512479453921 := by
      have : ∀ n : Nat, n ≤ 8 → (37 : Int) ^ n ≤ 3512479453921 := by decide
      exact this _ (by omega)
    exact ⟨⟨h3, e.symm⟩, by omega, by omega⟩
def pt_WD (T : Nat → Int) (a k v : Int) : Prop := (∀ j : Nat, a.toNat ≤ j → j < k.toNat → pt_di (T j)) ∧ v = pt_hd T a.toNat (min 4 (k.toNat - a.toNat))
theorem pt_WD.z {T : Nat → Int} {a : Int} : pt_WD T a a 0 := ⟨fun j h1 h2 => by omega, by rw [Nat.sub_self]; rfl⟩
theorem pt_WD.s {T : Nat → Int} {a k v : Int} (H : pt_WD T a k v) (a0 : 0 ≤ a) (k0 : a ≤ k) (c : pt_di (T k.toNat)) : (4 ≤ k - a → pt_WD T a (k + 1) v) ∧ (k - a < 4 → pt_WD T a (k + 1) (10 * v + T k.toNat - 48) ∧ 0 ≤ v ∧ 10 * v + T k.toNat - 48 ≤ 9999) := by
  obtain ⟨h1, h2⟩ := H
  have h3 : ∀ j : Nat, a.toNat ≤ j → j < (k + 1).toNat → pt_di (T j) := fun j p q => by
    by_cases e : j = k.toNat
    · rw [e]; exact c
    · exact h1 j p (by omega)
  refine ⟨fun q => ⟨h3, ?_⟩, fun q => ?_⟩
  · rw [h2, show min 4 ((k + 1).toNat - a.toNat) = 4 by omega, show min 4 (k.toNat - a.toNat) = 4 by omega]
  · have e : pt_hd T a.toNat (min 4 ((k + 1).toNat - a.toNat)) = 10 * v + (T k.toNat - 48) := by
      rw [h2, show min 4 ((k + 1).toNat - a.toNat) = (k.toNat - a.toNat) + 1 by omega, show min 4 (k.toNat - a.toNat) = k.toNat - a.toNat by omega]
      show 10 * pt_hd T a.toNat (k.toNat - a.toNat) + (T (a.toNat + (k.toNat - a.toNat)) - 48) = _
      rw [show a.toNat + (k.toNat - a.toNat) = k.toNat by omega]
    have B := (pt_hdB (T := T) (s := a.toNat) (min 4 (k.toNat - a.toNat)) (fun j hj => h1 _ (by omega) (by omega))).1
    have C := (pt_hdB (T := T) (s := a.toNat) (min 4 ((k + 1).toNat - a.toNat)) (fun j hj => h3 _ (by omega) (by omega))).2
    have D : (10 : Int) ^ (min 4 ((k + 1).toNat - a.toNat)) ≤ 10000 := by
      have : ∀ n : Nat, n ≤ 4 → (10 : Int) ^ n ≤ 10000 := by decide
      exact this _ (by omega)
    exact ⟨⟨h3, by rw [e]; omega⟩, by omega, by omega⟩
end
