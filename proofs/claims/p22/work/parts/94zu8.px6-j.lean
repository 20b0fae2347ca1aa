section
/-! texts: how the class's Reader stands between two tokens -/
/-- a line's code -/
def px_sg (h : pm_H) (k : Int) : List Int := px_st (fun j => pw_g h 36 ((pw_g h 32 k.toNat).toNat + j)) (pw_g h 33 k.toNat - pw_g h 32 k.toNat).toNat
def px_M1 (wr : Int) (h : pm_H) (th : Int → Int) (C : Int → List Int) (N : Int → Int) (k : Int) : Prop := pw_g h 31 k.toNat = th k ∧ (th k = 0 ∨ (th k = 1 ∧ 0 ≤ pw_g h 32 k.toNat ∧ pw_g h 32 k.toNat ≤ pw_g h 33 k.toNat ∧ pw_g h 33 k.toNat ≤ pw_g h 30 1 ∧ px_sg h k = C k ∧ (0 ≤ pt_FO wr k → pw_g h 34 k.toNat = N k)))
def px_ML (wr : Int) (h : pm_H) (th : Int → Int) (C : Int → List Int) (N : Int → Int) : Prop := ∀ k : Int, 0 ≤ k → k ≤ 3 → px_M1 wr h th C N k
def px_MX (wr w : Int) (h : pm_H) (th : Int → Int) (C : Int → List Int) (N : Int → Int) : Prop := ∀ k : Int, 0 ≤ k → k ≤ 3 → k ≠ w → px_M1 wr h th C N k
theorem px_M1.eq {wr k : Int} {h h' : pm_H} {th : Int → Int} {C : Int → List Int} {N : Int → Int} (H : px_M1 wr h th C N k) (e1 : pw_g h' 31 k.toNat = pw_g h 31 k.toNat) (e2 : pw_g h' 32 k.toNat = pw_g h 32 k.toNat) (e3 : pw_g h' 33 k.toNat = pw_g h 33 k.toNat) (e4 : pw_g h' 34 k.toNat = pw_g h 34 k.toNat) (l : pw_g h 30 1 ≤ pw_g h' 30 1) (e6 : ∀ j : Nat, (j : Int) < pw_g h 30 1 → pw_g h' 36 j = pw_g h 36 j) : px_M1 wr h' th C N k := by
  obtain ⟨a, b⟩ := H
  refine ⟨by rw [e1]; exact a, ?_⟩
  rcases b with b | ⟨b1, b2, b3, b4, b5, b6⟩
  · exact Or.inl b
  · refine Or.inr ⟨b1, by rw [e2]; exact b2, by rw [e2, e3]; exact b3, by rw [e3]; omega, ?_, fun q => by rw [e4]; exact b6 q⟩
    rw [← b5]
    unfold px_sg
    rw [e2, e3]
    exact px_st_cg _ (fun j hj => e6 _ (by omega))
theorem px_MX.eq {wr w : Int} {h h' : pm_H} {th : Int → Int} {C : Int → List Int} {N : Int → Int} (H : px_MX wr w h th C N) (w0 : 0 ≤ w) (e1 : ∀ j : Nat, j ≠ w.toNat → pw_g h' 31 j = pw_g h 31 j) (e2 : ∀ j : Nat, j ≠ w.toNat → pw_g h' 32 j = pw_g h 32 j) (e3 : ∀ j : Nat, j ≠ w.toNat → pw_g h' 33 j = pw_g h 33 j) (e4 : ∀ j : Nat, j ≠ w.toNat → pw_g h' 34 j = pw_g h 34 j) (l : pw_g h 30 1 ≤ pw_g h' 30 1) (e6 : ∀ j : Nat, (j : Int) < pw_g h 30 1 → pw_g h' 36 j = pw_g h 36 j) : px_MX wr w h' th C N := fun k k0 k3 kw => (H k k0 k3 kw).eq (e1 _ (by omega)) (e2 _ (by omega)) (e3 _ (by omega)) (e4 _ (by omega)) l e6
/-- a line begun -/
def px_LB (wr : Int) (c : Nat) (K V P : Nat → Int) (n : Nat) (R : pt_TR) (h : pm_H) (b : Nat) (w : Int) (th : Int → Int) (C : Int → List Int) (N : Int → Int) : Prop := pt_TI wr K V P n (b : Int) th C N R ∧ b ≤ n ∧ K b ≠ 0 ∧ pt_wo wr K V b = w ∧ 0 ≤ w ∧ w ≤ 3 ∧ th w = 0 ∧ pw_g h c 8 = w ∧ pw_g h 31 w.toNat = 1 ∧ px_MX wr w h th C N
def px_LZ (c : Nat) (h : pm_H) (b : Nat) (w : Int) : Prop := pw_g h 32 w.toNat = pw_g h 30 1 ∧ pw_g h 33 w.toNat = pw_g h 30 1 ∧ pw_g h c 4 = 0 ∧ pw_g h c 5 = 0 ∧ pw_g h c 6 = 0 ∧ pw_g h 30 1 ≤ b
def px_LE (wr : Int) (c : Nat) (K V P : Nat → Int) (n : Nat) (R : pt_TR) (i : Nat) (h : pm_H) : Prop := pw_g h c 7 = 0 ∧ (pw_g h 30 1 = 0 ∨ pw_g h 30 1 + 1 ≤ (i : Int)) ∧ ∃ (th : Int → Int) (C : Int → List Int) (N : Int → Int), pt_TI wr K V P n (i : Int) th C N R ∧ px_ML wr h th C N
/-- an E is being read, from token e on -/
def px_LX (wr : Int) (c : Nat) (K V : Nat → Int) (i : Nat) (h : pm_H) (b : Nat) (w m : Int) : Prop := pw_g h c 7 = 2 + m ∧ (m = 0 ∨ m = 1) ∧ (m = 1 → pt_n8 (px_S c h)) ∧ px_IN c h (pw_g h 32 w.toNat) ((i : Int) - 1) ∧ ∃ e : Nat, ((pt_FO wr w = -1 ∧ e = b + 1) ∨ (pt_FO wr w = -2 ∧ e = b + 2 ∧ K (b + 1) = 1 ∧ V (b + 1) = 1176170)) ∧ pt_MR (pt_FF wr) K V (e : Int) (i : Int) pt_s0 (px_s c h (pw_g h 32 w.toNat) m)
def px_LS (wr : Int) (c : Nat) (K V P : Nat → Int) (n : Nat) (R : pt_TR) (i : Nat) (h : pm_H) : Prop := px_LE wr c K V P n R i h ∨ ∃ (b : Nat) (w : Int) (th : Int → Int) (C : Int → List Int) (N : Int → Int), px_LB wr c K V P n R h b w th C N ∧ ((pw_g h c 7 = 1 ∧ i = b + 1 ∧ pt_FO wr w = -2 ∧ px_LZ c h b w) ∨ (∃ m : Int, px_LX wr c K V i h b w m) ∨ (pw_g h c 7 = 4 ∧ i = b + 1 ∧ 0 ≤ pt_FO wr w ∧ px_LZ c h b w) ∨ (pw_g h c 7 = 5 ∧ i = b + 2 ∧ 0 ≤ pt_FO wr w ∧ px_LZ c h b w ∧ K (b + 1) = 2 ∧ V (b + 1) ≤ pt_FO wr w ∧ pw_g h 34 w.toNat = V (b + 1)))
/-- behind a token -/
def px_LN (wr : Int) (c : Nat) (K V P : Nat → Int) (n : Nat) (R : pt_TR) (i : Nat) (h' : pm_H) (a : Int) : Prop := (a ≠ 0 ∧ R.1 = a + 16 * P i) ∨ (a = 0 ∧ K i = 0 ∧ ∃ (th : Int → Int) (C : Int → List Int) (N : Int → Int), R = (0, th, C, N) ∧ px_ML wr h' th C N ∧ (pw_g h' 30 1 = 0 ∨ pw_g h' 30 1 + 1 ≤ (i : Int))) ∨ (a = 0 ∧ K i ≠ 0 ∧ px_LS wr c K V P n R (i + 1) h')
theorem px_st0 {w : Nat → Int} {n : Nat} (h : n = 0) : px_st w n = [] := by rw [h]; rfl
theorem px_s0E {c : Nat} {h : pm_H} {st : Int} (e4 : pw_g h c 4 = 0) (e5 : pw_g h c 5 = 0) (e6 : pw_g h c 6 = 0) (e1 : st = pw_g h 30 1) : px_s c h st 0 = pt_s0 := by
  have a : px_S c h = [] := px_S0 (by omega)
  have b : px_C h st = [] := px_st0 (by omega)
  unfold px_s
  rw [a, b, e5, e6]
theorem px_IN.z {c : Nat} {h : pm_H} {st T : Int} (e4 : pw_g h c 4 = 0) (e5 : pw_g h c 5 = 0) (e6 : pw_g h c 6 = 0) (e1 : st = pw_g h 30 1) (l0 : 0 ≤ pw_g h 30 1) (e33 : pw_g h 33 (pw_g h c 8).toNat = pw_g h 30 1) (hT : pw_g h 30 1 ≤ T) : px_IN c h st T := by
  have a : px_S c h = [] := px_S0 (by omega)
  refine ⟨by rw [a]; trivial, by rw [a]; exact e5, by rw [a]; exact e6, by omega, by omega, by omega, e33, by omega⟩
/-- the word of a line -/
def px_w46 (wr K V : Int) : Int := if K = 1 then pt_LW wr V else -1
def px_BL (wr : Int) (c : Nat) (w : Int) (h h' : pm_H) : Prop := (pw_g h' c 8 = w ∧ pw_g h' c 4 = 0 ∧ pw_g h' c 5 = 0 ∧ pw_g h' c 6 = 0) ∧ ((pt_FO wr w = -1 ∧ pw_g h' c 7 = 2) ∨ (pt_FO wr w = -2 ∧ pw_g h' c 7 = 1) ∨ (0 ≤ pt_FO wr w ∧ pw_g h' c 7 = 4)) ∧ (pw_g h' 31 w.toNat = 1 ∧ ∀ j : Nat, j ≠ w.toNat → pw_g h' 31 j = pw_g h 31 j) ∧ (pw_g h' 32 w.toNat = pw_g h 30 1 ∧ ∀ j : Nat, j ≠ w.toNat → pw_g h' 32 j = pw_g h 32 j) ∧ (pw_g h' 33 w.toNat = pw_g h 30 1 ∧ ∀ j : Nat, j ≠ w.toNat → pw_g h' 33 j = pw_g h 33 j)
def px_Q46 (wr : Int) (c : Nat) (K V : Int) (h h' : pm_H) (a : Int) : Prop := (K = 0 ∧ a = 0 ∧ h' = h) ∨ (K ≠ 0 ∧ ((px_w46 wr K V < 0 ∧ a = 1) ∨ (0 ≤ px_w46 wr K V ∧ px_w46 wr K V ≤ 3 ∧ ((pw_g h 31 (px_w46 wr K V).toNat ≠ 0 ∧ a = 3) ∨ (pw_g h 31 (px_w46 wr K V).toNat = 0 ∧ a = 0 ∧ px_BL wr c (px_w46 wr K V) h h')))))
theorem px_L0 {wr : Int} {c : Nat} {K V P : Nat → Int} {n : Nat} {R : pt_TR} {i : Nat} {h h' : pm_H} {a : Int} (H : px_LE wr c K V P n R i h) (hi : i ≤ n) (p0 : ∀ j : Nat, 0 ≤ P j) (l0 : 0 ≤ pw_g h 30 1) (Q : px_Q46 wr c (K i) (V i) h h' a) (e1 : pw_g h' 30 1 = pw_g h 30 1) (e4 : ∀ j : Nat, pw_g h' 34 j = pw_g h 34 j) (e6 : ∀ j : Nat, pw_g h' 36 j = pw_g h 36 j) : px_LN wr c K V P n R i h' a := by
  obtain ⟨e7, le, th, C, N, TI, ML⟩ := H
  rcases Q with ⟨k0, a0, e⟩ | ⟨k, Q⟩
  · subst e
    exact Or.inr (Or.inl ⟨a0, k0, th, C, N, TI.en (by omega) k0, ML, le⟩)
  · obtain ⟨s1, -⟩ := TI.st (by omega) k
    have s1 : (pt_line wr K V P th i).1 ≠ 0 → R = ((pt_line wr K V P th i).1, th, C, N) := s1
    have p := p0 i
    rcases Q with ⟨w, rfl⟩ | ⟨w0, w3, Q⟩
    · have e := pt_line_w1 (P := P) (th := th) (show pt_wo wr K V i < 0 from w)
      refine Or.inl ⟨by decide, ?_⟩
      rw [s1 (by omega)]
      exact e
    · have hML := ML _ w0 w3
      rcases Q with ⟨t, rfl⟩ | ⟨t, rfl, B⟩
      · have e := pt_line_t3 (P := P) (th := th) (show pt_wo wr K V i = px_w46 wr (K i) (V i) from rfl) w0 (by rw [← hML.1]; exact t)
        refine Or.inl ⟨by decide, ?_⟩
        rw [s1 (by omega)]
        exact e
      · obtain ⟨⟨b8, b4, b5, b6⟩, bF, ⟨b31, c31⟩, ⟨b32, c32⟩, ⟨b33, c33⟩⟩ := B
        generalize hw : px_w46 wr (K i) (V i) = w at *
        have MX : px_MX wr w h' th C N := px_MX.eq (h := h) (fun k k0 k3 _ => ML k k0 k3) w0 c31 c32 c33 (fun j _ => e4 j) (by omega) (fun j _ => e6 j)
        have LB : px_LB wr c K V P n R h' i w th C N := ⟨TI, hi, k, hw, w0, w3, by rw [← hML.1]; exact t, b8, b31, MX⟩
        have LZ : px_LZ c h' i w := ⟨by omega, by omega, b4, b5, b6, by omega⟩
        refine Or.inr (Or.inr ⟨rfl, k, Or.inr ⟨i, w, th, C, N, LB, ?_⟩⟩)
        rcases bF with ⟨f, g⟩ | ⟨f, g⟩ | ⟨f, g⟩
        · refine Or.inr (Or.inl ⟨0, by omega, Or.inl rfl, fun q => absurd q (by decide), px_IN.z b4 b5 b6 (by omega) (by omega) (by rw [b8]; omega) (by omega), i + 1, Or.inl ⟨f, rfl⟩, ?_⟩)
          rw [px_s0E b4 b5 b6 (by omega)]
          exact pt_MR.rf (by omega)
        · exact Or.inl ⟨g, rfl, f, LZ⟩
        · exact Or.inr (Or.inr (Or.inl ⟨g, rfl, f, LZ⟩))
/-- only what is expected has changed -/
def px_F7 (c : Nat) (h h' : pm_H) (x : Int) : Prop := pw_g h' c 7 = x ∧ (∀ k : Nat, k ≠ 7 → pw_g h' c k = pw_g h c k) ∧ (∀ j : Nat, pw_g h' 30 j = pw_g h 30 j) ∧ (∀ j : Nat, pw_g h' 31 j = pw_g h 31 j) ∧ (∀ j : Nat, pw_g h' 32 j = pw_g h 32 j) ∧ (∀ j : Nat, pw_g h' 33 j = pw_g h 33 j) ∧ ∀ j : Nat, pw_g h' 36 j = pw_g h 36 j
theorem px_LB.eq {wr : Int} {c : Nat} {K V P : Nat → Int} {n : Nat} {R : pt_TR} {h h' : pm_H} {b : Nat} {w : Int} {th : Int → Int} {C : Int → List Int} {N : Int → Int} (H : px_LB wr c K V P n R h b w th C N) (e8 : pw_g h' c 8 = pw_g h c 8) (e1 : ∀ j : Nat, pw_g h' 31 j = pw_g h 31 j) (e2 : ∀ j : Nat, pw_g h' 32 j = pw_g h 32 j) (e3 : ∀ j : Nat, j ≠ w.toNat → pw_g h' 33 j = pw_g h 33 j) (e4 : ∀ j : Nat, j ≠ w.toNat → pw_g h' 34 j = pw_g h 34 j) (l : pw_g h 30 1 ≤ pw_g h' 30 1) (e6 : ∀ j : Nat, (j : Int) < pw_g h 30 1 → pw_g h' 36 j = pw_g h 36 j) : px_LB wr c K V P n R h' b w th C N := by
  obtain ⟨a1, a2, a3, a4, a5, a6, a7, a8, a9, a10⟩ := H
  exact ⟨a1, a2, a3, a4, a5, a6, a7, by rw [e8]; exact a8, by rw [e1]; exact a9, a10.eq a5 (fun j _ => e1 j) (fun j _ => e2 j) e3 e4 l e6⟩
theorem px_LB.st {wr : Int} {c : Nat} {K V P : Nat → Int} {n : Nat} {R : pt_TR} {h : pm_H} {b : Nat} {w : Int} {th : Int → Int} {C : Int → List Int} {N : Int → Int} (H : px_LB wr c K V P n R h b w th C N) : ((pt_line wr K V P th b).1 ≠ 0 → R = ((pt_line wr K V P th b).1, th, C, N)) ∧ ((pt_line wr K V P th b).1 = 0 → (b : Int) < (pt_line wr K V P th b).2.1 → pt_TI wr K V P n (pt_line wr K V P th b).2.1 (fun k => if k = (pt_line wr K V P th b).2.2.1 then 1 else th k) (fun k => if k = (pt_line wr K V P th b).2.2.1 then (pt_line wr K V P th b).2.2.2.1 else C k) (fun k => if k = (pt_line wr K V P th b).2.2.1 then (pt_line wr K V P th b).2.2.2.2 else N k) R) := H.1.st (by have := H.2.1; omega) H.2.2.1
theorem px_LB.end {wr : Int} {c : Nat} {K V P : Nat → Int} {n : Nat} {R : pt_TR} {h : pm_H} {b i : Nat} {w x : Int} {cd : List Int} {th : Int → Int} {C : Int → List Int} {N : Int → Int} (H : px_LB wr c K V P n R h b w th C N) (hl : pt_line wr K V P th b = (0, ((i + 1 : Nat) : Int), w, cd, x)) (hb : b ≤ i) (e7 : pw_g h c 7 = 0) (le : pw_g h 30 1 = 0 ∨ pw_g h 30 1 + 1 ≤ ((i + 1 : Nat) : Int)) (a1 : 0 ≤ pw_g h 32 w.toNat) (a2 : pw_g h 32 w.toNat ≤ pw_g h 33 w.toNat) (a3 : pw_g h 33 w.toNat ≤ pw_g h 30 1) (a4 : px_sg h w = cd) (a5 : 0 ≤ pt_FO wr w → pw_g h 34 w.toNat = x) : px_LE wr c K V P n R (i + 1) h := by
  obtain ⟨-, s2⟩ := H.st
  rw [hl] at s2
  have s2 := s2 rfl (show (b : Int) < ((i + 1 : Nat) : Int) by omega)
  obtain ⟨-, -, -, -, h5, h6, h7, h8, h9, h10⟩ := H
  refine ⟨e7, le, _, _, _, s2, fun k k0 k3 => ?_⟩
  by_cases q : k = w
  · subst q
    refine ⟨h9.trans (if_pos rfl).symm, Or.inr ⟨if_pos rfl, a1, a2, a3, a4.trans (if_pos rfl).symm, fun z => (a5 z).trans (if_pos rfl).symm⟩⟩
  · obtain ⟨b1, b2⟩ := h10 k k0 k3 q
    refine ⟨b1.trans (if_neg q).symm, ?_⟩
    rcases b2 with b2 | ⟨c1, c2, c3, c4, c5, c6⟩
    · exact Or.inl ((if_neg q).trans b2)
    · exact Or.inr ⟨(if_neg q).trans c1, c2, c3, c4, c5.trans (if_neg q).symm, fun z => (c6 z).trans (if_neg q).symm⟩
theorem px_LN.bad {wr : Int} {c : Nat} {K V P : Nat → Int} {n : Nat} {R : pt_TR} {h h' : pm_H} {b i : Nat} {w a : Int} {th : Int → Int} {C : Int → List Int} {N : Int → Int} (H : px_LB wr c K V P n R h b w th C N) (p0 : ∀ j : Nat, 0 ≤ P j) (a0 : 0 < a) (hl : (pt_line wr K V P th b).1 = a + 16 * P i) : px_LN wr c K V P n R i h' a := by
  have p := p0 i
  refine Or.inl ⟨by omega, ?_⟩
  rw [H.st.1 (by omega)]
  exact hl
/-- when -/
theorem px_L1 {wr : Int} {c : Nat} {K V P : Nat → Int} {n : Nat} {R : pt_TR} {i : Nat} {h h' : pm_H} {a : Int} {b : Nat} {w : Int} {th : Int → Int} {C : Int → List Int} {N : Int → Int} (H : px_LB wr c K V P n R h b w th C N) (hi : i = b + 1) (f : pt_FO wr w = -2) (Z : px_LZ c h b w) (p0 : ∀ j : Nat, 0 ≤ P j) (l0 : 0 ≤ pw_g h 30 1) (F : px_F7 c h h' 2) (e4 : ∀ j : Nat, pw_g h' 34 j = pw_g h 34 j) (ha : (a = 0 ∧ K i = 1 ∧ V i = 1176170) ∨ (a = 1 ∧ ¬ (K i = 1 ∧ V i = 1176170))) : px_LN wr c K V P n R i h' a := by
  obtain ⟨f7, fk, f30, f31, f32, f33, f36⟩ := F
  obtain ⟨z1, z2, z3, z4, z5, z6⟩ := Z
  subst hi
  rcases ha with ⟨rfl, k, v⟩ | ⟨rfl, kv⟩
  · refine Or.inr (Or.inr ⟨rfl, by rw [k]; decide, Or.inr ⟨b, w, th, C, N, H.eq (fk 8 (by decide)) f31 f32 (fun j _ => f33 j) (fun j _ => e4 j) (by rw [f30]; exact Int.le_refl _) (fun j _ => f36 j), Or.inr (Or.inl ⟨0, by omega, Or.inl rfl, fun q => absurd q (by decide), ?_, b + 2, Or.inr ⟨f, rfl, k, v⟩, ?_⟩)⟩⟩)
    · have q4 := fk 4 (by decide)
      have q5 := fk 5 (by decide)
      have q6 := fk 6 (by decide)
      have q8 := fk 8 (by decide)
      have q1 := f30 1
      have h8 := H.2.2.2.2.2.2.2.1
      exact px_IN.z (by omega) (by omega) (by omega) (by rw [f32]; omega) (by omega) (by rw [q8, f33, h8]; omega) (by omega)
    · have q4 := fk 4 (by decide)
      have q5 := fk 5 (by decide)
      have q6 := fk 6 (by decide)
      have q1 := f30 1
      rw [px_s0E (by omega) (by omega) (by omega) (by rw [f32]; omega)]
      exact pt_MR.rf (by omega)
  · exact px_LN.bad H p0 (by decide) (pt_line_nw H.2.2.2.1 H.2.2.2.2.1 H.2.2.2.2.2.2.1 f kv)
theorem px_es_m {F : Int → Int} {K V : Int} {s : pt_St} (h : (pt_es F K V s).1 = 0) : (pt_es F K V s).2.1 = 0 ∨ (pt_es F K V s).2.1 = 1 := by
  obtain ⟨a, S, d, o, c⟩ := s
  unfold pt_es at h ⊢
  dsimp only at h ⊢
  by_cases q : a = 0
  · rw [if_pos q] at h ⊢
    unfold pt_eo at h ⊢
    by_cases c1 : ¬ ((K = 1 ∧ (V = 19741 ∨ 0 ≤ F V)) ∨ (K = 3 ∧ V = 40) ∨ K = 2)
    · rw [if_pos c1]; exact Or.inl rfl
    rw [if_neg c1]
    by_cases c2 : 5 ≤ d
    · rw [if_pos c2]; exact Or.inl rfl
    rw [if_neg c2]
    by_cases c3 : K = 1 ∧ V = 19741
    · rw [if_pos c3]; exact Or.inl rfl
    rw [if_neg c3]
    by_cases c4 : K = 3
    · rw [if_pos c4]; exact Or.inl rfl
    · rw [if_neg c4]; exact Or.inr rfl
  · rw [if_neg q] at h ⊢
    unfold pt_er at h ⊢
    by_cases c1 : K = 3 ∧ V = 59
    · rw [if_pos c1]
      by_cases c2 : 0 < o
      · rw [if_pos c2]; exact Or.inr rfl
      · rw [if_neg c2]; exact Or.inr rfl
    rw [if_neg c1]
    by_cases c2 : K = 3 ∧ V = 41
    · rw [if_pos c2]
      by_cases c3 : o ≤ 0
      · rw [if_pos c3]; exact Or.inr rfl
      · rw [if_neg c3]; exact Or.inr rfl
    rw [if_neg c2]
    by_cases c3 : pt_opn K V = -1
    · rw [if_pos c3]; exact Or.inr rfl
    rw [if_neg c3]
    by_cases c4 : pt_rk (pt_opn K V) = 2 ∧ pt_tr (pt_rl 3 S c).1 = 2
    · rw [if_pos c4]; exact Or.inr rfl
    · rw [if_neg c4]; exact Or.inl rfl
/-- a token of an E -/
theorem px_L2 {wr : Int} {c : Nat} {K V P : Nat → Int} {n : Nat} {R : pt_TR} {i : Nat} {h h' : pm_H} {a m : Int} {b : Nat} {w : Int} {th : Int → Int} {C : Int → List Int} {N : Int → Int} (H : px_LB wr c K V P n R h b w th C N) (X : px_LX wr c K V i h b w m) (hi : i ≤ 1000) (p0 : ∀ j : Nat, 0 ≤ P j) (a0 : 0 ≤ a) (a5 : a ≤ 5) (e1 : ∀ j : Nat, pw_g h' 31 j = pw_g h 31 j) (e2 : ∀ j : Nat, pw_g h' 32 j = pw_g h 32 j) (e4 : ∀ j : Nat, pw_g h' 34 j = pw_g h 34 j) (Q : (a ≠ 0 ∧ (pt_es (pt_FF wr) (K i) (V i) (px_s c h (pw_g h 32 w.toNat) m)).1 = a) ∨ (a = 0 ∧ (pt_es (pt_FF wr) (K i) (V i) (px_s c h (pw_g h 32 w.toNat) m)).1 = 0 ∧ px_PO c (pw_g h 32 w.toNat) ((i : Int) - 1 + 1) h h' (pt_es (pt_FF wr) (K i) (V i) (px_s c h (pw_g h 32 w.toNat) m)).2.1 (pt_es (pt_FF wr) (K i) (V i) (px_s c h (pw_g h 32 w.toNat) m)).2) ∨ (a = 0 ∧ (pt_es (pt_FF wr) (K i) (V i) (px_s c h (pw_g h 32 w.toNat) m)).1 = 9 ∧ px_EN c (pw_g h 32 w.toNat) ((i : Int) - 1) h h' (pt_es (pt_FF wr) (K i) (V i) (px_s c h (pw_g h 32 w.toNat) m)).2)) : px_LN wr c K V P n R i h' a := by
  obtain ⟨x7, xm, xn, xI, e, xe, xM⟩ := X
  have h4 := H.2.2.2.1
  have h5 := H.2.2.2.2.1
  have h7 := H.2.2.2.2.2.2.1
  have h8 := H.2.2.2.2.2.2.2.1
  have me : (e : Int) ≤ i := xM.2.1
  generalize hes : pt_es (pt_FF wr) (K i) (V i) (px_s c h (pw_g h 32 w.toNat) m) = es at Q
  have kn : es.1 ≠ 1 → K i ≠ 0 := fun q k => by
    rw [k, pt_es_k0] at hes
    rw [← hes] at q
    exact q rfl
  rcases Q with ⟨q, e'⟩ | ⟨rfl, e0, PO⟩ | ⟨rfl, e9, EN⟩
  · have M : pt_MF (pt_FF wr) K V P (e : Int) pt_s0 (a + 16 * P i) := ⟨(i : Int), _, xM, by omega, by rw [show (pt_es (pt_FF wr) (K (i : Int).toNat) (V (i : Int).toNat) (px_s c h (pw_g h 32 w.toNat) m)) = es from hes, e']; exact q, by rw [show (pt_es (pt_FF wr) (K (i : Int).toNat) (V (i : Int).toNat) (px_s c h (pw_g h 32 w.toNat) m)) = es from hes, e']; omega, by rw [show (pt_es (pt_FF wr) (K (i : Int).toNat) (V (i : Int).toNat) (px_s c h (pw_g h 32 w.toNat) m)) = es from hes, e']; rfl⟩
    have E : pt_E (pt_FF wr) K V P e = (a + 16 * P i, 0, []) := pt_E_mf M
    refine px_LN.bad H p0 (by omega) ?_
    rcases xe with ⟨f, rfl⟩ | ⟨f, rfl, k, v⟩
    · rw [pt_line_E1 h4 h5 h7 f, E]
    · rw [pt_line_E2 h4 h5 h7 f ⟨k, v⟩, E]
  · obtain ⟨g1, g2, g3, g4, g5, g6⟩ := PO
    have mm : es.2.1 = 0 ∨ es.2.1 = 1 := by rw [← hes]; exact px_es_m (by rw [hes]; exact e0)
    have M : pt_MR (pt_FF wr) K V (e : Int) ((i + 1 : Nat) : Int) pt_s0 es.2 := xM.tr (pt_MR.one (by omega) (show pt_es (pt_FF wr) (K i) (V i) _ = (0, es.2) from hes.trans (by rw [← e0])))
    refine Or.inr (Or.inr ⟨rfl, kn (by rw [e0]; decide), Or.inr ⟨b, w, th, C, N, H.eq g6 e1 e2 (fun j hj => g5.2.2.2 j (by rw [h8]; exact hj)) (fun j _ => e4 j) g5.1 g5.2.1, Or.inr (Or.inl ⟨es.2.1, g3, mm, g4, ?_, e, xe, ?_⟩)⟩⟩)
    · rw [e2]; exact g1.wk (by omega)
    · rw [e2]
      have g2 : px_s c h' (pw_g h 32 w.toNat) es.2.1 = es.2 := g2
      rw [g2]
      exact M
  · obtain ⟨g1, g2, g3, g4, g5⟩ := EN
    have hes9 : pt_es (pt_FF wr) (K (i : Int).toNat) (V (i : Int).toNat) (px_s c h (pw_g h 32 w.toNat) m) = (9, es.2) := hes.trans (by rw [← e9])
    have rn := pt_rn_end xM (by omega) hes9
    have E : pt_E (pt_FF wr) K V P e = (0, ((i + 1 : Nat) : Int), es.2.2.2.2.2) := by
      unfold pt_E
      have rn : pt_rn (pt_FF wr) K V 1100 e pt_s0 = (9, i, es.2) := rn
      rw [rn, if_pos rfl]
      rfl
    have hB3 := g2.2.2.1
    rw [h8] at hB3
    obtain ⟨-, -, -, -, i5, i6, -, -⟩ := xI
    have hl : pt_line wr K V P th b = (0, ((i + 1 : Nat) : Int), w, es.2.2.2.2.2, 0) := by
      rcases xe with ⟨f, rfl⟩ | ⟨f, rfl, k, v⟩
      · rw [pt_line_E1 h4 h5 h7 f, E]
      · rw [pt_line_E2 h4 h5 h7 f ⟨k, v⟩, E]
    have be : b ≤ i := by omega
    have gl := g2.1
    have H' : px_LB wr c K V P n R h' b w th C N := H.eq g5 e1 e2 (fun j hj => g2.2.2.2 j (by rw [h8]; exact hj)) (fun j _ => e4 j) g2.1 g2.2.1
    refine Or.inr (Or.inr ⟨rfl, kn (by rw [e9]; decide), Or.inl (H'.end hl be g3 (by omega) (by rw [e2]; exact i5) (by rw [e2]; omega) (by omega) ?_ (fun z => by omega))⟩)
    rw [← g1]
    unfold px_sg px_C
    rw [e2, hB3]
/-- a numeral -/
def px_Q56 (wr : Int) (c : Nat) (K V : Int) (h h' : pm_H) (a : Int) : Prop := (K ≠ 2 ∧ a = 1) ∨ (K = 2 ∧ ((pt_FO wr (pw_g h c 8) < V ∧ a = 4) ∨ (V ≤ pt_FO wr (pw_g h c 8) ∧ a = 0 ∧ pw_g h' c 7 = 5 ∧ (∀ k : Nat, k ≠ 7 → pw_g h' c k = pw_g h c k) ∧ pw_g h' 34 (pw_g h c 8).toNat = V ∧ ∀ j : Nat, j ≠ (pw_g h c 8).toNat → pw_g h' 34 j = pw_g h 34 j)))
theorem px_L4 {wr : Int} {c : Nat} {K V P : Nat → Int} {n : Nat} {R : pt_TR} {i : Nat} {h h' : pm_H} {a : Int} {b : Nat} {w : Int} {th : Int → Int} {C : Int → List Int} {N : Int → Int} (H : px_LB wr c K V P n R h b w th C N) (hi : i = b + 1) (f : 0 ≤ pt_FO wr w) (Z : px_LZ c h b w) (p0 : ∀ j : Nat, 0 ≤ P j) (Q : px_Q56 wr c (K i) (V i) h h' a) (f30 : ∀ j : Nat, pw_g h' 30 j = pw_g h 30 j) (f31 : ∀ j : Nat, pw_g h' 31 j = pw_g h 31 j) (f32 : ∀ j : Nat, pw_g h' 32 j = pw_g h 32 j) (f33 : ∀ j : Nat, pw_g h' 33 j = pw_g h 33 j) (f36 : ∀ j : Nat, pw_g h' 36 j = pw_g h 36 j) : px_LN wr c K V P n R i h' a := by
  have h4 := H.2.2.2.1
  have h5 := H.2.2.2.2.1
  have h7 := H.2.2.2.2.2.2.1
  have h8 := H.2.2.2.2.2.2.2.1
  subst hi
  unfold px_Q56 at Q
  rw [h8] at Q
  rcases Q with ⟨k, rfl⟩ | ⟨k, ⟨q, rfl⟩ | ⟨q, rfl, g7, gk, g4, g4n⟩⟩
  · exact px_LN.bad H p0 (by decide) (pt_line_n1 h4 h5 h7 f k)
  · exact px_LN.bad H p0 (by decide) (pt_line_n4 h4 h5 h7 f k q)
  · obtain ⟨z1, z2, z3, z4, z5, z6⟩ := Z
    have q4 := gk 4 (by decide)
    have q5 := gk 5 (by decide)
    have q6 := gk 6 (by decide)
    have q1 := f30 1
    exact Or.inr (Or.inr ⟨rfl, by rw [k]; decide, Or.inr ⟨b, w, th, C, N, H.eq (gk 8 (by decide)) f31 f32 (fun j _ => f33 j) g4n (by omega) (fun j _ => f36 j), Or.inr (Or.inr (Or.inr ⟨g7, rfl, f, ⟨by rw [f32]; omega, by rw [f33]; omega, by omega, by omega, by omega, by omega⟩, k, q, g4⟩))⟩⟩)
/-- the sign behind a numeral -/
theorem px_L5 {wr : Int} {c : Nat} {K V P : Nat → Int} {n : Nat} {R : pt_TR} {i : Nat} {h h' : pm_H} {a : Int} {b : Nat} {w : Int} {th : Int → Int} {C : Int → List Int} {N : Int → Int} (H : px_LB wr c K V P n R h b w th C N) (hi : i = b + 2) (f : 0 ≤ pt_FO wr w) (Z : px_LZ c h b w) (k2 : K (b + 1) = 2) (v2 : V (b + 1) ≤ pt_FO wr w) (n2 : pw_g h 34 w.toNat = V (b + 1)) (p0 : ∀ j : Nat, 0 ≤ P j) (l0 : 0 ≤ pw_g h 30 1) (F : px_F7 c h h' 0) (e4 : ∀ j : Nat, pw_g h' 34 j = pw_g h 34 j) (ha : (a = 0 ∧ K i = 3 ∧ V i = 59) ∨ (a = 1 ∧ ¬ (K i = 3 ∧ V i = 59))) : px_LN wr c K V P n R i h' a := by
  have h4 := H.2.2.2.1
  have h5 := H.2.2.2.2.1
  have h7 := H.2.2.2.2.2.2.1
  obtain ⟨f7, fk, f30, f31, f32, f33, f36⟩ := F
  obtain ⟨z1, z2, z3, z4, z5, z6⟩ := Z
  subst hi
  have q1 := f30 1
  rcases ha with ⟨rfl, k, v⟩ | ⟨rfl, kv⟩
  · have H' : px_LB wr c K V P n R h' b w th C N := H.eq (fk 8 (by decide)) f31 f32 (fun j _ => f33 j) (fun j _ => e4 j) (by omega) (fun j _ => f36 j)
    have hl := pt_line_nn (P := P) h4 h5 h7 f k2 (by omega) ⟨k, v⟩
    have z32 := f32 w.toNat
    have z33 := f33 w.toNat
    refine Or.inr (Or.inr ⟨rfl, by rw [k]; decide, Or.inl (H'.end (i := b + 2) (hl.trans rfl) (by omega) f7 (by omega) (by omega) (by omega) (by omega) ?_ (fun _ => by rw [e4]; exact n2))⟩)
    exact px_st0 (by omega)
  · exact px_LN.bad H p0 (by decide) (pt_line_ns h4 h5 h7 f k2 (by omega) kv)
end
section
/-! texts: the forms of lines; a text's tokens one by one -/
def pw_Xf (X : List (Nat × List Value)) : Prop := X[1]? = some (0, [pw_i (-1), pw_i (-1), pw_i (-2), pw_i (-2)]) ∧ X[2]? = some (0, [pw_i (-2), pw_i 11, pw_i 11, pw_i 10])
theorem pw_Xf0 (xs : List Int32) : pw_Xf (pm_ext xs) := ⟨rfl, rfl⟩
theorem pw_xaldE {X : List (Nat × List Value)} {d : Nat} {h : pm_H} {m pc pc' len na nl own rt a : Nat} {C : pm_T (Instr × Nat)} {ls : pm_L} {r l : List Value} {Q : pm_H → (Option Value ⊕ Unit) → Prop} {j y : Int} (he : pm_ent m = some (na, nl, own, rt, C)) (hq : pm_get C pc = some (.iaload, len)) (hX : X[a]? = some (0, l)) (ha : a < 16) (h0 : 0 ≤ j) (h1 : j ≤ 100) (hy : l[j.toNat]? = some (pw_i y)) (hc : pc + len = pc') (H : pw X d h m pc' ls (pw_i y :: r) Q) : pw X d h m pc ls (pw_i j :: .ref a :: r) Q := by
  subst hc
  refine pw_ld he hq (st' := pw_i y :: r) (pc' := pc + len) (fun ih => ?_) H
  show pm_gAld X 0 0 ih d h m own pc len ls (pw_i j :: .ref a :: r) = _
  have hrow : pm_row X h a = some (0, l) := by
    unfold pm_row
    rw [show Nat.blt a 16 = true from Nat.ble_eq_true_of_le ha, cond_true, pm_nth_eq, hX]
    rfl
  unfold pm_gAld pw_i
  dsimp only
  rw [hrow]
  show cond (Nat.beq 0 0 || Nat.beq 0 0) (cond (decide (Int32.ofInt j < 0)) none (match pm_nth l (Int32.ofInt j).toNatClampNeg with
        | some (.int x) => pm_fn (pc + len) fun q => ih d h m q ls (.int x :: r)
        | _ => none)) none = _
  rw [decide_eq_false (pw_neg h0 (by omega)), pw_clamp h0 (by omega), pm_nth_eq, hy]
  show pm_fn (pc + len) (fun q => ih d h m q ls (.int (Int32.ofInt y) :: r)) = _
  rw [pm_fn_eq]
theorem px_FO1 {j : Int} (h0 : 0 ≤ j) (h3 : j ≤ 3) : ([pw_i (-1), pw_i (-1), pw_i (-2), pw_i (-2)] : List Value)[j.toNat]? = some (pw_i (pt_FO 0 j)) := by
  rcases (by omega : j = 0 ∨ j = 1 ∨ j = 2 ∨ j = 3) with rfl | rfl | rfl | rfl <;> rfl
theorem px_FO2 {j : Int} (h0 : 0 ≤ j) (h3 : j ≤ 3) : ([pw_i (-2), pw_i 11, pw_i 11, pw_i 10] : List Value)[j.toNat]? = some (pw_i (pt_FO 1 j)) := by
  rcases (by omega : j = 0 ∨ j = 1 ∨ j = 2 ∨ j = 3) with rfl | rfl | rfl | rfl <;> rfl
theorem px_FOB (wr w : Int) : pt_FO wr w = -1 ∨ pt_FO wr w = -2 ∨ (10 ≤ pt_FO wr w ∧ pt_FO wr w ≤ 11) := by
  unfold pt_FO
  repeat' split
  all_goals omega
theorem px_w46B (wr K V : Int) : -1 ≤ px_w46 wr K V ∧ px_w46 wr K V ≤ 3 := by
  unfold px_w46 pt_LW
  have a := pt_fdB (g := fun k => pt_wc k) (V := V) 4
  have b := pt_fdB (g := fun k => pt_wc (18 + k)) (V := V) 4
  repeat' split
  all_goals omega
/-- a line is begun in the draft -/
def px_BG (h h' : pm_H) (li : Int) : Prop := (pw_g h' 31 li.toNat = 1 ∧ ∀ j : Nat, j ≠ li.toNat → pw_g h' 31 j = pw_g h 31 j) ∧ (pw_g h' 32 li.toNat = pw_g h 30 1 ∧ ∀ j : Nat, j ≠ li.toNat → pw_g h' 32 j = pw_g h 32 j) ∧ (pw_g h' 33 li.toNat = pw_g h 30 1 ∧ ∀ j : Nat, j ≠ li.toNat → pw_g h' 33 j = pw_g h 33 j)
/-- which way it stands, by what is expected -/
theorem px_LS.c0 {wr : Int} {c : Nat} {K V P : Nat → Int} {n : Nat} {R : pt_TR} {i : Nat} {h : pm_H} (H : px_LS wr c K V P n R i h) (e : pw_g h c 7 = 0) : px_LE wr c K V P n R i h := by
  rcases H with H | ⟨b, w, th, C, N, -, ⟨q, -⟩ | ⟨m, q, m2, -⟩ | ⟨q, -⟩ | ⟨q, -⟩⟩
  · exact H
  all_goals omega
theorem px_LS.c1 {wr : Int} {c : Nat} {K V P : Nat → Int} {n : Nat} {R : pt_TR} {i : Nat} {h : pm_H} (H : px_LS wr c K V P n R i h) (e : pw_g h c 7 = 1) : ∃ (b : Nat) (w : Int) (th : Int → Int) (C : Int → List Int) (N : Int → Int), px_LB wr c K V P n R h b w th C N ∧ i = b + 1 ∧ pt_FO wr w = -2 ∧ px_LZ c h b w := by
  rcases H with H | ⟨b, w, th, C, N, B, ⟨q, z⟩ | ⟨m, q, m2, -⟩ | ⟨q, -⟩ | ⟨q, -⟩⟩
  · have := H.1; omega
  · exact ⟨b, w, th, C, N, B, z⟩
  all_goals omega
theorem px_LS.cX {wr m : Int} {c : Nat} {K V P : Nat → Int} {n : Nat} {R : pt_TR} {i : Nat} {h : pm_H} (H : px_LS wr c K V P n R i h) (e : pw_g h c 7 = 2 + m) (hm : m = 0 ∨ m = 1) : ∃ (b : Nat) (w : Int) (th : Int → Int) (C : Int → List Int) (N : Int → Int), px_LB wr c K V P n R h b w th C N ∧ px_LX wr c K V i h b w m := by
  rcases H with H | ⟨b, w, th, C, N, B, ⟨q, z⟩ | ⟨m', X⟩ | ⟨q, -⟩ | ⟨q, -⟩⟩
  · have := H.1; omega
  · omega
  · have e2 : m' = m := by have := X.1; omega
    rw [e2] at X
    exact ⟨b, w, th, C, N, B, X⟩
  all_goals omega
theorem px_LS.c4 {wr : Int} {c : Nat} {K V P : Nat → Int} {n : Nat} {R : pt_TR} {i : Nat} {h : pm_H} (H : px_LS wr c K V P n R i h) (e : pw_g h c 7 = 4) : ∃ (b : Nat) (w : Int) (th : Int → Int) (C : Int → List Int) (N : Int → Int), px_LB wr c K V P n R h b w th C N ∧ i = b + 1 ∧ 0 ≤ pt_FO wr w ∧ px_LZ c h b w := by
  rcases H with H | ⟨b, w, th, C, N, B, ⟨q, z⟩ | ⟨m, q, m2, -⟩ | ⟨q, z⟩ | ⟨q, -⟩⟩
  · have := H.1; omega
  · omega
  · omega
  · exact ⟨b, w, th, C, N, B, z⟩
  · omega
theorem px_LS.c5 {wr : Int} {c : Nat} {K V P : Nat → Int} {n : Nat} {R : pt_TR} {i : Nat} {h : pm_H} (H : px_LS wr c K V P n R i h) (e : pw_g h c 7 = 5) : ∃ (b : Nat) (w : Int) (th : Int → Int) (C : Int → List Int) (N : Int → Int), px_LB wr c K V P n R h b w th C N ∧ i = b + 2 ∧ 0 ≤ pt_FO wr w ∧ px_LZ c h b w ∧ K (b + 1) = 2 ∧ V (b + 1) ≤ pt_FO wr w ∧ pw_g h 34 w.toNat = V (b + 1) := by
  rcases H with H | ⟨b, w, th, C, N, B, ⟨q, z⟩ | ⟨m, q, m2, -⟩ | ⟨q, z⟩ | ⟨q, z⟩⟩
  · have := H.1; omega
  · omega
  · omega
  · omega
  · exact ⟨b, w, th, C, N, B, z⟩
/-- only Tokens have changed -/
theorem px_LS.eq {wr : Int} {c : Nat} {K V P : Nat → Int} {n : Nat} {R : pt_TR} {i : Nat} {h h' : pm_H} (H : px_LS wr c K V P n R i h) (ec : ∀ k : Nat, pw_g h' c k = pw_g h c k) (ew : ∀ k : Nat, pw_g h' (c + 1) k = pw_g h (c + 1) k) (e0 : ∀ k : Nat, pw_g h' 30 k = pw_g h 30 k) (e1 : ∀ k : Nat, pw_g h' 31 k = pw_g h 31 k) (e2 : ∀ k : Nat, pw_g h' 32 k = pw_g h 32 k) (e3 : ∀ k : Nat, pw_g h' 33 k = pw_g h 33 k) (e4 : ∀ k : Nat, pw_g h' 34 k = pw_g h 34 k) (e6 : ∀ k : Nat, pw_g h' 36 k = pw_g h 36 k) : px_LS wr c K V P n R i h' := by
  have ec : pw_g h' c = pw_g h c := funext ec
  have ew : pw_g h' (c + 1) = pw_g h (c + 1) := funext ew
  have e0 : pw_g h' 30 = pw_g h 30 := funext e0
  have e1 : pw_g h' 31 = pw_g h 31 := funext e1
  have e2 : pw_g h' 32 = pw_g h 32 := funext e2
  have e3 : pw_g h' 33 = pw_g h 33 := funext e3
  have e4 : pw_g h' 34 = pw_g h 34 := funext e4
  have e6 : pw_g h' 36 = pw_g h 36 := funext e6
  have hS : px_S c h' = px_S c h := by unfold px_S; rw [ec, ew]
  have hC : ∀ st, px_C h' st = px_C h st := fun st => by unfold px_C; rw [e0, e6]
  have hs : ∀ k, px_sg h' k = px_sg h k := fun k => by unfold px_sg; rw [e2, e3, e6]
  unfold px_LS px_LE px_LB px_LZ px_LX px_ML px_MX px_M1 px_IN px_s at H ⊢
  simp only [ec, e0, e1, e2, e3, e4, hS, hC, hs] at H ⊢
  exact H
/-- the next token is the next of the list -/
theorem px_gtD {L L' : List pt_tok} {t : pt_tok} {i : Nat} (h : L.drop i = t :: L') : i < L.length ∧ pt_gt L i = t ∧ L.drop (i + 1) = L' := by
  have l : i < L.length := by
    by_cases q : i < L.length
    · exact q
    · rw [List.drop_eq_nil_of_le (by omega)] at h; cases h
  rw [List.drop_eq_getElem_cons l] at h
  obtain ⟨a, b⟩ := List.cons.inj h
  refine ⟨l, ?_, b⟩
  unfold pt_gt
  rw [List.getD_eq_getElem?_getD, List.getElem?_eq_getElem l]
  exact a
theorem px_adv {h h' : pm_H} {L : List pt_tok} {i : Nat} (A : px_AD h h') (e5 : pw_g h' 25 = pw_g h 25) (hi : i ≤ L.length) (z0 : 0 ≤ pw_g h 24 1) (S : pt_sg (pw_g h 25) (pw_g h 24 1).toNat (pw_g h 24 3).toNat (L.drop i) (pw_g h 24 1).toNat) : px_TR (pt_K L i) (pt_V L i) h' ∧ pw_g h' 24 2 = pt_P L (pw_g h 24 1).toNat i ∧ (pw_g h' 24 4 = 4 → pt_K L i = 0) ∧ (pt_K L i ≠ 0 → i < L.length ∧ pt_sg (pw_g h 25) (pw_g h 24 1).toNat (pw_g h' 24 3).toNat (L.drop (i + 1)) (pw_g h 24 1).toNat) ∧ pw_g h' 24 3 ≤ pw_g h 24 1 ∧ (pw_g h' 24 4 ≠ 4 → pt_K L i ≠ 0) := by
  rcases A.st S with ⟨d, a4, a2, a3⟩ | ⟨t, L', d, ta, a2, a3, k1, k2, k3, S'⟩
  · have l : i = L.length := by
      have := congrArg List.length d
      rw [List.length_drop, List.length_nil] at this
      omega
    have k : pt_K L i = 0 := by unfold pt_K; rw [pt_gt2 (by omega)]
    refine ⟨Or.inl ⟨k, a4⟩, ?_, fun _ => k, fun q => absurd k q, by omega, fun q => absurd a4 q⟩
    unfold pt_P
    rw [if_neg (by omega), a2]
    omega
  · obtain ⟨l, g, d'⟩ := px_gtD d
    have hK : pt_K L i = t.2.2.1 := by unfold pt_K; rw [g]
    have hV : pt_V L i = t.2.2.2 := by unfold pt_V; rw [g]
    have kd : t.2.2.1 = 1 ∨ t.2.2.1 = 2 ∨ t.2.2.1 = 3 ∨ t.2.2.1 = 4 := by
      obtain ⟨-, -, -, q⟩ := ta
      rcases q with ⟨-, -, -, c4, c5, -⟩ | ⟨-, -, -, c4, c5, -⟩ | ⟨-, -, -, c4, c5, -⟩
      · by_cases z : 8 < t.2.1 - t.1
        · exact Or.inr (Or.inr (Or.inr (c4 z)))
        · exact Or.inl (c5 (by omega))
      · by_cases z : 4 < t.2.1 - t.1
        · exact Or.inr (Or.inr (Or.inr (c4 z)))
        · exact Or.inr (Or.inl (c5 (by omega)))
      · by_cases z : pt_si (pw_g h 25 t.1)
        · exact Or.inr (Or.inr (Or.inl (c4 z)))
        · exact Or.inr (Or.inr (Or.inr (c5 z)))
    refine ⟨?_, ?_, fun q => ?_, fun _ => ⟨l, ?_⟩, ?_, fun _ => by rw [hK]; omega⟩
    · rw [hK, hV]
      unfold px_TR
      rw [e5]
      rcases kd with k | k | k | k
      · exact Or.inr (Or.inr (Or.inr (Or.inr ⟨k, (k1 (by omega)).trans k, _, t, ta, k, a2, a3, rfl⟩)))
      · have nv := ta.nv k
        exact Or.inr (Or.inr (Or.inl ⟨k, (k1 (by omega)).trans k, k3 (Or.inl k), nv.1, nv.2⟩))
      · exact Or.inr (Or.inr (Or.inr (Or.inl ⟨k, (k1 (by omega)).trans k, k3 (Or.inr k)⟩)))
      · exact Or.inr (Or.inl ⟨k, k2 k⟩)
    · unfold pt_P
      rw [if_pos l, g]
      exact a2
    · exfalso
      rcases kd with k | k | k | k
      · have := k1 (by omega); omega
      · have := k1 (by omega); omega
      · have := k1 (by omega); omega
      · have := k2 k; omega
    · rw [d', show (pw_g h' 24 3).toNat = t.2.1 by omega]
      exact S'
    · have := ta.2.1
      omega
theorem px_TI0 {wr : Int} {L : List pt_tok} {z : Nat} : pt_TI wr (pt_K L) (pt_V L) (pt_P L z) L.length ((0 : Nat) : Int) (fun _ => 0) (fun _ => []) (fun _ => 0) (pt_TX wr L z) := ⟨L.length + 1, by omega, rfl⟩
theorem px_LS0 {wr : Int} {c : Nat} {L : List pt_tok} {z : Nat} {h : pm_H} (e7 : pw_g h c 7 = 0) (e1 : pw_g h 30 1 = 0) (e31 : ∀ j : Nat, j < 4 → pw_g h 31 j = 0) : px_LS wr c (pt_K L) (pt_V L) (pt_P L z) L.length (pt_TX wr L z) 0 h := Or.inl ⟨e7, Or.inl e1, fun _ => 0, fun _ => [], fun _ => 0, px_TI0, fun k k0 k3 => ⟨e31 _ (by omega), Or.inl rfl⟩⟩
end
section
/-! the class's Readers, exactly: lines and numerals -/
set_option maxHeartbeats 4000000 in
theorem cm_69_x {X : List (Nat × List Value)} {d : Nat} {h : pm_H} (hd : 1 ≤ d) (I : pw_I h) (li : Int) (hli1 : 0 ≤ li) (hli2 : li ≤ 3) : pw X d h 69 0 [some (.ref 46), some (pw_i li)] [] (fun h' v => h = h' ∧ ∃ a : Int, v = .inl (some (pw_i a)) ∧ 0 ≤ a ∧ a ≤ 1 ∧ (a = pw_g h 31 li.toNat)) := by
  have E : pm_ent 69 = some (2, 2, 7, 1, pmc_69) := rfl
  refine pw_ld E (pc' := 1) (st' := [.ref 46]) rfl (fun _ => rfl) ?_
  refine pw_getR (b := 47) I E (c := 30) (k := 2) (pc' := 4) rfl rfl rfl rfl rfl rfl rfl ?_
  refine pw_ld E (pc' := 5) (st' := [pw_i li, .ref 47]) rfl (fun _ => rfl) ?_
  refine pw_ald2 I E (c := 31) (pc' := 6) rfl rfl rfl (by decide) rfl (by decide) (by omega) (by omega) rfl (fun hf1a hf1b => ?_)
  refine pw_zret E rfl (by omega) ?_
  exact ⟨rfl, ⟨_, rfl, by omega, by omega, by omega⟩⟩
set_option maxHeartbeats 4000000 in
theorem cm_70_x {X : List (Nat × List Value)} {d : Nat} {h : pm_H} (hd : 1 ≤ d) (I : pw_I h) (li : Int) (hli1 : 0 ≤ li) (hli2 : li ≤ 3) : pw X d h 70 0 [some (.ref 46), some (pw_i li)] [] (fun h' v => pw_I h' ∧ pw_E [31, 32, 33] h h' ∧ (px_BG h h' li) ∧ (v = .inl none)) := by
  have E : pm_ent 70 = some (2, 2, 7, 4, pmc_70) := rfl
  have E0 : pw_E [31, 32, 33] h h := pw_E.rf _ _
  refine pw_ld E (pc' := 1) (st' := [.ref 46]) rfl (fun _ => rfl) ?_
  refine pw_getR (b := 47) I E (c := 30) (k := 2) (pc' := 4) rfl rfl rfl rfl rfl rfl rfl ?_
  refine pw_ld E (pc' := 5) (st' := [pw_i li, .ref 47]) rfl (fun _ => rfl) ?_
  refine pw_ld E (pc' := 6) (st' := [pw_i 1, pw_i li, .ref 47]) rfl (fun _ => rfl) ?_
  refine pw_ast0 I E (c := 31) (pc' := 7) rfl rfl rfl (by decide) rfl (by decide) (by omega) (by omega) (pw_b1 (by omega) (by omega)) (by omega) (by omega) (by omega) (by omega) rfl ?_
  intro h1I h1E
  generalize h1w : pw_w h 31 (li.toNat) (pw_i 1) = h1 at h1I h1E ⊢
  have h1F := E0.tr (h1E.wk (W' := [31, 32, 33]) (by first | rfl | simp))
  refine pw_ld E (pc' := 8) (st' := [.ref 46]) rfl (fun _ => rfl) ?_
  refine pw_getR (b := 48) h1I E (c := 30) (k := 3) (pc' := 11) rfl rfl rfl rfl rfl rfl rfl ?_
  refine pw_ld E (pc' := 12) (st' := [pw_i li, .ref 48]) rfl (fun _ => rfl) ?_
  refine pw_ld E (pc' := 13) (st' := [.ref 46, pw_i li, .ref 48]) rfl (fun _ => rfl) ?_
  refine pw_getI2 h1I E (c := 30) (k := 1) (pc' := 16) rfl rfl rfl rfl rfl rfl (fun hf2a hf2b => ?_)
  refine pw_ast0 h1I E (c := 32) (pc' := 17) rfl rfl rfl (by decide) rfl (by decide) (by omega) (by omega) rfl (by omega) (by omega) (by omega) (by omega) rfl ?_
  intro h3I h3E
  generalize h3w : pw_w h1 32 (li.toNat) (pw_i (pw_g h1 30 1)) = h3 at h3I h3E ⊢
  have h3F := h1F.tr (h3E.wk (W' := [31, 32, 33]) (by first | rfl | simp))
  refine pw_ld E (pc' := 18) (st' := [.ref 46]) rfl (fun _ => rfl) ?_
  refine pw_getR (b := 49) h3I E (c := 30) (k := 4) (pc' := 21) rfl rfl rfl rfl rfl rfl rfl ?_
  refine pw_ld E (pc' := 22) (st' := [pw_i li, .ref 49]) rfl (fun _ => rfl) ?_
  refine pw_ld E (pc' := 23) (st' := [.ref 46, pw_i li, .ref 49]) rfl (fun _ => rfl) ?_
  have he5 : pw_g h3 30 1 = pw_g h1 30 1 := by rw [← h3w]; exact pw_g_ne (by omega)
  refine pw_getI2 h3I E (c := 30) (k := 1) (pc' := 26) rfl rfl rfl rfl rfl rfl (fun hf4a hf4b => ?_)
  refine pw_ast0 h3I E (c := 33) (pc' := 27) rfl rfl rfl (by decide) rfl (by decide) (by omega) (by omega) rfl (by omega) (by omega) (by omega) (by omega) rfl ?_
  intro h6I h6E
  generalize h6w : pw_w h3 33 (li.toNat) (pw_i (pw_g h3 30 1)) = h6 at h6I h6E ⊢
  have h6F := h3F.tr (h6E.wk (W' := [31, 32, 33]) (by first | rfl | simp))
  refine pw_vret E rfl ?_
  have la : pw_g h1 30 1 = pw_g h 30 1 := by rw [← h1w]; exact pw_g_ne (by omega)
  have lb : pw_g h3 30 1 = pw_g h1 30 1 := by rw [← h3w]; exact pw_g_ne (by omega)
  have v1 : pw_g h1 31 li.toNat = 1 := by rw [← h1w]; exact pw_g_eqA I rfl (by omega) (by omega) (by omega)
  have v2 : pw_g h3 32 li.toNat = pw_g h1 30 1 := by rw [← h3w]; exact pw_g_eqA h1I rfl (by omega) (by omega) (by omega)
  have v3 : pw_g h6 33 li.toNat = pw_g h3 30 1 := by rw [← h6w]; exact pw_g_eqA h3I rfl (by omega) (by omega) (by omega)
  have w1 : pw_g h6 31 li.toNat = 1 := by rw [← h6w, pw_g_ne (by omega), ← h3w, pw_g_ne (by omega)]; exact v1
  have w2 : pw_g h6 32 li.toNat = pw_g h1 30 1 := by rw [← h6w, pw_g_ne (by omega)]; exact v2
  have n1 : ∀ j : Nat, j ≠ li.toNat → pw_g h6 31 j = pw_g h 31 j := fun j hj => by rw [← h6w, pw_g_ne (by omega), ← h3w, pw_g_ne (by omega), ← h1w]; exact pw_g_ne (fun q => hj q.2.symm)
  have n2 : ∀ j : Nat, j ≠ li.toNat → pw_g h6 32 j = pw_g h 32 j := fun j hj => by rw [← h6w, pw_g_ne (by omega), ← h3w, pw_g_ne (fun q => hj q.2.symm), ← h1w]; exact pw_g_ne (by omega)
  have n3 : ∀ j : Nat, j ≠ li.toNat → pw_g h6 33 j = pw_g h 33 j := fun j hj => by rw [← h6w, pw_g_ne (fun q => hj q.2.symm), ← h3w, pw_g_ne (by omega), ← h1w]; exact pw_g_ne (by omega)
  exact ⟨h6I, h6F, ⟨⟨w1, n1⟩, ⟨by omega, n2⟩, ⟨by omega, n3⟩⟩, rfl⟩
set_option maxHeartbeats 4000000 in
theorem cm_72_x {X : List (Nat × List Value)} {d : Nat} {h : pm_H} (hd : 1 ≤ d) (I : pw_I h) (li : Int) (hli1 : 0 ≤ li) (hli2 : li ≤ 3) (nm : Int) (hnm1 : 0 ≤ nm) (hnm2 : nm ≤ 11) : pw X d h 72 0 [some (.ref 46), some (pw_i li), some (pw_i nm)] [] (fun h' v => pw_I h' ∧ pw_E [34] h h' ∧ (pw_g h' 34 li.toNat = nm ∧ ∀ j : Nat, j ≠ li.toNat → pw_g h' 34 j = pw_g h 34 j) ∧ (v = .inl none)) := by
  have E : pm_ent 72 = some (3, 3, 7, 4, pmc_72) := rfl
  have E0 : pw_E [34] h h := pw_E.rf _ _
  refine pw_ld E (pc' := 1) (st' := [.ref 46]) rfl (fun _ => rfl) ?_
  refine pw_getR (b := 50) I E (c := 30) (k := 5) (pc' := 4) rfl rfl rfl rfl rfl rfl rfl ?_
  refine pw_ld E (pc' := 5) (st' := [pw_i li, .ref 50]) rfl (fun _ => rfl) ?_
  refine pw_ld E (pc' := 6) (st' := [pw_i nm, pw_i li, .ref 50]) rfl (fun _ => rfl) ?_
  refine pw_ast0 I E (c := 34) (pc' := 7) rfl rfl rfl (by decide) rfl (by decide) (by omega) (by omega) rfl (by omega) (by omega) (by omega) (by omega) rfl ?_
  intro h1I h1E
  generalize h1w : pw_w h 34 (li.toNat) (pw_i nm) = h1 at h1I h1E ⊢
  have h1F := E0.tr (h1E.wk (W' := [34]) (by first | rfl | simp))
  refine pw_vret E rfl ?_
  exact ⟨h1I, h1F, ⟨by rw [← h1w]; exact pw_g_eqA I rfl (by omega) (by omega) (by omega), fun j hj => by rw [← h1w]; exact pw_g_ne (fun q => hj q.2.symm)⟩, rfl⟩
set_option maxHeartbeats 4000000 in
theorem cm_68_x {X : List (Nat × List Value)} {d : Nat} {h : pm_H} (hd : 1 ≤ d) (I : pw_I h)  : pw X d h 68 0 [some (.ref 46), none] [] (fun h' v => pw_I h' ∧ pw_E [30, 31] h h' ∧ (pw_g h' 30 1 = 0 ∧ ∀ j : Nat, j < 4 → pw_g h' 31 j = 0) ∧ (v = .inl none)) := by
  have E : pm_ent 68 = some (1, 2, 7, 4, pmc_68) := rfl
  have E0 : pw_E [30, 31] h h := pw_E.rf _ _
  refine pw_ld E (pc' := 1) (st' := [.ref 46]) rfl (fun _ => rfl) ?_
  refine pw_ld E (pc' := 2) (st' := [pw_i 0, .ref 46]) rfl (fun _ => rfl) ?_
  refine pw_putI I E (c := 30) (k := 1) (pc' := 5) rfl rfl rfl rfl (by omega) (by omega) (by omega) (by omega) rfl rfl ?_
  intro h1I h1E
  generalize h1w : pw_w h 30 1 (pw_i 0) = h1 at h1I h1E ⊢
  have h1F := E0.tr (h1E.wk (W' := [30, 31]) (by first | rfl | simp))
  refine pw_ld E (pc' := 6) (st' := [pw_i 0]) rfl (fun _ => rfl) ?_
  refine pw_istn E (pc' := 7) (ls' := [some (.ref 46), some (pw_i 0)]) rfl rfl rfl rfl ?_
  have L7 : ∀ (n7 : Nat) (k7_1 : Int) (gh7 : pm_H), pw_I gh7 → pw_E [30, 31] h gh7 → 0 ≤ k7_1 → k7_1 ≤ 4 → pw_g gh7 30 1 = 0 → ((∀ j : Nat, (j : Int) < k7_1 → pw_g gh7 31 j = 0)) → (4 - k7_1).toNat = n7 → pw X d gh7 68 7 [some (.ref 46), some (pw_i k7_1)] [] (fun h' v => pw_I h' ∧ pw_E [30, 31] h h' ∧ (pw_g h' 30 1 = 0 ∧ ∀ j : Nat, j < 4 → pw_g h' 31 j = 0) ∧ (v = .inl none)) := by
    intro n7
    induction n7 using Nat.strongRecOn with
    | ind n7 ih7 =>
      intro k7_1 gh7 I7 E7 k7_1a k7_1b hx7_0 hx7_1 hm7
      refine pw_ld E (pc' := 8) (st' := [pw_i k7_1]) rfl (fun _ => rfl) ?_
      refine pw_ld E (pc' := 9) (st' := [pw_i 4, pw_i k7_1]) rfl (fun _ => rfl) ?_
      refine pw_if2 E (pc' := 25) rfl (by decide) (by omega) (by omega) (by decide) (by decide) ?_ ?_
      · intro hc2
        change (4 : Int) ≤ k7_1 at hc2
        refine pw_vret E rfl ?_
        exact ⟨I7, E7, ⟨hx7_0, fun j hj => hx7_1 j (by omega)⟩, rfl⟩
      · intro hc3
        change ¬ ((4 : Int) ≤ k7_1) at hc3
        refine pw_ld E (pc' := 13) (st' := [.ref 46]) rfl (fun _ => rfl) ?_
        refine pw_getR (b := 47) I7 E (c := 30) (k := 2) (pc' := 16) rfl rfl rfl rfl rfl rfl rfl ?_
        refine pw_ld E (pc' := 17) (st' := [pw_i k7_1, .ref 47]) rfl (fun _ => rfl) ?_
        refine pw_ld E (pc' := 18) (st' := [pw_i 0, pw_i k7_1, .ref 47]) rfl (fun _ => rfl) ?_
        refine pw_ast0 I7 E (c := 31) (pc' := 19) rfl rfl rfl (by decide) rfl (by decide) (by omega) (by omega) (pw_b1 (by omega) (by omega)) (by omega) (by omega) (by omega) (by omega) rfl ?_
        intro h4I h4E
        generalize h4w : pw_w gh7 31 (k7_1.toNat) (pw_i 0) = h4 at h4I h4E ⊢
        have h4F := E7.tr (h4E.wk (W' := [30, 31]) (by first | rfl | simp))
        refine pw_inc E (pc' := 22) (ls' := [some (.ref 46), some (pw_i (k7_1 + 1))]) rfl rfl rfl rfl ?_
        have oC : ∀ j : Nat, (j : Int) < k7_1 + 1 → pw_g h4 31 j = 0 := fun j hj => by
          by_cases z : j = (k7_1).toNat
          · rw [z, ← h4w]; exact pw_g_eqA I7 rfl (by omega) (by omega) (by omega)
          · rw [← h4w, pw_g_ne (fun q => z q.2.symm)]; exact hx7_1 j (by omega)
        have o30 : pw_g h4 30 1 = pw_g gh7 30 1 := by rw [← h4w]; exact pw_g_ne (by omega)
        refine pw_goto E (pc' := 7) rfl (by decide) ?_
        have he5 : pw_g h4 30 1 = pw_g gh7 30 1 := by rw [← h4w]; exact pw_g_ne (by omega)
        exact ih7 _ (by omega) (k7_1 + 1) h4 h4I h4F (by omega) (by omega) (by omega) oC rfl
  have he6 : pw_g h1 30 1 = 0 := by rw [← h1w]; exact pw_g_eq (c := 30) (k := 1) I rfl rfl (by omega) (by omega)
  exact L7 _ (0) h1 h1I h1F (by omega) (by omega) (by omega) (fun j hj => by omega) rfl
set_option maxHeartbeats 4000000 in
theorem cm_100_x24 {X : List (Nat × List Value)} {d : Nat} {h : pm_H} (hd : 1 ≤ d) (I : pw_I h)  : pw X d h 100 0 [some (.ref 40)] [] (fun h' v => pw_I h' ∧ pw_E [24] h h' ∧ (pw_g h' 24 3 = 0 ∧ pw_g h' 24 1 = pw_g h 24 1) ∧ (v = .inl none)) := by
  have E : pm_ent 100 = some (1, 1, 9, 4, pmc_100) := rfl
  have E0 : pw_E [24] h h := pw_E.rf _ _
  refine pw_ld E (pc' := 1) (st' := [.ref 40]) rfl (fun _ => rfl) ?_
  refine pw_ld E (pc' := 2) (st' := [pw_i 0, .ref 40]) rfl (fun _ => rfl) ?_
  refine pw_putI I E (c := 24) (k := 3) (pc' := 5) rfl rfl rfl rfl (by omega) (by omega) (by omega) (by omega) rfl rfl ?_
  intro h1I h1E
  generalize h1w : pw_w h 24 3 (pw_i 0) = h1 at h1I h1E ⊢
  have h1F := E0.tr (h1E.wk (W' := [24]) (by first | rfl | simp))
  refine pw_vret E rfl ?_
  exact ⟨h1I, h1F, ⟨by rw [← h1w]; exact pw_g_eq (c := 24) (k := 3) I rfl rfl (by omega) (by omega), by rw [← h1w]; exact pw_g_ne (by omega)⟩, rfl⟩
set_option maxHeartbeats 4000000 in
theorem cm_111_x24 {X : List (Nat × List Value)} {d : Nat} {h : pm_H} (hd : 1 ≤ d) (I : pw_I h)  : pw X d h 111 0 [some (.ref 40)] [] (fun h' v => h = h' ∧ ∃ a : Int, v = .inl (some (pw_i a)) ∧ 0 ≤ a ∧ a ≤ 1000 ∧ (a = pw_g h 24 2)) := by
  have E : pm_ent 111 = some (1, 1, 9, 0, pmc_111) := rfl
  refine pw_ld E (pc' := 1) (st' := [.ref 40]) rfl (fun _ => rfl) ?_
  refine pw_getI2 I E (c := 24) (k := 2) (pc' := 4) rfl rfl rfl rfl rfl rfl (fun hf1a hf1b => ?_)
  refine pw_iret E rfl ?_
  exact ⟨rfl, ⟨_, rfl, by omega, by omega, by omega⟩⟩
set_option maxHeartbeats 4000000 in
theorem cm_46_x26 {X : List (Nat × List Value)} {d : Nat} {h : pm_H} (hd : 2 ≤ d) (I : pw_I h) (hX : pw_Xk X) (K V : Int) (hp0 : px_TR K V h) (hp1 : pw_Xs X) (hp2 : pw_Xf X) : pw X d h 46 0 [some (.ref 42), some (.ref 40), some (.ref 46), none] [] (fun h' v => pw_I h' ∧ pw_E [26, 31, 32, 33] h h' ∧ ∃ a : Int, v = .inl (some (pw_i a)) ∧ 0 ≤ a ∧ a ≤ 3 ∧ (px_Q46 0 26 K V h h' a)) := by
  have E : pm_ent 46 = some (3, 4, 5, 0, pmc_46) := rfl
  have E0 : pw_E [26, 31, 32, 33] h h := pw_E.rf _ _
  have hTR := hp0
  have hXs := hp1
  have hXf := hp2
  have hk := hp0.k
  have hw : px_w46 0 K V = px_wn 4 K V := rfl
  have hwB := px_w46B 0 K V
  refine pw_ld E (pc' := 1) (st' := [.ref 40]) rfl (fun _ => rfl) ?_
  obtain ⟨f1l, f1h, -⟩ := pw_obj (c := 24) I rfl
  refine pw_call (m' := 107) (As := [.ref 40]) (rest := []) (ls'' := [some (.ref 40)]) (Nat.le_trans (by decide) hd) E rfl (fun _ => pw_iV rfl rfl rfl rfl (pw_cellI f1h rfl)) (rfl : pm_ent 107 = some (1, 1, 9, 0, pmc_107)) rfl rfl (cm_107_x24 (pw_dp hd (by decide)) I ) ?_
  rintro u3 v2 ⟨rfl, x4, rfl, hx4a, hx4b, hx4r⟩
  refine ⟨_, rfl, ?_⟩
  show pw X d h 46 4 [some (.ref 42), some (.ref 40), some (.ref 46), none] [pw_i x4] _
  change x4 = pw_g h 24 4 at hx4r
  refine pw_ld E (pc' := 5) (st' := [pw_i 4, pw_i x4]) rfl (fun _ => rfl) ?_
  refine pw_if2 E (pc' := 10) rfl (by decide) (by omega) (by omega) (by decide) (by decide) ?_ ?_
  · intro hc5
    change x4 ≠ (4 : Int) at hc5
    refine pw_ld E (pc' := 11) (st' := [.ref 40]) rfl (fun _ => rfl) ?_
    refine pw_ld E (pc' := 12) (st' := [.ref 42, .ref 40]) rfl (fun _ => rfl) ?_
    refine pw_getR (b := 4) I E (c := 26) (k := 0) (pc' := 15) rfl rfl rfl rfl rfl rfl rfl ?_
    obtain ⟨f6l, f6h, -⟩ := pw_obj (c := 24) I rfl
    refine pw_call (m' := 108) (As := [.ref 40, .ref 4]) (rest := []) (ls'' := [some (.ref 40), some (.ref 4), none, none, none, none, none]) (Nat.le_trans (by decide) hd) E rfl (fun _ => pw_iV rfl rfl rfl rfl (pw_cellI f6h rfl)) (rfl : pm_ent 108 = some (2, 7, 9, 0, pmc_108)) rfl rfl (cm_108_w (pw_dp hd (by decide)) I hX 4 (by omega) (by omega) K V hTR hXs (by decide)) ?_
    rintro u8 v7 ⟨rfl, x9, rfl, hx9a, hx9b, hx9r⟩
    refine ⟨_, rfl, ?_⟩
    show pw X d h 46 18 [some (.ref 42), some (.ref 40), some (.ref 46), none] [pw_i x9] _
    change x9 = px_wn 4 K V at hx9r
    refine pw_istn E (pc' := 19) (ls' := [some (.ref 42), some (.ref 40), some (.ref 46), some (pw_i x9)]) rfl rfl rfl rfl ?_
    refine pw_ld E (pc' := 20) (st' := [pw_i x9]) rfl (fun _ => rfl) ?_
    refine pw_if E (pc' := 32) rfl (by decide) (by omega) (by omega) ?_ ?_
    · intro hc10
      change x9 < (0 : Int) at hc10
      refine pw_ld E (pc' := 33) (st' := [pw_i 1]) rfl (fun _ => rfl) ?_
      refine pw_iret E rfl ?_
      have hx : px_w46 0 K V = x9 := by omega
      exact ⟨I, E0, ⟨_, rfl, by omega, by omega, (by unfold px_Q46; rw [hx]; exact Or.inr ⟨by omega, Or.inl ⟨by omega, rfl⟩⟩)⟩⟩
    · intro hc11
      change ¬ (x9 < (0 : Int)) at hc11
      refine pw_ld E (pc' := 24) (st' := [pw_i x9]) rfl (fun _ => rfl) ?_
      refine pw_ld E (pc' := 25) (st' := [.ref 42, pw_i x9]) rfl (fun _ => rfl) ?_
      refine pw_getR (b := 1) I E (c := 26) (k := 2) (pc' := 28) rfl rfl rfl rfl rfl rfl rfl ?_
      obtain ⟨y12l, y12x, y12n, y12r⟩ := hX.1
      refine pw_xlen E (pc' := 29) rfl y12x (by decide) y12n rfl ?_
      refine pw_if2 E (pc' := 34) rfl (by decide) (by omega) (by omega) (by decide) (by decide) ?_ ?_
      · intro hc13
        change x9 < (4 : Nat) at hc13
        refine pw_ld E (pc' := 35) (st' := [.ref 46]) rfl (fun _ => rfl) ?_
        refine pw_ld E (pc' := 36) (st' := [pw_i x9, .ref 46]) rfl (fun _ => rfl) ?_
        obtain ⟨f14l, f14h, -⟩ := pw_obj (c := 30) I rfl
        refine pw_call (m' := 69) (As := [.ref 46, pw_i x9]) (rest := []) (ls'' := [some (.ref 46), some (pw_i x9)]) (Nat.le_trans (by decide) hd) E rfl (fun _ => pw_iV rfl rfl rfl rfl (pw_cellI f14h rfl)) (rfl : pm_ent 69 = some (2, 2, 7, 1, pmc_69)) rfl rfl (cm_69_x (pw_dp hd (by decide)) I (x9) (by omega) (by omega)) ?_
        rintro u16 v15 ⟨rfl, x17, rfl, hx17a, hx17b, hx17r⟩
        refine ⟨_, rfl, ?_⟩
        show pw X d h 46 39 [some (.ref 42), some (.ref 40), some (.ref 46), some (pw_i x9)] [pw_i x17] _
        change x17 = pw_g h 31 x9.toNat at hx17r
        rcases (by omega : x17 = 1 ∨ x17 = 0) with hb18 | hb18
        · skip
          refine pw_if E (pc' := 44) rfl (by decide) (by omega) (by omega) ?_ ?_
          · intro hc19
            change x17 = (0 : Int) at hc19
            exfalso; omega
          · intro hc20
            change ¬ (x17 = (0 : Int)) at hc20
            refine pw_ld E (pc' := 43) (st' := [pw_i 3]) rfl (fun _ => rfl) ?_
            refine pw_iret E rfl ?_
            have hx : px_w46 0 K V = x9 := by omega
            exact ⟨I, E0, ⟨_, rfl, by omega, by omega, (by unfold px_Q46; rw [hx]; exact Or.inr ⟨by omega, Or.inr ⟨by omega, by omega, Or.inl ⟨by omega, rfl⟩⟩⟩)⟩⟩
        · skip
          refine pw_if E (pc' := 44) rfl (by decide) (by omega) (by omega) ?_ ?_
          · intro hc22
            change x17 = (0 : Int) at hc22
            refine pw_ld E (pc' := 45) (st' := [.ref 42]) rfl (fun _ => rfl) ?_
            refine pw_ld E (pc' := 46) (st' := [pw_i x9, .ref 42]) rfl (fun _ => rfl) ?_
            refine pw_putI I E (c := 26) (k := 8) (pc' := 49) rfl rfl rfl rfl (by omega) (by omega) (by omega) (by omega) rfl rfl ?_
            intro h23I h23E
            generalize h23w : pw_w h 26 8 (pw_i x9) = h23 at h23I h23E ⊢
            have h23F := E0.tr (h23E.wk (W' := [26, 31, 32, 33]) (by first | rfl | simp))
            refine pw_ld E (pc' := 50) (st' := [.ref 46]) rfl (fun _ => rfl) ?_
            refine pw_ld E (pc' := 51) (st' := [pw_i x9, .ref 46]) rfl (fun _ => rfl) ?_
            obtain ⟨f24l, f24h, -⟩ := pw_obj (c := 30) h23I rfl
            refine pw_call (m' := 70) (As := [.ref 46, pw_i x9]) (rest := []) (ls'' := [some (.ref 46), some (pw_i x9)]) (Nat.le_trans (by decide) hd) E rfl (fun _ => pw_iV rfl rfl rfl rfl (pw_cellI f24h rfl)) (rfl : pm_ent 70 = some (2, 2, 7, 4, pmc_70)) rfl rfl (cm_70_x (pw_dp hd (by decide)) h23I (x9) (by omega) (by omega)) ?_
            rintro h25 v26 ⟨h25I, h25E, hqbg, rfl⟩
            refine ⟨_, rfl, ?_⟩
            have h25F := h23F.tr (h25E.wk (W' := [26, 31, 32, 33]) (by first | rfl | simp))
            show pw X d h25 46 54 [some (.ref 42), some (.ref 40), some (.ref 46), some (pw_i x9)] [] _
            refine pw_ld E (pc' := 55) (st' := [.ref 42]) rfl (fun _ => rfl) ?_
            refine pw_ld E (pc' := 56) (st' := [pw_i 0, .ref 42]) rfl (fun _ => rfl) ?_
            refine pw_putI h25I E (c := 26) (k := 4) (pc' := 59) rfl rfl rfl rfl (by omega) (by omega) (by omega) (by omega) rfl rfl ?_
            intro h27I h27E
            generalize h27w : pw_w h25 26 4 (pw_i 0) = h27 at h27I h27E ⊢
            have h27F := h25F.tr (h27E.wk (W' := [26, 31, 32, 33]) (by first | rfl | simp))
            refine pw_ld E (pc' := 60) (st' := [.ref 42]) rfl (fun _ => rfl) ?_
            refine pw_ld E (pc' := 61) (st' := [pw_i 0, .ref 42]) rfl (fun _ => rfl) ?_
            refine pw_putI h27I E (c := 26) (k := 5) (pc' := 64) rfl rfl rfl rfl (by omega) (by omega) (by omega) (by omega) rfl rfl ?_
            intro h28I h28E
            generalize h28w : pw_w h27 26 5 (pw_i 0) = h28 at h28I h28E ⊢
            have h28F := h27F.tr (h28E.wk (W' := [26, 31, 32, 33]) (by first | rfl | simp))
            refine pw_ld E (pc' := 65) (st' := [.ref 42]) rfl (fun _ => rfl) ?_
            refine pw_ld E (pc' := 66) (st' := [pw_i 0, .ref 42]) rfl (fun _ => rfl) ?_
            refine pw_putI h28I E (c := 26) (k := 6) (pc' := 69) rfl rfl rfl rfl (by omega) (by omega) (by omega) (by omega) rfl rfl ?_
            intro h29I h29E
            generalize h29w : pw_w h28 26 6 (pw_i 0) = h29 at h29I h29E ⊢
            have h29F := h28F.tr (h29E.wk (W' := [26, 31, 32, 33]) (by first | rfl | simp))
            refine pw_ld E (pc' := 70) (st' := [.ref 42]) rfl (fun _ => rfl) ?_
            refine pw_getR (b := 1) h29I E (c := 26) (k := 2) (pc' := 73) rfl rfl rfl rfl rfl rfl rfl ?_
            refine pw_ld E (pc' := 74) (st' := [pw_i x9, .ref 1]) rfl (fun _ => rfl) ?_
            refine pw_xaldE E (pc' := 75) rfl hXf.1 (by decide) (by omega) (by omega) (px_FO1 (by omega) (by omega)) rfl ?_
            have hfo30 := px_FOB 0 x9
            refine pw_ld E (pc' := 76) (st' := [pw_i ((-1)), pw_i (pt_FO 0 x9)]) rfl (fun _ => rfl) ?_
            refine pw_if2 E (pc' := 87) rfl (by decide) (by omega) (by omega) (by decide) (by decide) ?_ ?_
            · intro hc31
              change pt_FO 0 x9 ≠ ((-1) : Int) at hc31
              refine pw_ld E (pc' := 88) (st' := [.ref 42]) rfl (fun _ => rfl) ?_
              refine pw_ld E (pc' := 89) (st' := [.ref 42, .ref 42]) rfl (fun _ => rfl) ?_
              refine pw_getR (b := 1) h29I E (c := 26) (k := 2) (pc' := 92) rfl rfl rfl rfl rfl rfl rfl ?_
              refine pw_ld E (pc' := 93) (st' := [pw_i x9, .ref 1, .ref 42]) rfl (fun _ => rfl) ?_
              refine pw_xaldE E (pc' := 94) rfl hXf.1 (by decide) (by omega) (by omega) (px_FO1 (by omega) (by omega)) rfl ?_
              have hfo32 := px_FOB 0 x9
              refine pw_bip E (pc' := 96) rfl rfl (by decide) ?_
              refine pw_if2 E (pc' := 103) rfl (by decide) (by omega) (by omega) (by decide) (by decide) ?_ ?_
              · intro hc33
                change pt_FO 0 x9 ≠ ((-2) : Int) at hc33
                refine pw_ld E (pc' := 104) (st' := [pw_i 4, .ref 42]) rfl (fun _ => rfl) ?_
                refine pw_putI h29I E (c := 26) (k := 7) (pc' := 107) rfl rfl rfl rfl (by omega) (by omega) (by omega) (by omega) rfl rfl ?_
                intro h34I h34E
                generalize h34w : pw_w h29 26 7 (pw_i 4) = h34 at h34I h34E ⊢
                have h34F := h29F.tr (h34E.wk (W' := [26, 31, 32, 33]) (by first | rfl | simp))
                refine pw_ld E (pc' := 108) (st' := [pw_i 0]) rfl (fun _ => rfl) ?_
                refine pw_iret E rfl ?_
                have hx : px_w46 0 K V = x9 := by omega
                have he35 : pw_g h34 26 4 = pw_g h29 26 4 := by rw [← h34w]; exact pw_g_ne (by omega)
                have he36 : pw_g h29 26 4 = pw_g h28 26 4 := by rw [← h29w]; exact pw_g_ne (by omega)
                have he37 : pw_g h28 26 4 = pw_g h27 26 4 := by rw [← h28w]; exact pw_g_ne (by omega)
                have he38 : pw_g h27 26 4 = 0 := by rw [← h27w]; exact pw_g_eq (c := 26) (k := 4) h25I rfl rfl (by omega) (by omega)
                have he39 : pw_g h34 26 5 = pw_g h29 26 5 := by rw [← h34w]; exact pw_g_ne (by omega)
                have he40 : pw_g h29 26 5 = pw_g h28 26 5 := by rw [← h29w]; exact pw_g_ne (by omega)
                have he41 : pw_g h28 26 5 = 0 := by rw [← h28w]; exact pw_g_eq (c := 26) (k := 5) h27I rfl rfl (by omega) (by omega)
                have he42 : pw_g h34 26 6 = pw_g h29 26 6 := by rw [← h34w]; exact pw_g_ne (by omega)
                have he43 : pw_g h29 26 6 = 0 := by rw [← h29w]; exact pw_g_eq (c := 26) (k := 6) h28I rfl rfl (by omega) (by omega)
                have he44 : pw_g h34 26 7 = 4 := by rw [← h34w]; exact pw_g_eq (c := 26) (k := 7) h29I rfl rfl (by omega) (by omega)
                have he45 : pw_g h34 26 8 = pw_g h29 26 8 := by rw [← h34w]; exact pw_g_ne (by omega)
                have he46 : pw_g h29 26 8 = pw_g h28 26 8 := by rw [← h29w]; exact pw_g_ne (by omega)
                have he47 : pw_g h28 26 8 = pw_g h27 26 8 := by rw [← h28w]; exact pw_g_ne (by omega)
                have he48 : pw_g h27 26 8 = pw_g h25 26 8 := by rw [← h27w]; exact pw_g_ne (by omega)
                have he49 : pw_g h25 26 8 = pw_g h23 26 8 := pw_Eg (c := 26) h23I h25E rfl rfl 8
                have he50 : pw_g h23 26 8 = x9 := by rw [← h23w]; exact pw_g_eq (c := 26) (k := 8) I rfl rfl (by omega) (by omega)
                have l1 : pw_g h23 30 1 = pw_g h 30 1 := by rw [← h23w]; exact pw_g_ne (by omega)
                have t31 : ∀ j : Nat, pw_g h34 31 j = pw_g h25 31 j := fun j => by rw [← h34w, pw_g_ne (by omega), ← h29w, pw_g_ne (by omega), ← h28w, pw_g_ne (by omega), ← h27w]; exact pw_g_ne (by omega)
                have b31 : ∀ j : Nat, pw_g h23 31 j = pw_g h 31 j := fun j => by rw [← h23w]; exact pw_g_ne (by omega)
                have v31 := t31 (x9).toNat
                have t32 : ∀ j : Nat, pw_g h34 32 j = pw_g h25 32 j := fun j => by rw [← h34w, pw_g_ne (by omega), ← h29w, pw_g_ne (by omega), ← h28w, pw_g_ne (by omega), ← h27w]; exact pw_g_ne (by omega)
                have b32 : ∀ j : Nat, pw_g h23 32 j = pw_g h 32 j := fun j => by rw [← h23w]; exact pw_g_ne (by omega)
                have v32 := t32 (x9).toNat
                have t33 : ∀ j : Nat, pw_g h34 33 j = pw_g h25 33 j := fun j => by rw [← h34w, pw_g_ne (by omega), ← h29w, pw_g_ne (by omega), ← h28w, pw_g_ne (by omega), ← h27w]; exact pw_g_ne (by omega)
                have b33 : ∀ j : Nat, pw_g h23 33 j = pw_g h 33 j := fun j => by rw [← h23w]; exact pw_g_ne (by omega)
                have v33 := t33 (x9).toNat
                have u31 := hqbg.1.1
                have u32 := hqbg.2.1.1
                have u33 := hqbg.2.2.1
                exact ⟨h34I, h34F, ⟨_, rfl, by omega, by omega, (by unfold px_Q46; rw [hx]; exact Or.inr ⟨by omega, Or.inr ⟨by omega, by omega, Or.inr ⟨by omega, rfl, ⟨⟨by omega, by omega, by omega, by omega⟩, by omega, ⟨by omega, fun j hj => (t31 j).trans ((hqbg.1.2 j hj).trans (b31 j))⟩, ⟨by omega, fun j hj => (t32 j).trans ((hqbg.2.1.2 j hj).trans (b32 j))⟩, ⟨by omega, fun j hj => (t33 j).trans ((hqbg.2.2.2 j hj).trans (b33 j))⟩⟩⟩⟩⟩)⟩⟩
              · intro hc51
                change ¬ (pt_FO 0 x9 ≠ ((-2) : Int)) at hc51
                refine pw_ld E (pc' := 100) (st' := [pw_i 1, .ref 42]) rfl (fun _ => rfl) ?_
                refine pw_goto E (pc' := 104) rfl (by decide) ?_
                refine pw_putI h29I E (c := 26) (k := 7) (pc' := 107) rfl rfl rfl rfl (by omega) (by omega) (by omega) (by omega) rfl rfl ?_
                intro h52I h52E
                generalize h52w : pw_w h29 26 7 (pw_i 1) = h52 at h52I h52E ⊢
                have h52F := h29F.tr (h52E.wk (W' := [26, 31, 32, 33]) (by first | rfl | simp))
                refine pw_ld E (pc' := 108) (st' := [pw_i 0]) rfl (fun _ => rfl) ?_
                refine pw_iret E rfl ?_
                have hx : px_w46 0 K V = x9 := by omega
                have he53 : pw_g h52 26 4 = pw_g h29 26 4 := by rw [← h52w]; exact pw_g_ne (by omega)
                have he54 : pw_g h29 26 4 = pw_g h28 26 4 := by rw [← h29w]; exact pw_g_ne (by omega)
                have he55 : pw_g h28 26 4 = pw_g h27 26 4 := by rw [← h28w]; exact pw_g_ne (by omega)
                have he56 : pw_g h27 26 4 = 0 := by rw [← h27w]; exact pw_g_eq (c := 26) (k := 4) h25I rfl rfl (by omega) (by omega)
                have he57 : pw_g h52 26 5 = pw_g h29 26 5 := by rw [← h52w]; exact pw_g_ne (by omega)
                have he58 : pw_g h29 26 5 = pw_g h28 26 5 := by rw [← h29w]; exact pw_g_ne (by omega)
                have he59 : pw_g h28 26 5 = 0 := by rw [← h28w]; exact pw_g_eq (c := 26) (k := 5) h27I rfl rfl (by omega) (by omega)
                have he60 : pw_g h52 26 6 = pw_g h29 26 6 := by rw [← h52w]; exact pw_g_ne (by omega)
                have he61 : pw_g h29 26 6 = 0 := by rw [← h29w]; exact pw_g_eq (c := 26) (k := 6) h28I rfl rfl (by omega) (by omega)
                have he62 : pw_g h52 26 7 = 1 := by rw [← h52w]; exact pw_g_eq (c := 26) (k := 7) h29I rfl rfl (by omega) (by omega)
                have he63 : pw_g h52 26 8 = pw_g h29 26 8 := by rw [← h52w]; exact pw_g_ne (by omega)
                have he64 : pw_g h29 26 8 = pw_g h28 26 8 := by rw [← h29w]; exact pw_g_ne (by omega)
                have he65 : pw_g h28 26 8 = pw_g h27 26 8 := by rw [← h28w]; exact pw_g_ne (by omega)
                have he66 : pw_g h27 26 8 = pw_g h25 26 8 := by rw [← h27w]; exact pw_g_ne (by omega)
                have he67 : pw_g h25 26 8 = pw_g h23 26 8 := pw_Eg (c := 26) h23I h25E rfl rfl 8
                have he68 : pw_g h23 26 8 = x9 := by rw [← h23w]; exact pw_g_eq (c := 26) (k := 8) I rfl rfl (by omega) (by omega)
                have l1 : pw_g h23 30 1 = pw_g h 30 1 := by rw [← h23w]; exact pw_g_ne (by omega)
                have t31 : ∀ j : Nat, pw_g h52 31 j = pw_g h25 31 j := fun j => by rw [← h52w, pw_g_ne (by omega), ← h29w, pw_g_ne (by omega), ← h28w, pw_g_ne (by omega), ← h27w]; exact pw_g_ne (by omega)
                have b31 : ∀ j : Nat, pw_g h23 31 j = pw_g h 31 j := fun j => by rw [← h23w]; exact pw_g_ne (by omega)
                have v31 := t31 (x9).toNat
                have t32 : ∀ j : Nat, pw_g h52 32 j = pw_g h25 32 j := fun j => by rw [← h52w, pw_g_ne (by omega), ← h29w, pw_g_ne (by omega), ← h28w, pw_g_ne (by omega), ← h27w]; exact pw_g_ne (by omega)
                have b32 : ∀ j : Nat, pw_g h23 32 j = pw_g h 32 j := fun j => by rw [← h23w]; exact pw_g_ne (by omega)
                have v32 := t32 (x9).toNat
                have t33 : ∀ j : Nat, pw_g h52 33 j = pw_g h25 33 j := fun j => by rw [← h52w, pw_g_ne (by omega), ← h29w, pw_g_ne (by omega), ← h28w, pw_g_ne (by omega), ← h27w]; exact pw_g_ne (by omega)
                have b33 : ∀ j : Nat, pw_g h23 33 j = pw_g h 33 j := fun j => by rw [← h23w]; exact pw_g_ne (by omega)
                have v33 := t33 (x9).toNat
                have u31 := hqbg.1.1
                have u32 := hqbg.2.1.1
                have u33 := hqbg.2.2.1
                exact ⟨h52I, h52F, ⟨_, rfl, by omega, by omega, (by unfold px_Q46; rw [hx]; exact Or.inr ⟨by omega, Or.inr ⟨by omega, by omega, Or.inr ⟨by omega, rfl, ⟨⟨by omega, by omega, by omega, by omega⟩, by omega, ⟨by omega, fun j hj => (t31 j).trans ((hqbg.1.2 j hj).trans (b31 j))⟩, ⟨by omega, fun j hj => (t32 j).trans ((hqbg.2.1.2 j hj).trans (b32 j))⟩, ⟨by omega, fun j hj => (t33 j).trans ((hqbg.2.2.2 j hj).trans (b33 j))⟩⟩⟩⟩⟩)⟩⟩
            · intro hc69
              change ¬ (pt_FO 0 x9 ≠ ((-1) : Int)) at hc69
              refine pw_ld E (pc' := 80) (st' := [.ref 42]) rfl (fun _ => rfl) ?_
              refine pw_ld E (pc' := 81) (st' := [pw_i 2, .ref 42]) rfl (fun _ => rfl) ?_
              refine pw_putI h29I E (c := 26) (k := 7) (pc' := 84) rfl rfl rfl rfl (by omega) (by omega) (by omega) (by omega) rfl rfl ?_
              intro h70I h70E
              generalize h70w : pw_w h29 26 7 (pw_i 2) = h70 at h70I h70E ⊢
              have h70F := h29F.tr (h70E.wk (W' := [26, 31, 32, 33]) (by first | rfl | simp))
              refine pw_goto E (pc' := 107) rfl (by decide) ?_
              refine pw_ld E (pc' := 108) (st' := [pw_i 0]) rfl (fun _ => rfl) ?_
              refine pw_iret E rfl ?_
              have hx : px_w46 0 K V = x9 := by omega
              have he71 : pw_g h70 26 4 = pw_g h29 26 4 := by rw [← h70w]; exact pw_g_ne (by omega)
              have he72 : pw_g h29 26 4 = pw_g h28 26 4 := by rw [← h29w]; exact pw_g_ne (by omega)
              have he73 : pw_g h28 26 4 = pw_g h27 26 4 := by rw [← h28w]; exact pw_g_ne (by omega)
              have he74 : pw_g h27 26 4 = 0 := by rw [← h27w]; exact pw_g_eq (c := 26) (k := 4) h25I rfl rfl (by omega) (by omega)
              have he75 : pw_g h70 26 5 = pw_g h29 26 5 := by rw [← h70w]; exact pw_g_ne (by omega)
              have he76 : pw_g h29 26 5 = pw_g h28 26 5 := by rw [← h29w]; exact pw_g_ne (by omega)
              have he77 : pw_g h28 26 5 = 0 := by rw [← h28w]; exact pw_g_eq (c := 26) (k := 5) h27I rfl rfl (by omega) (by omega)
              have he78 : pw_g h70 26 6 = pw_g h29 26 6 := by rw [← h70w]; exact pw_g_ne (by omega)
              have he79 : pw_g h29 26 6 = 0 := by rw [← h29w]; exact pw_g_eq (c := 26) (k := 6) h28I rfl rfl (by omega) (by omega)
              have he80 : pw_g h70 26 7 = 2 := by rw [← h70w]; exact pw_g_eq (c := 26) (k := 7) h29I rfl rfl (by omega) (by omega)
              have he81 : pw_g h70 26 8 = pw_g h29 26 8 := by rw [← h70w]; exact pw_g_ne (by omega)
              have he82 : pw_g h29 26 8 = pw_g h28 26 8 := by rw [← h29w]; exact pw_g_ne (by omega)
              have he83 : pw_g h28 26 8 = pw_g h27 26 8 := by rw [← h28w]; exact pw_g_ne (by omega)
              have he84 : pw_g h27 26 8 = pw_g h25 26 8 := by rw [← h27w]; exact pw_g_ne (by omega)
              have he85 : pw_g h25 26 8 = pw_g h23 26 8 := pw_Eg (c := 26) h23I h25E rfl rfl 8
              have he86 : pw_g h23 26 8 = x9 := by rw [← h23w]; exact pw_g_eq (c := 26) (k := 8) I rfl rfl (by omega) (by omega)
              have l1 : pw_g h23 30 1 = pw_g h 30 1 := by rw [← h23w]; exact pw_g_ne (by omega)
              have t31 : ∀ j : Nat, pw_g h70 31 j = pw_g h25 31 j := fun j => by rw [← h70w, pw_g_ne (by omega), ← h29w, pw_g_ne (by omega), ← h28w, pw_g_ne (by omega), ← h27w]; exact pw_g_ne (by omega)
              have b31 : ∀ j : Nat, pw_g h23 31 j = pw_g h 31 j := fun j => by rw [← h23w]; exact pw_g_ne (by omega)
              have v31 := t31 (x9).toNat
              have t32 : ∀ j : Nat, pw_g h70 32 j = pw_g h25 32 j := fun j => by rw [← h70w, pw_g_ne (by omega), ← h29w, pw_g_ne (by omega), ← h28w, pw_g_ne (by omega), ← h27w]; exact pw_g_ne (by omega)
              have b32 : ∀ j : Nat, pw_g h23 32 j = pw_g h 32 j := fun j => by rw [← h23w]; exact pw_g_ne (by omega)
              have v32 := t32 (x9).toNat
              have t33 : ∀ j : Nat, pw_g h70 33 j = pw_g h25 33 j := fun j => by rw [← h70w, pw_g_ne (by omega), ← h29w, pw_g_ne (by omega), ← h28w, pw_g_ne (by omega), ← h27w]; exact pw_g_ne (by omega)
              have b33 : ∀ j : Nat, pw_g h23 33 j = pw_g h 33 j := fun j => by rw [← h23w]; exact pw_g_ne (by omega)
              have v33 := t33 (x9).toNat
              have u31 := hqbg.1.1
              have u32 := hqbg.2.1.1
              have u33 := hqbg.2.2.1
              exact ⟨h70I, h70F, ⟨_, rfl, by omega, by omega, (by unfold px_Q46; rw [hx]; exact Or.inr ⟨by omega, Or.inr ⟨by omega, by omega, Or.inr ⟨by omega, rfl, ⟨⟨by omega, by omega, by omega, by omega⟩, by omega, ⟨by omega, fun j hj => (t31 j).trans ((hqbg.1.2 j hj).trans (b31 j))⟩, ⟨by omega, fun j hj => (t32 j).trans ((hqbg.2.1.2 j hj).trans (b32 j))⟩, ⟨by omega, fun j hj => (t33 j).trans ((hqbg.2.2.2 j hj).trans (b33 j))⟩⟩⟩⟩⟩)⟩⟩
          · intro hc87
            change ¬ (x17 = (0 : Int)) at hc87
            exfalso; omega
      · intro hc88
        change ¬ (x9 < (4 : Nat)) at hc88
        refine pw_ld E (pc' := 33) (st' := [pw_i 1]) rfl (fun _ => rfl) ?_
        refine pw_iret E rfl ?_
        have hx : px_w46 0 K V = x9 := by omega
        exfalso
        omega
  · intro hc89
    change ¬ (x4 ≠ (4 : Int)) at hc89
    refine pw_ld E (pc' := 9) (st' := [pw_i 0]) rfl (fun _ => rfl) ?_
    refine pw_iret E rfl ?_
    exact ⟨I, E0, ⟨_, rfl, by omega, by omega, Or.inl ⟨by omega, rfl, rfl⟩⟩⟩
set_option maxHeartbeats 4000000 in
theorem cm_56_x26 {X : List (Nat × List Value)} {d : Nat} {h : pm_H} (hd : 2 ≤ d) (I : pw_I h) (hX : pw_Xk X) (K V : Int) (hp0 : px_TR K V h) (hp1 : pw_Xs X) (hp2 : pw_Xf X) : pw X d h 56 0 [some (.ref 42), some (.ref 40), some (.ref 46)] [] (fun h' v => pw_I h' ∧ pw_E [26, 34] h h' ∧ ∃ a : Int, v = .inl (some (pw_i a)) ∧ 0 ≤ a ∧ a ≤ 4 ∧ (px_Q56 0 26 K V h h' a)) := by
  have E : pm_ent 56 = some (3, 3, 5, 0, pmc_56) := rfl
  have E0 : pw_E [26, 34] h h := pw_E.rf _ _
  have hTR := hp0
  have hXs := hp1
  have hXf := hp2
  have hk := hp0.k
  have hl8 := pw_gI (c := 26) (k := 8) I rfl rfl
  have hfo := px_FOB 0 (pw_g h 26 8)
  refine pw_ld E (pc' := 1) (st' := [.ref 40]) rfl (fun _ => rfl) ?_
  obtain ⟨f1l, f1h, -⟩ := pw_obj (c := 24) I rfl
  refine pw_call (m' := 107) (As := [.ref 40]) (rest := []) (ls'' := [some (.ref 40)]) (Nat.le_trans (by decide) hd) E rfl (fun _ => pw_iV rfl rfl rfl rfl (pw_cellI f1h rfl)) (rfl : pm_ent 107 = some (1, 1, 9, 0, pmc_107)) rfl rfl (cm_107_x24 (pw_dp hd (by decide)) I ) ?_
  rintro u3 v2 ⟨rfl, x4, rfl, hx4a, hx4b, hx4r⟩
  refine ⟨_, rfl, ?_⟩
  show pw X d h 56 4 [some (.ref 42), some (.ref 40), some (.ref 46)] [pw_i x4] _
  change x4 = pw_g h 24 4 at hx4r
  refine pw_ld E (pc' := 5) (st' := [pw_i 2, pw_i x4]) rfl (fun _ => rfl) ?_
  refine pw_if2 E (pc' := 10) rfl (by decide) (by omega) (by omega) (by decide) (by decide) ?_ ?_
  · intro hc5
    change x4 = (2 : Int) at hc5
    refine pw_ld E (pc' := 11) (st' := [.ref 40]) rfl (fun _ => rfl) ?_
    obtain ⟨f6l, f6h, -⟩ := pw_obj (c := 24) I rfl
    refine pw_call (m' := 110) (As := [.ref 40]) (rest := []) (ls'' := [some (.ref 40)]) (Nat.le_trans (by decide) hd) E rfl (fun _ => pw_iV rfl rfl rfl rfl (pw_cellI f6h rfl)) (rfl : pm_ent 110 = some (1, 1, 9, 0, pmc_110)) rfl rfl (cm_110_x24 (pw_dp hd (by decide)) I ) ?_
    rintro u8 v7 ⟨rfl, x9, rfl, hx9a, hx9b, hx9r⟩
    refine ⟨_, rfl, ?_⟩
    show pw X d h 56 14 [some (.ref 42), some (.ref 40), some (.ref 46)] [pw_i x9] _
    change x9 = pw_g h 24 5 at hx9r
    refine pw_ld E (pc' := 15) (st' := [.ref 42, pw_i x9]) rfl (fun _ => rfl) ?_
    refine pw_getR (b := 1) I E (c := 26) (k := 2) (pc' := 18) rfl rfl rfl rfl rfl rfl rfl ?_
    refine pw_ld E (pc' := 19) (st' := [.ref 42, .ref 1, pw_i x9]) rfl (fun _ => rfl) ?_
    refine pw_getI2 I E (c := 26) (k := 8) (pc' := 22) rfl rfl rfl rfl rfl rfl (fun hf10a hf10b => ?_)
    refine pw_xaldE E (pc' := 23) rfl hXf.1 (by decide) (by omega) (by omega) (px_FO1 (by omega) (by omega)) rfl ?_
    have hfo11 := px_FOB 0 (pw_g h 26 8)
    refine pw_if2 E (pc' := 28) rfl (by decide) (by omega) (by omega) (by omega) (by omega) ?_ ?_
    · intro hc12
      change x9 ≤ pt_FO 0 (pw_g h 26 8) at hc12
      refine pw_ld E (pc' := 29) (st' := [.ref 46]) rfl (fun _ => rfl) ?_
      refine pw_ld E (pc' := 30) (st' := [.ref 42, .ref 46]) rfl (fun _ => rfl) ?_
      refine pw_getI2 I E (c := 26) (k := 8) (pc' := 33) rfl rfl rfl rfl rfl rfl (fun hf13a hf13b => ?_)
      refine pw_ld E (pc' := 34) (st' := [.ref 40, pw_i (pw_g h 26 8), .ref 46]) rfl (fun _ => rfl) ?_
      obtain ⟨f14l, f14h, -⟩ := pw_obj (c := 24) I rfl
      refine pw_call (m' := 110) (As := [.ref 40]) (rest := [pw_i (pw_g h 26 8), .ref 46]) (ls'' := [some (.ref 40)]) (Nat.le_trans (by decide) hd) E rfl (fun _ => pw_iV rfl rfl rfl rfl (pw_cellI f14h rfl)) (rfl : pm_ent 110 = some (1, 1, 9, 0, pmc_110)) rfl rfl (cm_110_x24 (pw_dp hd (by decide)) I ) ?_
      rintro u16 v15 ⟨rfl, x17, rfl, hx17a, hx17b, hx17r⟩
      refine ⟨_, rfl, ?_⟩
      show pw X d h 56 37 [some (.ref 42), some (.ref 40), some (.ref 46)] [pw_i x17, pw_i (pw_g h 26 8), .ref 46] _
      change x17 = pw_g h 24 5 at hx17r
      obtain ⟨f18l, f18h, -⟩ := pw_obj (c := 30) I rfl
      refine pw_call (m' := 72) (As := [.ref 46, pw_i (pw_g h 26 8), pw_i x17]) (rest := []) (ls'' := [some (.ref 46), some (pw_i (pw_g h 26 8)), some (pw_i x17)]) (Nat.le_trans (by decide) hd) E rfl (fun _ => pw_iV rfl rfl rfl rfl (pw_cellI f18h rfl)) (rfl : pm_ent 72 = some (3, 3, 7, 4, pmc_72)) rfl rfl (cm_72_x (pw_dp hd (by decide)) I (pw_g h 26 8) (by omega) (by omega) (x17) (by omega) (by omega)) ?_
      rintro h19 v20 ⟨h19I, h19E, hqnu, rfl⟩
      refine ⟨_, rfl, ?_⟩
      have h19F := E0.tr (h19E.wk (W' := [26, 34]) (by first | rfl | simp))
      show pw X d h19 56 40 [some (.ref 42), some (.ref 40), some (.ref 46)] [] _
      refine pw_ld E (pc' := 41) (st' := [.ref 42]) rfl (fun _ => rfl) ?_
      refine pw_ld E (pc' := 42) (st' := [pw_i 5, .ref 42]) rfl (fun _ => rfl) ?_
      refine pw_putI h19I E (c := 26) (k := 7) (pc' := 45) rfl rfl rfl rfl (by omega) (by omega) (by omega) (by omega) rfl rfl ?_
      intro h21I h21E
      generalize h21w : pw_w h19 26 7 (pw_i 5) = h21 at h21I h21E ⊢
      have h21F := h19F.tr (h21E.wk (W' := [26, 34]) (by first | rfl | simp))
      refine pw_ld E (pc' := 46) (st' := [pw_i 0]) rfl (fun _ => rfl) ?_
      refine pw_iret E rfl ?_
      have z7 : pw_g h21 26 7 = 5 := by rw [← h21w]; exact pw_g_eq (c := 26) (k := 7) h19I rfl rfl (by omega) (by omega)
      have zk : ∀ k : Nat, k ≠ 7 → pw_g h21 26 k = pw_g h 26 k := fun k hk => by rw [← h21w, pw_g_ne (fun q => hk q.2.symm)]; exact pw_Eg (c := 26) I h19E rfl rfl k
      have y1 := hqnu.1
      exact ⟨h21I, h21F, ⟨_, rfl, by omega, by omega, Or.inr ⟨by omega, Or.inr ⟨by omega, rfl, z7, zk, (by rw [← h21w, pw_g_ne (by omega)]; omega), fun j hj => (by rw [← h21w, pw_g_ne (by omega)]; exact hqnu.2 j hj)⟩⟩⟩⟩
    · intro hc22
      change ¬ (x9 ≤ pt_FO 0 (pw_g h 26 8)) at hc22
      refine pw_ld E (pc' := 27) (st' := [pw_i 4]) rfl (fun _ => rfl) ?_
      refine pw_iret E rfl ?_
      exact ⟨I, E0, ⟨_, rfl, by omega, by omega, Or.inr ⟨by omega, Or.inl ⟨by omega, rfl⟩⟩⟩⟩
  · intro hc23
    change ¬ (x4 = (2 : Int)) at hc23
    refine pw_ld E (pc' := 9) (st' := [pw_i 1]) rfl (fun _ => rfl) ?_
    refine pw_iret E rfl ?_
    exact ⟨I, E0, ⟨_, rfl, by omega, by omega, Or.inl ⟨by omega, rfl⟩⟩⟩
set_option maxHeartbeats 4000000 in
theorem cm_46_x28 {X : List (Nat × List Value)} {d : Nat} {h : pm_H} (hd : 2 ≤ d) (I : pw_I h) (hX : pw_Xk X) (K V : Int) (hp0 : px_TR K V h) (hp1 : pw_Xs X) (hp2 : pw_Xf X) : pw X d h 46 0 [some (.ref 44), some (.ref 40), some (.ref 46), none] [] (fun h' v => pw_I h' ∧ pw_E [28, 31, 32, 33] h h' ∧ ∃ a : Int, v = .inl (some (pw_i a)) ∧ 0 ≤ a ∧ a ≤ 3 ∧ (px_Q46 1 28 K V h h' a)) := by
  have E : pm_ent 46 = some (3, 4, 5, 0, pmc_46) := rfl
  have E0 : pw_E [28, 31, 32, 33] h h := pw_E.rf _ _
  have hTR := hp0
  have hXs := hp1
  have hXf := hp2
  have hk := hp0.k
  have hw : px_w46 1 K V = px_wn 6 K V := rfl
  have hwB := px_w46B 1 K V
  refine pw_ld E (pc' := 1) (st' := [.ref 40]) rfl (fun _ => rfl) ?_
  obtain ⟨f1l, f1h, -⟩ := pw_obj (c := 24) I rfl
  refine pw_call (m' := 107) (As := [.ref 40]) (rest := []) (ls'' := [some (.ref 40)]) (Nat.le_trans (by decide) hd) E rfl (fun _ => pw_iV rfl rfl rfl rfl (pw_cellI f1h rfl)) (rfl : pm_ent 107 = some (1, 1, 9, 0, pmc_107)) rfl rfl (cm_107_x24 (pw_dp hd (by decide)) I ) ?_
  rintro u3 v2 ⟨rfl, x4, rfl, hx4a, hx4b, hx4r⟩
  refine ⟨_, rfl, ?_⟩
  show pw X d h 46 4 [some (.ref 44), some (.ref 40), some (.ref 46), none] [pw_i x4] _
  change x4 = pw_g h 24 4 at hx4r
  refine pw_ld E (pc' := 5) (st' := [pw_i 4, pw_i x4]) rfl (fun _ => rfl) ?_
  refine pw_if2 E (pc' := 10) rfl (by decide) (by omega) (by omega) (by decide) (by decide) ?_ ?_
  · intro hc5
    change x4 ≠ (4 : Int) at hc5
    refine pw_ld E (pc' := 11) (st' := [.ref 40]) rfl (fun _ => rfl) ?_
    refine pw_ld E (pc' := 12) (st' := [.ref 44, .ref 40]) rfl (fun _ => rfl) ?_
    refine pw_getR (b := 6) I E (c := 28) (k := 0) (pc' := 15) rfl rfl rfl rfl rfl rfl rfl ?_
    obtain ⟨f6l, f6h, -⟩ := pw_obj (c := 24) I rfl
    refine pw_call (m' := 108) (As := [.ref 40, .ref 6]) (rest := []) (ls'' := [some (.ref 40), some (.ref 6), none, none, none, none, none]) (Nat.le_trans (by decide) hd) E rfl (fun _ => pw_iV rfl rfl rfl rfl (pw_cellI f6h rfl)) (rfl : pm_ent 108 = some (2, 7, 9, 0, pmc_108)) rfl rfl (cm_108_w (pw_dp hd (by decide)) I hX 6 (by omega) (by omega) K V hTR hXs (by decide)) ?_
    rintro u8 v7 ⟨rfl, x9, rfl, hx9a, hx9b, hx9r⟩
    refine ⟨_, rfl, ?_⟩
    show pw X d h 46 18 [some (.ref 44), some (.ref 40), some (.ref 46), none] [pw_i x9] _
    change x9 = px_wn 6 K V at hx9r
    refine pw_istn E (pc' := 19) (ls' := [some (.ref 44), some (.ref 40), some (.ref 46), some (pw_i x9)]) rfl rfl rfl rfl ?_
    refine pw_ld E (pc' := 20) (st' := [pw_i x9]) rfl (fun _ => rfl) ?_
    refine pw_if E (pc' := 32) rfl (by decide) (by omega) (by omega) ?_ ?_
    · intro hc10
      change x9 < (0 : Int) at hc10
      refine pw_ld E (pc' := 33) (st' := [pw_i 1]) rfl (fun _ => rfl) ?_
      refine pw_iret E rfl ?_
      have hx : px_w46 1 K V = x9 := by omega
      exact ⟨I, E0, ⟨_, rfl, by omega, by omega, (by unfold px_Q46; rw [hx]; exact Or.inr ⟨by omega, Or.inl ⟨by omega, rfl⟩⟩)⟩⟩
    · intro hc11
      change ¬ (x9 < (0 : Int)) at hc11
      refine pw_ld E (pc' := 24) (st' := [pw_i x9]) rfl (fun _ => rfl) ?_
      refine pw_ld E (pc' := 25) (st' := [.ref 44, pw_i x9]) rfl (fun _ => rfl) ?_
      refine pw_getR (b := 2) I E (c := 28) (k := 2) (pc' := 28) rfl rfl rfl rfl rfl rfl rfl ?_
      obtain ⟨y12l, y12x, y12n, y12r⟩ := hX.2.1
      refine pw_xlen E (pc' := 29) rfl y12x (by decide) y12n rfl ?_
      refine pw_if2 E (pc' := 34) rfl (by decide) (by omega) (by omega) (by decide) (by decide) ?_ ?_
      · intro hc13
        change x9 < (4 : Nat) at hc13
        refine pw_ld E (pc' := 35) (st' := [.ref 46]) rfl (fun _ => rfl) ?_
        refine pw_ld E (pc' := 36) (st' := [pw_i x9, .ref 46]) rfl (fun _ => rfl) ?_
        obtain ⟨f14l, f14h, -⟩ := pw_obj (c := 30) I rfl
        refine pw_call (m' := 69) (As := [.ref 46, pw_i x9]) (rest := []) (ls'' := [some (.ref 46), some (pw_i x9)]) (Nat.le_trans (by decide) hd) E rfl (fun _ => pw_iV rfl rfl rfl rfl (pw_cellI f14h rfl)) (rfl : pm_ent 69 = some (2, 2, 7, 1, pmc_69)) rfl rfl (cm_69_x (pw_dp hd (by decide)) I (x9) (by omega) (by omega)) ?_
        rintro u16 v15 ⟨rfl, x17, rfl, hx17a, hx17b, hx17r⟩
        refine ⟨_, rfl, ?_⟩
        show pw X d h 46 39 [some (.ref 44), some (.ref 40), some (.ref 46), some (pw_i x9)] [pw_i x17] _
        change x17 = pw_g h 31 x9.toNat at hx17r
        rcases (by omega : x17 = 1 ∨ x17 = 0) with hb18 | hb18
        · skip
          refine pw_if E (pc' := 44) rfl (by decide) (by omega) (by omega) ?_ ?_
          · intro hc19
            change x17 = (0 : Int) at hc19
            exfalso; omega
          · intro hc20
            change ¬ (x17 = (0 : Int)) at hc20
            refine pw_ld E (pc' := 43) (st' := [pw_i 3]) rfl (fun _ => rfl) ?_
            refine pw_iret E rfl ?_
            have hx : px_w46 1 K V = x9 := by omega
            exact ⟨I, E0, ⟨_, rfl, by omega, by omega, (by unfold px_Q46; rw [hx]; exact Or.inr ⟨by omega, Or.inr ⟨by omega, by omega, Or.inl ⟨by omega, rfl⟩⟩⟩)⟩⟩
        · skip
          refine pw_if E (pc' := 44) rfl (by decide) (by omega) (by omega) ?_ ?_
          · intro hc22
            change x17 = (0 : Int) at hc22
            refine pw_ld E (pc' := 45) (st' := [.ref 44]) rfl (fun _ => rfl) ?_
            refine pw_ld E (pc' := 46) (st' := [pw_i x9, .ref 44]) rfl (fun _ => rfl) ?_
            refine pw_putI I E (c := 28) (k := 8) (pc' := 49) rfl rfl rfl rfl (by omega) (by omega) (by omega) (by omega) rfl rfl ?_
            intro h23I h23E
            generalize h23w : pw_w h 28 8 (pw_i x9) = h23 at h23I h23E ⊢
            have h23F := E0.tr (h23E.wk (W' := [28, 31, 32, 33]) (by first | rfl | simp))
            refine pw_ld E (pc' := 50) (st' := [.ref 46]) rfl (fun _ => rfl) ?_
            refine pw_ld E (pc' := 51) (st' := [pw_i x9, .ref 46]) rfl (fun _ => rfl) ?_
            obtain ⟨f24l, f24h, -⟩ := pw_obj (c := 30) h23I rfl
            refine pw_call (m' := 70) (As := [.ref 46, pw_i x9]) (rest := []) (ls'' := [some (.ref 46), some (pw_i x9)]) (Nat.le_trans (by decide) hd) E rfl (fun _ => pw_iV rfl rfl rfl rfl (pw_cellI f24h rfl)) (rfl : pm_ent 70 = some (2, 2, 7, 4, pmc_70)) rfl rfl (cm_70_x (pw_dp hd (by decide)) h23I (x9) (by omega) (by omega)) ?_
            rintro h25 v26 ⟨h25I, h25E, hqbg, rfl⟩
            refine ⟨_, rfl, ?_⟩
            have h25F := h23F.tr (h25E.wk (W' := [28, 31, 32, 33]) (by first | rfl | simp))
            show pw X d h25 46 54 [some (.ref 44), some (.ref 40), some (.ref 46), some (pw_i x9)] [] _
            refine pw_ld E (pc' := 55) (st' := [.ref 44]) rfl (fun _ => rfl) ?_
            refine pw_ld E (pc' := 56) (st' := [pw_i 0, .ref 44]) rfl (fun _ => rfl) ?_
            refine pw_putI h25I E (c := 28) (k := 4) (pc' := 59) rfl rfl rfl rfl (by omega) (by omega) (by omega) (by omega) rfl rfl ?_
            intro h27I h27E
            generalize h27w : pw_w h25 28 4 (pw_i 0) = h27 at h27I h27E ⊢
            have h27F := h25F.tr (h27E.wk (W' := [28, 31, 32, 33]) (by first | rfl | simp))
            refine pw_ld E (pc' := 60) (st' := [.ref 44]) rfl (fun _ => rfl) ?_
            refine pw_ld E (pc' := 61) (st' := [pw_i 0, .ref 44]) rfl (fun _ => rfl) ?_
            refine pw_putI h27I E (c := 28) (k := 5) (pc' := 64) rfl rfl rfl rfl (by omega) (by omega) (by omega) (by omega) rfl rfl ?_
            intro h28I h28E
            generalize h28w : pw_w h27 28 5 (pw_i 0) = h28 at h28I h28E ⊢
            have h28F := h27F.tr (h28E.wk (W' := [28, 31, 32, 33]) (by first | rfl | simp))
            refine pw_ld E (pc' := 65) (st' := [.ref 44]) rfl (fun _ => rfl) ?_
            refine pw_ld E (pc' := 66) (st' := [pw_i 0, .ref 44]) rfl (fun _ => rfl) ?_
            refine pw_putI h28I E (c := 28) (k := 6) (pc' := 69) rfl rfl rfl rfl (by omega) (by omega) (by omega) (by omega) rfl rfl ?_
            intro h29I h29E
            generalize h29w : pw_w h28 28 6 (pw_i 0) = h29 at h29I h29E ⊢
            have h29F := h28F.tr (h29E.wk (W' := [28, 31, 32, 33]) (by first | rfl | simp))
            refine pw_ld E (pc' := 70) (st' := [.ref 44]) rfl (fun _ => rfl) ?_
            refine pw_getR (b := 2) h29I E (c := 28) (k := 2) (pc' := 73) rfl rfl rfl rfl rfl rfl rfl ?_
            refine pw_ld E (pc' := 74) (st' := [pw_i x9, .ref 2]) rfl (fun _ => rfl) ?_
            refine pw_xaldE E (pc' := 75) rfl hXf.2 (by decide) (by omega) (by omega) (px_FO2 (by omega) (by omega)) rfl ?_
            have hfo30 := px_FOB 1 x9
            refine pw_ld E (pc' := 76) (st' := [pw_i ((-1)), pw_i (pt_FO 1 x9)]) rfl (fun _ => rfl) ?_
            refine pw_if2 E (pc' := 87) rfl (by decide) (by omega) (by omega) (by decide) (by decide) ?_ ?_
            · intro hc31
              change pt_FO 1 x9 ≠ ((-1) : Int) at hc31
              refine pw_ld E (pc' := 88) (st' := [.ref 44]) rfl (fun _ => rfl) ?_
              refine pw_ld E (pc' := 89) (st' := [.ref 44, .ref 44]) rfl (fun _ => rfl) ?_
              refine pw_getR (b := 2) h29I E (c := 28) (k := 2) (pc' := 92) rfl rfl rfl rfl rfl rfl rfl ?_
              refine pw_ld E (pc' := 93) (st' := [pw_i x9, .ref 2, .ref 44]) rfl (fun _ => rfl) ?_
              refine pw_xaldE E (pc' := 94) rfl hXf.2 (by decide) (by omega) (by omega) (px_FO2 (by omega) (by omega)) rfl ?_
              have hfo32 := px_FOB 1 x9
              refine pw_bip E (pc' := 96) rfl rfl (by decide) ?_
              refine pw_if2 E (pc' := 103) rfl (by decide) (by omega) (by omega) (by decide) (by decide) ?_ ?_
              · intro hc33
                change pt_FO 1 x9 ≠ ((-2) : Int) at hc33
                refine pw_ld E (pc' := 104) (st' := [pw_i 4, .ref 44]) rfl (fun _ => rfl) ?_
                refine pw_putI h29I E (c := 28) (k := 7) (pc' := 107) rfl rfl rfl rfl (by omega) (by omega) (by omega) (by omega) rfl rfl ?_
                intro h34I h34E
                generalize h34w : pw_w h29 28 7 (pw_i 4) = h34 at h34I h34E ⊢
                have h34F := h29F.tr (h34E.wk (W' := [28, 31, 32, 33]) (by first | rfl | simp))
                refine pw_ld E (pc' := 108) (st' := [pw_i 0]) rfl (fun _ => rfl) ?_
                refine pw_iret E rfl ?_
                have hx : px_w46 1 K V = x9 := by omega
                have he35 : pw_g h34 28 4 = pw_g h29 28 4 := by rw [← h34w]; exact pw_g_ne (by omega)
                have he36 : pw_g h29 28 4 = pw_g h28 28 4 := by rw [← h29w]; exact pw_g_ne (by omega)
                have he37 : pw_g h28 28 4 = pw_g h27 28 4 := by rw [← h28w]; exact pw_g_ne (by omega)
                have he38 : pw_g h27 28 4 = 0 := by rw [← h27w]; exact pw_g_eq (c := 28) (k := 4) h25I rfl rfl (by omega) (by omega)
                have he39 : pw_g h34 28 5 = pw_g h29 28 5 := by rw [← h34w]; exact pw_g_ne (by omega)
                have he40 : pw_g h29 28 5 = pw_g h28 28 5 := by rw [← h29w]; exact pw_g_ne (by omega)
                have he41 : pw_g h28 28 5 = 0 := by rw [← h28w]; exact pw_g_eq (c := 28) (k := 5) h27I rfl rfl (by omega) (by omega)
                have he42 : pw_g h34 28 6 = pw_g h29 28 6 := by rw [← h34w]; exact pw_g_ne (by omega)
                have he43 : pw_g h29 28 6 = 0 := by rw [← h29w]; exact pw_g_eq (c := 28) (k := 6) h28I rfl rfl (by omega) (by omega)
                have he44 : pw_g h34 28 7 = 4 := by rw [← h34w]; exact pw_g_eq (c := 28) (k := 7) h29I rfl rfl (by omega) (by omega)
                have he45 : pw_g h34 28 8 = pw_g h29 28 8 := by rw [← h34w]; exact pw_g_ne (by omega)
                have he46 : pw_g h29 28 8 = pw_g h28 28 8 := by rw [← h29w]; exact pw_g_ne (by omega)
                have he47 : pw_g h28 28 8 = pw_g h27 28 8 := by rw [← h28w]; exact pw_g_ne (by omega)
                have he48 : pw_g h27 28 8 = pw_g h25 28 8 := by rw [← h27w]; exact pw_g_ne (by omega)
                have he49 : pw_g h25 28 8 = pw_g h23 28 8 := pw_Eg (c := 28) h23I h25E rfl rfl 8
                have he50 : pw_g h23 28 8 = x9 := by rw [← h23w]; exact pw_g_eq (c := 28) (k := 8) I rfl rfl (by omega) (by omega)
                have l1 : pw_g h23 30 1 = pw_g h 30 1 := by rw [← h23w]; exact pw_g_ne (by omega)
                have t31 : ∀ j : Nat, pw_g h34 31 j = pw_g h25 31 j := fun j => by rw [← h34w, pw_g_ne (by omega), ← h29w, pw_g_ne (by omega), ← h28w, pw_g_ne (by omega), ← h27w]; exact pw_g_ne (by omega)
                have b31 : ∀ j : Nat, pw_g h23 31 j = pw_g h 31 j := fun j => by rw [← h23w]; exact pw_g_ne (by omega)
                have v31 := t31 (x9).toNat
                have t32 : ∀ j : Nat, pw_g h34 32 j = pw_g h25 32 j := fun j => by rw [← h34w, pw_g_ne (by omega), ← h29w, pw_g_ne (by omega), ← h28w, pw_g_ne (by omega), ← h27w]; exact pw_g_ne (by omega)
                have b32 : ∀ j : Nat, pw_g h23 32 j = pw_g h 32 j := fun j => by rw [← h23w]; exact pw_g_ne (by omega)
                have v32 := t32 (x9).toNat
                have t33 : ∀ j : Nat, pw_g h34 33 j = pw_g h25 33 j := fun j => by rw [← h34w, pw_g_ne (by omega), ← h29w, pw_g_ne (by omega), ← h28w, pw_g_ne (by omega), ← h27w]; exact pw_g_ne (by omega)
                have b33 : ∀ j : Nat, pw_g h23 33 j = pw_g h 33 j := fun j => by rw [← h23w]; exact pw_g_ne (by omega)
                have v33 := t33 (x9).toNat
                have u31 := hqbg.1.1
                have u32 := hqbg.2.1.1
                have u33 := hqbg.2.2.1
                exact ⟨h34I, h34F, ⟨_, rfl, by omega, by omega, (by unfold px_Q46; rw [hx]; exact Or.inr ⟨by omega, Or.inr ⟨by omega, by omega, Or.inr ⟨by omega, rfl, ⟨⟨by omega, by omega, by omega, by omega⟩, by omega, ⟨by omega, fun j hj => (t31 j).trans ((hqbg.1.2 j hj).trans (b31 j))⟩, ⟨by omega, fun j hj => (t32 j).trans ((hqbg.2.1.2 j hj).trans (b32 j))⟩, ⟨by omega, fun j hj => (t33 j).trans ((hqbg.2.2.2 j hj).trans (b33 j))⟩⟩⟩⟩⟩)⟩⟩
              · intro hc51
                change ¬ (pt_FO 1 x9 ≠ ((-2) : Int)) at hc51
                refine pw_ld E (pc' := 100) (st' := [pw_i 1, .ref 44]) rfl (fun _ => rfl) ?_
                refine pw_goto E (pc' := 104) rfl (by decide) ?_
                refine pw_putI h29I E (c := 28) (k := 7) (pc' := 107) rfl rfl rfl rfl (by omega) (by omega) (by omega) (by omega) rfl rfl ?_
                intro h52I h52E
                generalize h52w : pw_w h29 28 7 (pw_i 1) = h52 at h52I h52E ⊢
                have h52F := h29F.tr (h52E.wk (W' := [28, 31, 32, 33]) (by first | rfl | simp))
                refine pw_ld E (pc' := 108) (st' := [pw_i 0]) rfl (fun _ => rfl) ?_
                refine pw_iret E rfl ?_
                have hx : px_w46 1 K V = x9 := by omega
                have he53 : pw_g h52 28 4 = pw_g h29 28 4 := by rw [← h52w]; exact pw_g_ne (by omega)
                have he54 : pw_g h29 28 4 = pw_g h28 28 4 := by rw [← h29w]; exact pw_g_ne (by omega)
                have he55 : pw_g h28 28 4 = pw_g h27 28 4 := by rw [← h28w]; exact pw_g_ne (by omega)
                have he56 : pw_g h27 28 4 = 0 := by rw [← h27w]; exact pw_g_eq (c := 28) (k := 4) h25I rfl rfl (by omega) (by omega)
                have he57 : pw_g h52 28 5 = pw_g h29 28 5 := by rw [← h52w]; exact pw_g_ne (by omega)
                have he58 : pw_g h29 28 5 = pw_g h28 28 5 := by rw [← h29w]; exact pw_g_ne (by omega)
                have he59 : pw_g h28 28 5 = 0 := by rw [← h28w]; exact pw_g_eq (c := 28) (k := 5) h27I rfl rfl (by omega) (by omega)
                have he60 : pw_g h52 28 6 = pw_g h29 28 6 := by rw [← h52w]; exact pw_g_ne (by omega)
                have he61 : pw_g h29 28 6 = 0 := by rw [← h29w]; exact pw_g_eq (c := 28) (k := 6) h28I rfl rfl (by omega) (by omega)
                have he62 : pw_g h52 28 7 = 1 := by rw [← h52w]; exact pw_g_eq (c := 28) (k := 7) h29I rfl rfl (by omega) (by omega)
                have he63 : pw_g h52 28 8 = pw_g h29 28 8 := by rw [← h52w]; exact pw_g_ne (by omega)
                have he64 : pw_g h29 28 8 = pw_g h28 28 8 := by rw [← h29w]; exact pw_g_ne (by omega)
                have he65 : pw_g h28 28 8 = pw_g h27 28 8 := by rw [← h28w]; exact pw_g_ne (by omega)
                have he66 : pw_g h27 28 8 = pw_g h25 28 8 := by rw [← h27w]; exact pw_g_ne (by omega)
                have he67 : pw_g h25 28 8 = pw_g h23 28 8 := pw_Eg (c := 28) h23I h25E rfl rfl 8
                have he68 : pw_g h23 28 8 = x9 := by rw [← h23w]; exact pw_g_eq (c := 28) (k := 8) I rfl rfl (by omega) (by omega)
                have l1 : pw_g h23 30 1 = pw_g h 30 1 := by rw [← h23w]; exact pw_g_ne (by omega)
                have t31 : ∀ j : Nat, pw_g h52 31 j = pw_g h25 31 j := fun j => by rw [← h52w, pw_g_ne (by omega), ← h29w, pw_g_ne (by omega), ← h28w, pw_g_ne (by omega), ← h27w]; exact pw_g_ne (by omega)
                have b31 : ∀ j : Nat, pw_g h23 31 j = pw_g h 31 j := fun j => by rw [← h23w]; exact pw_g_ne (by omega)
                have v31 := t31 (x9).toNat
                have t32 : ∀ j : Nat, pw_g h52 32 j = pw_g h25 32 j := fun j => by rw [← h52w, pw_g_ne (by omega), ← h29w, pw_g_ne (by omega), ← h28w, pw_g_ne (by omega), ← h27w]; exact pw_g_ne (by omega)
                have b32 : ∀ j : Nat, pw_g h23 32 j = pw_g h 32 j := fun j => by rw [← h23w]; exact pw_g_ne (by omega)
                have v32 := t32 (x9).toNat
                have t33 : ∀ j : Nat, pw_g h52 33 j = pw_g h25 33 j := fun j => by rw [← h52w, pw_g_ne (by omega), ← h29w, pw_g_ne (by omega), ← h28w, pw_g_ne (by omega), ← h27w]; exact pw_g_ne (by omega)
                have b33 : ∀ j : Nat, pw_g h23 33 j = pw_g h 33 j := fun j => by rw [← h23w]; exact pw_g_ne (by omega)
                have v33 := t33 (x9).toNat
                have u31 := hqbg.1.1
                have u32 := hqbg.2.1.1
                have u33 := hqbg.2.2.1
                exact ⟨h52I, h52F, ⟨_, rfl, by omega, by omega, (by unfold px_Q46; rw [hx]; exact Or.inr ⟨by omega, Or.inr ⟨by omega, by omega, Or.inr ⟨by omega, rfl, ⟨⟨by omega, by omega, by omega, by omega⟩, by omega, ⟨by omega, fun j hj => (t31 j).trans ((hqbg.1.2 j hj).trans (b31 j))⟩, ⟨by omega, fun j hj => (t32 j).trans ((hqbg.2.1.2 j hj).trans (b32 j))⟩, ⟨by omega, fun j hj => (t33 j).trans ((hqbg.2.2.2 j hj).trans (b33 j))⟩⟩⟩⟩⟩)⟩⟩
            · intro hc69
              change ¬ (pt_FO 1 x9 ≠ ((-1) : Int)) at hc69
              refine pw_ld E (pc' := 80) (st' := [.ref 44]) rfl (fun _ => rfl) ?_
              refine pw_ld E (pc' := 81) (st' := [pw_i 2, .ref 44]) rfl (fun _ => rfl) ?_
              refine pw_putI h29I E (c := 28) (k := 7) (pc' := 84) rfl rfl rfl rfl (by omega) (by omega) (by omega) (by omega) rfl rfl ?_
              intro h70I h70E
              generalize h70w : pw_w h29 28 7 (pw_i 2) = h70 at h70I h70E ⊢
              have h70F := h29F.tr (h70E.wk (W' := [28, 31, 32, 33]) (by first | rfl | simp))
              refine pw_goto E (pc' := 107) rfl (by decide) ?_
              refine pw_ld E (pc' := 108) (st' := [pw_i 0]) rfl (fun _ => rfl) ?_
              refine pw_iret E rfl ?_
              have hx : px_w46 1 K V = x9 := by omega
              have he71 : pw_g h70 28 4 = pw_g h29 28 4 := by rw [← h70w]; exact pw_g_ne (by omega)
              have he72 : pw_g h29 28 4 = pw_g h28 28 4 := by rw [← h29w]; exact pw_g_ne (by omega)
              have he73 : pw_g h28 28 4 = pw_g h27 28 4 := by rw [← h28w]; exact pw_g_ne (by omega)
              have he74 : pw_g h27 28 4 = 0 := by rw [← h27w]; exact pw_g_eq (c := 28) (k := 4) h25I rfl rfl (by omega) (by omega)
              have he75 : pw_g h70 28 5 = pw_g h29 28 5 := by rw [← h70w]; exact pw_g_ne (by omega)
              have he76 : pw_g h29 28 5 = pw_g h28 28 5 := by rw [← h29w]; exact pw_g_ne (by omega)
              have he77 : pw_g h28 28 5 = 0 := by rw [← h28w]; exact pw_g_eq (c := 28) (k := 5) h27I rfl rfl (by omega) (by omega)
              have he78 : pw_g h70 28 6 = pw_g h29 28 6 := by rw [← h70w]; exact pw_g_ne (by omega)
              have he79 : pw_g h29 28 6 = 0 := by rw [← h29w]; exact pw_g_eq (c := 28) (k := 6) h28I rfl rfl (by omega) (by omega)
              have he80 : pw_g h70 28 7 = 2 := by rw [← h70w]; exact pw_g_eq (c := 28) (k := 7) h29I rfl rfl (by omega) (by omega)
              have he81 : pw_g h70 28 8 = pw_g h29 28 8 := by rw [← h70w]; exact pw_g_ne (by omega)
              have he82 : pw_g h29 28 8 = pw_g h28 28 8 := by rw [← h29w]; exact pw_g_ne (by omega)
              have he83 : pw_g h28 28 8 = pw_g h27 28 8 := by rw [← h28w]; exact pw_g_ne (by omega)
              have he84 : pw_g h27 28 8 = pw_g h25 28 8 := by rw [← h27w]; exact pw_g_ne (by omega)
              have he85 : pw_g h25 28 8 = pw_g h23 28 8 := pw_Eg (c := 28) h23I h25E rfl rfl 8
              have he86 : pw_g h23 28 8 = x9 := by rw [← h23w]; exact pw_g_eq (c := 28) (k := 8) I rfl rfl (by omega) (by omega)
              have l1 : pw_g h23 30 1 = pw_g h 30 1 := by rw [← h23w]; exact pw_g_ne (by omega)
              have t31 : ∀ j : Nat, pw_g h70 31 j = pw_g h25 31 j := fun j => by rw [← h70w, pw_g_ne (by omega), ← h29w, pw_g_ne (by omega), ← h28w, pw_g_ne (by omega), ← h27w]; exact pw_g_ne (by omega)
              have b31 : ∀ j : Nat, pw_g h23 31 j = pw_g h 31 j := fun j => by rw [← h23w]; exact pw_g_ne (by omega)
              have v31 := t31 (x9).toNat
              have t32 : ∀ j : Nat, pw_g h70 32 j = pw_g h25 32 j := fun j => by rw [← h70w, pw_g_ne (by omega), ← h29w, pw_g_ne (by omega), ← h28w, pw_g_ne (by omega), ← h27w]; exact pw_g_ne (by omega)
              have b32 : ∀ j : Nat, pw_g h23 32 j = pw_g h 32 j := fun j => by rw [← h23w]; exact pw_g_ne (by omega)
              have v32 := t32 (x9).toNat
              have t33 : ∀ j : Nat, pw_g h70 33 j = pw_g h25 33 j := fun j => by rw [← h70w, pw_g_ne (by omega), ← h29w, pw_g_ne (by omega), ← h28w, pw_g_ne (by omega), ← h27w]; exact pw_g_ne (by omega)
              have b33 : ∀ j : Nat, pw_g h23 33 j = pw_g h 33 j := fun j => by rw [← h23w]; exact pw_g_ne (by omega)
              have v33 := t33 (x9).toNat
              have u31 := hqbg.1.1
              have u32 := hqbg.2.1.1
              have u33 := hqbg.2.2.1
              exact ⟨h70I, h70F, ⟨_, rfl, by omega, by omega, (by unfold px_Q46; rw [hx]; exact Or.inr ⟨by omega, Or.inr ⟨by omega, by omega, Or.inr ⟨by omega, rfl, ⟨⟨by omega, by omega, by omega, by omega⟩, by omega, ⟨by omega, fun j hj => (t31 j).trans ((hqbg.1.2 j hj).trans (b31 j))⟩, ⟨by omega, fun j hj => (t32 j).trans ((hqbg.2.1.2 j hj).trans (b32 j))⟩, ⟨by omega, fun j hj => (t33 j).trans ((hqbg.2.2.2 j hj).trans (b33 j))⟩⟩⟩⟩⟩)⟩⟩
          · intro hc87
            change ¬ (x17 = (0 : Int)) at hc87
            exfalso; omega
      · intro hc88
        change ¬ (x9 < (4 : Nat)) at hc88
        refine pw_ld E (pc' := 33) (st' := [pw_i 1]) rfl (fun _ => rfl) ?_
        refine pw_iret E rfl ?_
        have hx : px_w46 1 K V = x9 := by omega
        exfalso
        omega
  · intro hc89
    change ¬ (x4 ≠ (4 : Int)) at hc89
    refine pw_ld E (pc' := 9) (st' := [pw_i 0]) rfl (fun _ => rfl) ?_
    refine pw_iret E rfl ?_
    exact ⟨I, E0, ⟨_, rfl, by omega, by omega, Or.inl ⟨by omega, rfl, rfl⟩⟩⟩
set_option maxHeartbeats 4000000 in
theorem cm_56_x28 {X : List (Nat × List Value)} {d : Nat} {h : pm_H} (hd : 2 ≤ d) (I : pw_I h) (hX : pw_Xk X) (K V : Int) (hp0 : px_TR K V h) (hp1 : pw_Xs X) (hp2 : pw_Xf X) : pw X d h 56 0 [some (.ref 44), some (.ref 40), some (.ref 46)] [] (fun h' v => pw_I h' ∧ pw_E [28, 34] h h' ∧ ∃ a : Int, v = .inl (some (pw_i a)) ∧ 0 ≤ a ∧ a ≤ 4 ∧ (px_Q56 1 28 K V h h' a)) := by
  have E : pm_ent 56 = some (3, 3, 5, 0, pmc_56) := rfl
  have E0 : pw_E [28, 34] h h := pw_E.rf _ _
  have hTR := hp0
  have hXs := hp1
  have hXf := hp2
  have hk := hp0.k
  have hl8 := pw_gI (c := 28) (k := 8) I rfl rfl
  have hfo := px_FOB 1 (pw_g h 28 8)
  refine pw_ld E (pc' := 1) (st' := [.ref 40]) rfl (fun _ => rfl) ?_
  obtain ⟨f1l, f1h, -⟩ := pw_obj (c := 24) I rfl
  refine pw_call (m' := 107) (As := [.ref 40]) (rest := []) (ls'' := [some (.ref 40)]) (Nat.le_trans (by decide) hd) E rfl (fun _ => pw_iV rfl rfl rfl rfl (pw_cellI f1h rfl)) (rfl : pm_ent 107 = some (1, 1, 9, 0, pmc_107)) rfl rfl (cm_107_x24 (pw_dp hd (by decide)) I ) ?_
  rintro u3 v2 ⟨rfl, x4, rfl, hx4a, hx4b, hx4r⟩
  refine ⟨_, rfl, ?_⟩
  show pw X d h 56 4 [some (.ref 44), some (.ref 40), some (.ref 46)] [pw_i x4] _
  change x4 = pw_g h 24 4 at hx4r
  refine pw_ld E (pc' := 5) (st' := [pw_i 2, pw_i x4]) rfl (fun _ => rfl) ?_
  refine pw_if2 E (pc' := 10) rfl (by decide) (by omega) (by omega) (by decide) (by decide) ?_ ?_
  · intro hc5
    change x4 = (2 : Int) at hc5
    refine pw_ld E (pc' := 11) (st' := [.ref 40]) rfl (fun _ => rfl) ?_
    obtain ⟨f6l, f6h, -⟩ := pw_obj (c := 24) I rfl
    refine pw_call (m' := 110) (As := [.ref 40]) (rest := []) (ls'' := [some (.ref 40)]) (Nat.le_trans (by decide) hd) E rfl (fun _ => pw_iV rfl rfl rfl rfl (pw_cellI f6h rfl)) (rfl : pm_ent 110 = some (1, 1, 9, 0, pmc_110)) rfl rfl (cm_110_x24 (pw_dp hd (by decide)) I ) ?_
    rintro u8 v7 ⟨rfl, x9, rfl, hx9a, hx9b, hx9r⟩
    refine ⟨_, rfl, ?_⟩
    show pw X d h 56 14 [some (.ref 44), some (.ref 40), some (.ref 46)] [pw_i x9] _
    change x9 = pw_g h 24 5 at hx9r
    refine pw_ld E (pc' := 15) (st' := [.ref 44, pw_i x9]) rfl (fun _ => rfl) ?_
    refine pw_getR (b := 2) I E (c := 28) (k := 2) (pc' := 18) rfl rfl rfl rfl rfl rfl rfl ?_
    refine pw_ld E (pc' := 19) (st' := [.ref 44, .ref 2, pw_i x9]) rfl (fun _ => rfl) ?_
    refine pw_getI2 I E (c := 28) (k := 8) (pc' := 22) rfl rfl rfl rfl rfl rfl (fun hf10a hf10b => ?_)
    refine pw_xaldE E (pc' := 23) rfl hXf.2 (by decide) (by omega) (by omega) (px_FO2 (by omega) (by omega)) rfl ?_
    have hfo11 := px_FOB 1 (pw_g h 28 8)
    refine pw_if2 E (pc' := 28) rfl (by decide) (by omega) (by omega) (by omega) (by omega) ?_ ?_
    · intro hc12
      change x9 ≤ pt_FO 1 (pw_g h 28 8) at hc12
      refine pw_ld E (pc' := 29) (st' := [.ref 46]) rfl (fun _ => rfl) ?_
      refine pw_ld E (pc' := 30) (st' := [.ref 44, .ref 46]) rfl (fun _ => rfl) ?_
      refine pw_getI2 I E (c := 28) (k := 8) (pc' := 33) rfl rfl rfl rfl rfl rfl (fun hf13a hf13b => ?_)
      refine pw_ld E (pc' := 34) (st' := [.ref 40, pw_i (pw_g h 28 8), .ref 46]) rfl (fun _ => rfl) ?_
      obtain ⟨f14l, f14h, -⟩ := pw_obj (c := 24) I rfl
      refine pw_call (m' := 110) (As := [.ref 40]) (rest := [pw_i (pw_g h 28 8), .ref 46]) (ls'' := [some (.ref 40)]) (Nat.le_trans (by decide) hd) E rfl (fun _ => pw_iV rfl rfl rfl rfl (pw_cellI f14h rfl)) (rfl : pm_ent 110 = some (1, 1, 9, 0, pmc_110)) rfl rfl (cm_110_x24 (pw_dp hd (by decide)) I ) ?_
      rintro u16 v15 ⟨rfl, x17, rfl, hx17a, hx17b, hx17r⟩
      refine ⟨_, rfl, ?_⟩
      show pw X d h 56 37 [some (.ref 44), some (.ref 40), some (.ref 46)] [pw_i x17, pw_i (pw_g h 28 8), .ref 46] _
      change x17 = pw_g h 24 5 at hx17r
      obtain ⟨f18l, f18h, -⟩ := pw_obj (c := 30) I rfl
      refine pw_call (m' := 72) (As := [.ref 46, pw_i (pw_g h 28 8), pw_i x17]) (rest := []) (ls'' := [some (.ref 46), some (pw_i (pw_g h 28 8)), some (pw_i x17)]) (Nat.le_trans (by decide) hd) E rfl (fun _ => pw_iV rfl rfl rfl rfl (pw_cellI f18h rfl)) (rfl : pm_ent 72 = some (3, 3, 7, 4, pmc_72)) rfl rfl (cm_72_x (pw_dp hd (by decide)) I (pw_g h 28 8) (by omega) (by omega) (x17) (by omega) (by omega)) ?_
      rintro h19 v20 ⟨h19I, h19E, hqnu, rfl⟩
      refine ⟨_, rfl, ?_⟩
      have h19F := E0.tr (h19E.wk (W' := [28, 34]) (by first | rfl | simp))
      show pw X d h19 56 40 [some (.ref 44), some (.ref 40), some (.ref 46)] [] _
      refine pw_ld E (pc' := 41) (st' := [.ref 44]) rfl (fun _ => rfl) ?_
      refine pw_ld E (pc' := 42) (st' := [pw_i 5, .ref 44]) rfl (fun _ => rfl) ?_
      refine pw_putI h19I E (c := 28) (k := 7) (pc' := 45) rfl rfl rfl rfl (by omega) (by omega) (by omega) (by omega) rfl rfl ?_
      intro h21I h21E
      generalize h21w : pw_w h19 28 7 (pw_i 5) = h21 at h21I h21E ⊢
      have h21F := h19F.tr (h21E.wk (W' := [28, 34]) (by first | rfl | simp))
      refine pw_ld E (pc' := 46) (st' := [pw_i 0]) rfl (fun _ => rfl) ?_
      refine pw_iret E rfl ?_
      have z7 : pw_g h21 28 7 = 5 := by rw [← h21w]; exact pw_g_eq (c := 28) (k := 7) h19I rfl rfl (by omega) (by omega)
      have zk : ∀ k : Nat, k ≠ 7 → pw_g h21 28 k = pw_g h 28 k := fun k hk => by rw [← h21w, pw_g_ne (fun q => hk q.2.symm)]; exact pw_Eg (c := 28) I h19E rfl rfl k
      have y1 := hqnu.1
      exact ⟨h21I, h21F, ⟨_, rfl, by omega, by omega, Or.inr ⟨by omega, Or.inr ⟨by omega, rfl, z7, zk, (by rw [← h21w, pw_g_ne (by omega)]; omega), fun j hj => (by rw [← h21w, pw_g_ne (by omega)]; exact hqnu.2 j hj)⟩⟩⟩⟩
    · intro hc22
      change ¬ (x9 ≤ pt_FO 1 (pw_g h 28 8)) at hc22
      refine pw_ld E (pc' := 27) (st' := [pw_i 4]) rfl (fun _ => rfl) ?_
      refine pw_iret E rfl ?_
      exact ⟨I, E0, ⟨_, rfl, by omega, by omega, Or.inr ⟨by omega, Or.inl ⟨by omega, rfl⟩⟩⟩⟩
  · intro hc23
    change ¬ (x4 = (2 : Int)) at hc23
    refine pw_ld E (pc' := 9) (st' := [pw_i 1]) rfl (fun _ => rfl) ?_
    refine pw_iret E rfl ?_
    exact ⟨I, E0, ⟨_, rfl, by omega, by omega, Or.inl ⟨by omega, rfl⟩⟩⟩
end
