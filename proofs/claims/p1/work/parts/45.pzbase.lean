/-! soundness of the number machine: one of its ways is what the picture machine does -/
def pz_T (V : pz_V) (os : List pz_O) (r : pm_R) : Prop := ∃ o ∈ os, pz_k V o.1 ∧ r = some (pz_h V o.2.1, pz_r V o.2.2)
theorem pz_T.mono {V : pz_V} {os os' : List pz_O} {r : pm_R} (h : pz_T V os r) (hs : ∀ o ∈ os, o ∈ os') : pz_T V os' r := by
  obtain ⟨o, h1, h2⟩ := h
  exact ⟨o, hs o h1, h2⟩
theorem pz_ct {α : Type} {b : Bool} {K : Option α} {o : α} (h : cond b K none = some o) : b = true ∧ K = some o := by
  cases b with
  | false => cases h
  | true => exact ⟨rfl, h⟩
theorem pz_cf {α : Type} {b : Bool} {K : Option α} {o : α} (h : cond b none K = some o) : b = false ∧ K = some o := by
  cases b with
  | false => exact ⟨rfl, h⟩
  | true => cases h
theorem pz_c2 {α : Type} {b : Bool} {K J : α} {o : α} (h : cond b K J = o) : (b = true ∧ K = o) ∨ (b = false ∧ J = o) := by
  cases b with
  | false => exact Or.inr ⟨rfl, h⟩
  | true => exact Or.inl ⟨rfl, h⟩
theorem pz_app_some {a b : pz_R} {os : List pz_O} (h : pz_app a b = some os) : ∃ x y, a = some x ∧ b = some y ∧ os = x ++ y := by
  unfold pz_app at h
  cases a with
  | none => cases h
  | some x =>
    cases b with
    | none => cases h
    | some y => exact ⟨x, y, rfl, rfl, (Option.some.inj h).symm⟩
theorem pz_ib_some {C : pz_E} {i : Nat} {k : Nat → Nat → pz_R} {os : List pz_O} (h : pz_ib C i k = some os) : ∃ lo hi, C.1[i]? = some (lo, hi) ∧ k lo hi = some os := by
  unfold pz_ib at h
  rw [pm_nth_eq] at h
  cases hq : C.1[i]? with
  | none => rw [hq] at h; cases h
  | some q => rw [hq] at h; exact ⟨q.1, q.2, rfl, h⟩
theorem pz_p1_some {st : List Nat} {k : Nat → List Nat → pz_R} {os : List pz_O} (h : pz_p1 st k = some os) : ∃ a r, st = a :: r ∧ k a r = some os := by
  cases st with
  | nil => cases h
  | cons a r => exact ⟨a, r, rfl, h⟩
theorem pz_nx_eq (ih : pz_J) (C : pz_E) (d : Nat) (h : pz_H) (M : pz_M) (pc len L : Nat) (st : List Nat) : pz_nx ih C d h M pc len L st = ih C d h M (pc + len) L st := by
  unfold pz_nx
  rw [pm_fn_eq]
  rfl
theorem pz_psh_eq (ih : pz_J) (C : pz_E) (d : Nat) (h : pz_H) (M : pz_M) (pc len L c : Nat) (st : List Nat) : pz_psh ih C d h M pc len L c st = ih C d h M (pc + len) L (c :: st) := by
  unfold pz_psh
  rw [pm_fn_eq, pz_nx_eq]
/-- a symbol whose range is made narrower -/
theorem pz_k.put {V : pz_V} {C : pz_E} {i lo hi : Nat} (h : pz_k V C) (h1 : lo ≤ pz_b (V.1 i)) (h2 : pz_b (V.1 i) ≤ hi) : pz_k V (pz_sC C i lo hi) := by
  refine ⟨fun j l g hj => ?_, h.2⟩
  have hj : (pm_set C.1 i (lo, hi))[j]? = some (l, g) := hj
  rw [pm_set_eq] at hj
  by_cases hij : i = j
  · subst hij
    have hlt : i < C.1.length := by
      have := (List.getElem?_eq_some_iff.mp hj).1
      rw [List.length_set] at this
      exact this
    rw [List.getElem?_set_self hlt] at hj
    cases hj
    exact ⟨h1, h2⟩
  · rw [List.getElem?_set_ne hij] at hj
    exact h.1 j l g hj
theorem pz_enum_T {V : pz_V} {r : pm_R} {K : Nat → pz_R} : ∀ (n v : Nat) {os : List pz_O} (w : Nat), pz_enum n v K = some os → v ≤ w → w < v + n → (∀ os', K w = some os' → pz_T V os' r) → pz_T V os r
  | 0, v, os, w, _, h1, h2, _ => by omega
  | n + 1, v, os, w, h, h1, h2, hk => by
    have h : pz_app (K v) (pz_enum n (Nat.succ v) K) = some os := h
    obtain ⟨x, y, e1, e2, rfl⟩ := pz_app_some h
    by_cases hw : w = v
    · subst hw
      exact (hk x e1).mono fun o ho => List.mem_append_left _ ho
    · exact (pz_enum_T n (Nat.succ v) w e2 (by show v + 1 ≤ w; omega) (by show w < v + 1 + n; omega) hk).mono fun o ho => List.mem_append_right _ ho
theorem pz_int_T {V : pz_V} {C : pz_E} {c : Nat} {K : pz_E → Nat → pz_R} {os : List pz_O} {r : pm_R} (hC : pz_k V C) (h : pz_int C c K = some os) (hk : ∀ C' b os', pz_k V C' → pz_v V c = .int (Int32.ofNat b) → K C' b = some os' → pz_T V os' r) : pz_T V os r := by
  unfold pz_int at h
  rcases pz_c2 h with ⟨h0, h⟩ | ⟨-, h⟩
  · have h0 : c % 8 = 0 := Nat.eq_of_beq_eq_true h0
    exact hk C (c / 8) os hC (pz_v0 h0) h
  · obtain ⟨h4, h⟩ := pz_ct h
    have h4 : c % 8 = 4 := Nat.eq_of_beq_eq_true h4
    obtain ⟨lo, hi, e, h⟩ := pz_ib_some h
    obtain ⟨-, h⟩ := pz_ct h
    have e : C.1[c / 8 % 16]? = some (lo, hi) := e
    obtain ⟨k1, k2⟩ := hC.1 _ _ _ e
    refine pz_enum_T _ _ (pz_b (V.1 (c / 8 % 16))) h k1 (by show _ < lo + ((hi - lo) + 1); omega) fun os' h' => ?_
    rw [pm_fn_eq, pm_fn_eq] at h'
    refine hk _ _ os' (hC.put (Nat.le_refl _) (Nat.le_refl _)) ?_ h'
    rw [pz_v4 h4, pz_sym_at V rfl]
    rfl
theorem pz_rs_T {V : pz_V} {C : pz_E} {c : Nat} {K : Nat → pz_R} {os : List pz_O} {r : pm_R} (hC : pz_k V C) (h : pz_rs C c K = some os) (hk : ∀ c', pz_v V c' = pz_v V c → K c' = some os → pz_T V os r) : pz_T V os r := by
  unfold pz_rs at h
  rcases pz_c2 h with ⟨h4, h⟩ | ⟨-, h⟩
  · have h4 : c % 8 = 4 := Nat.eq_of_beq_eq_true h4
    obtain ⟨lo, hi, e, h⟩ := pz_ib_some h
    have e : C.1[c / 8 % 16]? = some (lo, hi) := e
    rcases pz_c2 h with ⟨hb, h5⟩ | ⟨-, h5⟩
    · have hb := Nat.eq_of_beq_eq_true hb
      obtain ⟨k1, k2⟩ := hC.1 _ _ _ e
      rw [pm_fn_eq] at h5
      refine hk _ ?_ h5
      have e8 : Nat.mul 8 (Nat.mod (Nat.add (Nat.add lo 2147483648) (Nat.div (Nat.div c 8) 16)) 4294967296) = 8 * ((lo + 2147483648 + c / 8 / 16) % 4294967296) := rfl
      rw [e8, pz_vi, pz_v4 h4, pz_sym_at V (show pz_b (V.1 (c / 8 % 16)) = lo by omega)]
    · exact hk c rfl h5
  · exact hk c rfl h
theorem pz_pt_T {V : pz_V} {C : pz_E} {i lo hi : Nat} {G : pz_E → pz_R} {os : List pz_O} {r : pm_R} (hC : pz_k V C) (h : pz_pt C i lo hi G = some os) (h1 : lo ≤ pz_b (V.1 i)) (h2 : pz_b (V.1 i) ≤ hi) (hk : ∀ C' os', pz_k V C' → G C' = some os' → pz_T V os' r) : pz_T V os r := by
  unfold pz_pt at h
  rcases pz_c2 h with ⟨-, h⟩ | ⟨hb, -⟩
  · rw [pm_fn_eq, pm_fn_eq] at h
    exact hk _ _ (hC.put h1 h2) h
  · have : Nat.ble lo hi = true := Nat.ble_eq_true_of_le (Nat.le_trans h1 h2)
    rw [this] at hb
    cases hb
theorem pz_mn_eq (a b : Nat) : pz_mn a b = min a b := by
  unfold pz_mn
  cases h : Nat.ble a b with
  | true => have := Nat.le_of_ble_eq_true h; rw [cond_true]; omega
  | false =>
    have : ¬ a ≤ b := fun q => by rw [Nat.ble_eq_true_of_le q] at h; cases h
    rw [cond_false]; omega
theorem pz_mx_eq (a b : Nat) : pz_mx a b = max a b := by
  unfold pz_mx
  cases h : Nat.ble a b with
  | true => have := Nat.le_of_ble_eq_true h; rw [cond_true]; omega
  | false =>
    have : ¬ a ≤ b := fun q => by rw [Nat.ble_eq_true_of_le q] at h; cases h
    rw [cond_false]; omega
theorem pz_blt_t {a b : Nat} (h : a < b) : Nat.blt a b = true := Nat.ble_eq_true_of_le h
theorem pz_blt_f {a b : Nat} (h : ¬ a < b) : Nat.blt a b = false := by
  cases hb : Nat.blt a b with
  | true => exact absurd (pm_blt hb) h
  | false => rfl
theorem pz_ble_f {a b : Nat} (h : ¬ a ≤ b) : Nat.ble a b = false := by
  cases hb : Nat.ble a b with
  | true => exact absurd (Nat.le_of_ble_eq_true hb) h
  | false => rfl
theorem pz_beq_f {a b : Nat} (h : a ≠ b) : Nat.beq a b = false := by
  cases hb : Nat.beq a b with
  | true => exact absurd (Nat.eq_of_beq_eq_true hb) h
  | false => rfl
theorem pz_beq_t (a : Nat) : Nat.beq a a = true := Nat.beq_refl a
theorem pz_cn0 (a b : Nat) : pz_cn 0 a b = Nat.beq a b := rfl
theorem pz_cn1 (a b : Nat) : pz_cn 1 a b = !Nat.beq a b := rfl
theorem pz_cn2 (a b : Nat) : pz_cn 2 a b = Nat.blt a b := rfl
theorem pz_cn3 (a b : Nat) : pz_cn 3 a b = Nat.ble b a := rfl
theorem pz_cn4 (a b : Nat) : pz_cn 4 a b = Nat.blt b a := rfl
theorem pz_cn5 (a b : Nat) : pz_cn 5 a b = Nat.ble a b := rfl
/-- the meaning of a comparison's number -/
theorem pz_cn_eq (cd : ClassFile.Cond) (x y : Int32) : pz_cn (pz_c6 cd) (pz_b x) (pz_b y) = pm_cnd cd x y := by
  have hlt : ∀ a b : Int32, Nat.blt (pz_b a) (pz_b b) = decide (a < b) := by
    intro a b
    by_cases h : a < b
    · rw [decide_eq_true h, pz_blt_t (pz_b_lt.mp h)]
    · rw [decide_eq_false h, pz_blt_f (fun q => h (pz_b_lt.mpr q))]
  have hle : ∀ a b : Int32, Nat.ble (pz_b a) (pz_b b) = decide (a ≤ b) := by
    intro a b
    by_cases h : a ≤ b
    · rw [decide_eq_true h, Nat.ble_eq_true_of_le (pz_b_le.mp h)]
    · rw [decide_eq_false h, pz_ble_f (fun q => h (pz_b_le.mpr q))]
  have heq : Nat.beq (pz_b x) (pz_b y) = decide (x = y) := by
    by_cases h : x = y
    · subst h; rw [decide_eq_true rfl, pz_beq_t]
    · rw [decide_eq_false h, pz_beq_f (fun q => h (pz_b_eq.mpr q))]
  have hlt1 := hlt x y
  have hlt2 := hlt y x
  have hle1 := hle y x
  have hle2 := hle x y
  generalize pz_b x = u at heq hlt1 hlt2 hle1 hle2
  generalize pz_b y = w at heq hlt1 hlt2 hle1 hle2
  cases cd with
  | eq => rw [show pz_c6 .eq = 0 from rfl, pz_cn0, heq]; rfl
  | ne => rw [show pz_c6 .ne = 1 from rfl, pz_cn1, heq]; rfl
  | lt => rw [show pz_c6 .lt = 2 from rfl, pz_cn2, hlt1]; rfl
  | ge => rw [show pz_c6 .ge = 3 from rfl, pz_cn3, hle1]; rfl
  | gt => rw [show pz_c6 .gt = 4 from rfl, pz_cn4, hlt2]; rfl
  | le => rw [show pz_c6 .le = 5 from rfl, pz_cn5, hle2]; rfl
theorem pz_cn_swp (cd : ClassFile.Cond) (a b : Nat) : pz_cn (pz_swp (pz_c6 cd)) b a = pz_cn (pz_c6 cd) a b := by
  have hs : Nat.beq b a = Nat.beq a b := by
    by_cases h : a = b
    · subst h; rfl
    · rw [pz_beq_f h, pz_beq_f (Ne.symm h)]
  cases cd with
  | eq => rw [show pz_swp (pz_c6 .eq) = 0 from rfl, show pz_c6 .eq = 0 from rfl, pz_cn0, pz_cn0, hs]
  | ne => rw [show pz_swp (pz_c6 .ne) = 1 from rfl, show pz_c6 .ne = 1 from rfl, pz_cn1, pz_cn1, hs]
  | lt => rfl
  | ge => rfl
  | gt => rfl
  | le => rfl
/-- a symbol against a number -/
theorem pz_sp_A {V : pz_V} {C : pz_E} {i cn t x : Nat} {T F : pz_E → pz_R} {os : List pz_O} {r : pm_R} (hcn : cn < 6) (hrg : ∀ lo hi, C.1[i]? = some (lo, hi) → lo ≤ x ∧ x ≤ hi)
    (hpt : ∀ {lo hi : Nat} {G : pz_E → pz_R} {os : List pz_O}, pz_pt C i lo hi G = some os → lo ≤ x → x ≤ hi → (∀ C' os', pz_k V C' → G C' = some os' → pz_T V os' r) → pz_T V os r) (h0 : pz_sp C i cn t T F = some os)
    (hT : ∀ C' os', pz_k V C' → pz_cn cn x t = true → T C' = some os' → pz_T V os' r) (hF : ∀ C' os', pz_k V C' → pz_cn cn x t = false → F C' = some os' → pz_T V os' r) : pz_T V os r := by
  unfold pz_sp at h0
  obtain ⟨lo, hi, e, h⟩ := pz_ib_some h0
  obtain ⟨k1, k2⟩ := hrg _ _ e
  have L : ∀ {a b : List pz_O}, pz_T V a r → pz_T V (a ++ b) r := fun q => q.mono fun o ho => List.mem_append_left _ ho
  have Rr : ∀ {a b : List pz_O}, pz_T V b r → pz_T V (a ++ b) r := fun q => q.mono fun o ho => List.mem_append_right _ ho
  rcases pz_c2 h with ⟨hb, h⟩ | ⟨hb, h⟩
  · have hb := pm_blt hb
    obtain ⟨u, w, e1, e2, rfl⟩ := pz_app_some h
    obtain ⟨w1, w2, e3, e4, rfl⟩ := pz_app_some e2
    have hgo : ∀ (b : Bool) C' os', pz_k V C' → pz_cn cn x t = b → (cond b T F) C' = some os' → pz_T V os' r := by
      intro b C' os' q1 q2 q3
      cases b with
      | true => exact hT C' os' q1 q2 q3
      | false => exact hF C' os' q1 q2 q3
    have hne : x ≠ t → pz_cn cn x t = Nat.beq cn 1 := by
      intro q
      rcases (by omega : cn = 0 ∨ cn = 1) with rfl | rfl
      · exact pz_beq_f q
      · show (!Nat.beq x t) = _
        rw [pz_beq_f q]; rfl
    have hfl : (cond (Nat.beq cn 0) F T) = cond (Nat.beq cn 1) T F := by
      rcases (by omega : cn = 0 ∨ cn = 1) with rfl | rfl <;> rfl
    have htl : pz_cn cn t t = Nat.beq cn 0 := by
      rcases (by omega : cn = 0 ∨ cn = 1) with rfl | rfl
      · exact pz_beq_t t
      · show (!Nat.beq t t) = _
        rw [pz_beq_t]; rfl
    rcases Nat.lt_trichotomy x t with hxt | hxt | hxt
    · refine L ?_
      rcases pz_c2 e1 with ⟨-, e1⟩ | ⟨q, -⟩
      · rw [pz_mn_eq, hfl] at e1
        refine hpt e1 k1 (by show x ≤ min hi (t - 1); omega) fun C' os' q1 q2 => hgo _ C' os' q1 (hne (by omega)) q2
      · rw [pz_blt_t (show 0 < t by omega)] at q; cases q
    · refine Rr (L ?_)
      subst hxt
      rw [pz_mn_eq, pz_mx_eq] at e3
      exact hpt e3 (by show max lo x ≤ x; omega) (by show x ≤ min hi x; omega) fun C' os' q1 q2 => hgo _ C' os' q1 htl q2
    · refine Rr (Rr ?_)
      rw [pz_mx_eq, hfl] at e4
      exact hpt e4 (by show max lo (t + 1) ≤ x; omega) k2 fun C' os' q1 q2 => hgo _ C' os' q1 (hne (by omega)) q2
  · have hb2 : ¬ cn < 2 := fun q => by rw [pz_blt_t q] at hb; cases hb
    rw [pm_fn_eq] at h
    obtain ⟨u, w, e1, e2, rfl⟩ := pz_app_some h
    generalize hth : cond (Nat.blt cn 4) t (Nat.succ t) = th at e1 e2
    have key : ∀ b : Bool, (b = true ↔ x < th) → pz_cn cn x t = cond (Nat.beq cn 2 || Nat.beq cn 5) b (!b) := by
      intro b hb9
      rcases (by omega : cn = 2 ∨ cn = 3 ∨ cn = 4 ∨ cn = 5) with rfl | rfl | rfl | rfl
      · have hth : t = th := hth
        subst hth
        show Nat.blt x t = b
        cases b with
        | true => exact pz_blt_t (hb9.mp rfl)
        | false => exact pz_blt_f (fun q => nomatch hb9.mpr q)
      · have hth : t = th := hth
        subst hth
        show Nat.ble t x = !b
        cases b with
        | true => exact pz_ble_f (by have := hb9.mp rfl; omega)
        | false => exact Nat.ble_eq_true_of_le (Nat.le_of_not_lt (fun q => nomatch hb9.mpr q))
      · have hth : t + 1 = th := hth
        subst hth
        show Nat.blt t x = !b
        cases b with
        | true => exact pz_blt_f (by have := hb9.mp rfl; omega)
        | false => exact pz_blt_t (Nat.lt_of_not_le fun q => nomatch hb9.mpr (Nat.lt_succ_of_le q))
      · have hth : t + 1 = th := hth
        subst hth
        show Nat.ble x t = b
        cases b with
        | true => exact Nat.ble_eq_true_of_le (Nat.le_of_lt_succ (hb9.mp rfl))
        | false => exact pz_ble_f (fun q => nomatch hb9.mpr (Nat.lt_succ_of_le q))
    by_cases hxt : x < th
    · refine L ?_
      have hc := key true ⟨fun _ => hxt, fun _ => rfl⟩
      rcases pz_c2 e1 with ⟨-, e1⟩ | ⟨q, -⟩
      · rw [pz_mn_eq] at e1
        refine hpt e1 k1 (by show x ≤ min hi (th - 1); omega) fun C' os' q1 q2 => ?_
        cases hz : (Nat.beq cn 2 || Nat.beq cn 5) with
        | true => rw [hz] at hc q2; exact hT C' os' q1 hc q2
        | false => rw [hz] at hc q2; exact hF C' os' q1 hc q2
      · rw [pz_blt_t (show 0 < th by omega)] at q; cases q
    · refine Rr ?_
      have hc := key false ⟨fun q => (nomatch q), fun q => absurd q hxt⟩
      rw [pz_mx_eq] at e2
      refine hpt e2 (by show max lo th ≤ x; omega) k2 fun C' os' q1 q2 => ?_
      cases hz : (Nat.beq cn 2 || Nat.beq cn 5) with
      | true => rw [hz] at hc q2; exact hF C' os' q1 hc q2
      | false => rw [hz] at hc q2; exact hT C' os' q1 hc q2
theorem pz_sp_T {V : pz_V} {C : pz_E} {i cn t : Nat} {T F : pz_E → pz_R} {os : List pz_O} {r : pm_R} (hcn : cn < 6) (hC : pz_k V C) (h : pz_sp C i cn t T F = some os)
    (hT : ∀ C' os', pz_k V C' → pz_cn cn (pz_b (V.1 i)) t = true → T C' = some os' → pz_T V os' r) (hF : ∀ C' os', pz_k V C' → pz_cn cn (pz_b (V.1 i)) t = false → F C' = some os' → pz_T V os' r) : pz_T V os r :=
  pz_sp_A (x := pz_b (V.1 i)) hcn (fun lo hi e => hC.1 _ _ _ e) (fun h1 h2 h3 h4 => pz_pt_T hC h1 h2 h3 h4) h hT hF
theorem pz_kn_some {V : pz_V} : ∀ {l : List (Nat × Nat × Bool)} {i j : Nat} {b : Bool}, (∀ q ∈ l, (V.1 q.1 = V.1 q.2.1) ↔ q.2.2 = true) → pz_kn l i j = some b → ((V.1 i = V.1 j) ↔ b = true)
  | [], _, _, _, _, h => by cases h
  | q :: l, i, j, b, hl, h => by
    have h : cond ((Nat.beq q.1 i && Nat.beq q.2.1 j) || (Nat.beq q.1 j && Nat.beq q.2.1 i)) (some q.2.2) (pz_kn l i j) = some b := h
    rcases pz_c2 h with ⟨hb, h⟩ | ⟨-, h⟩
    · cases h
      have hq := hl q List.mem_cons_self
      rw [Bool.or_eq_true, Bool.and_eq_true, Bool.and_eq_true] at hb
      rcases hb with ⟨a1, a2⟩ | ⟨a1, a2⟩
      · rw [← Nat.eq_of_beq_eq_true a1, ← Nat.eq_of_beq_eq_true a2]; exact hq
      · rw [← Nat.eq_of_beq_eq_true a1, ← Nat.eq_of_beq_eq_true a2]
        exact ⟨fun z => hq.mp z.symm, fun z => (hq.mpr z).symm⟩
    · exact pz_kn_some (fun q hq => hl q (List.mem_cons_of_mem _ hq)) h
theorem pz_fk_T {V : pz_V} {C : pz_E} {i j : Nat} {T F : pz_E → pz_R} {os : List pz_O} {r : pm_R} (hC : pz_k V C) (h : pz_fk C i j T F = some os)
    (hT : ∀ C' os', pz_k V C' → V.1 i = V.1 j → T C' = some os' → pz_T V os' r) (hF : ∀ C' os', pz_k V C' → V.1 i ≠ V.1 j → F C' = some os' → pz_T V os' r) : pz_T V os r := by
  unfold pz_fk at h
  cases hk : pz_kn C.2 i j with
  | none =>
    rw [hk] at h
    obtain ⟨u, w, e1, e2, rfl⟩ := pz_app_some h
    have hadd : ∀ b : Bool, ((V.1 i = V.1 j) ↔ b = true) → pz_k V (C.1, (i, j, b) :: C.2) := fun b hb => ⟨hC.1, fun q hq => by
      rcases List.mem_cons.mp hq with rfl | hq
      · exact hb
      · exact hC.2 q hq⟩
    by_cases he : V.1 i = V.1 j
    · exact (hT _ _ (hadd true ⟨fun _ => rfl, fun _ => he⟩) he e1).mono fun o ho => List.mem_append_left _ ho
    · exact (hF _ _ (hadd false ⟨fun q => absurd q he, fun q => nomatch q⟩) he e2).mono fun o ho => List.mem_append_right _ ho
  | some b =>
    rw [hk] at h
    have hb := pz_kn_some hC.2 hk
    cases b with
    | true => exact hT _ _ hC (hb.mpr rfl) h
    | false => exact hF _ _ hC (fun q => nomatch hb.mp q) h
theorem pz_c6_lt (cd : ClassFile.Cond) : pz_c6 cd < 6 := by cases cd <;> decide
theorem pz_swp_lt (cd : ClassFile.Cond) : pz_swp (pz_c6 cd) < 6 := by cases cd <;> decide
/-- a comparison -/
theorem pz_cmp_T {V : pz_V} {C : pz_E} {cd : ClassFile.Cond} {x y : Nat} {T F : pz_E → pz_R} {os : List pz_O} {r : pm_R} (hC : pz_k V C) (h : pz_cmp C (pz_c6 cd) x y T F = some os)
    (hT : ∀ a b : Int32, pz_v V x = .int a → pz_v V y = .int b → ∀ C' os', pz_k V C' → pm_cnd cd a b = true → T C' = some os' → pz_T V os' r) (hF : ∀ a b : Int32, pz_v V x = .int a → pz_v V y = .int b → ∀ C' os', pz_k V C' → pm_cnd cd a b = false → F C' = some os' → pz_T V os' r) : pz_T V os r := by
  unfold pz_cmp at h
  have hbi : ∀ c : Nat, pz_bi (Nat.div c 8) = pz_b (Int32.ofNat (c / 8)) := fun c => (pz_b_of _).symm
  rcases pz_c2 h with ⟨hx, h⟩ | ⟨hx, h⟩
  · have hx : x % 8 = 0 := Nat.eq_of_beq_eq_true hx
    rcases pz_c2 h with ⟨hy, h⟩ | ⟨hy, h⟩
    · have hy : y % 8 = 0 := Nat.eq_of_beq_eq_true hy
      rw [hbi, hbi, pz_cn_eq] at h
      rcases pz_c2 h with ⟨hb, h⟩ | ⟨hb, h⟩
      · exact hT _ _ (pz_v0 hx) (pz_v0 hy) C os hC hb h
      · exact hF _ _ (pz_v0 hx) (pz_v0 hy) C os hC hb h
    · obtain ⟨hy, h⟩ := pz_ct h
      rw [Bool.and_eq_true] at hy
      have hy4 : y % 8 = 4 := Nat.eq_of_beq_eq_true hy.1
      have hy16 : y / 8 < 16 := pm_blt hy.2
      have hyv : pz_v V y = .int (V.1 (y / 8)) := by rw [pz_v4 hy4, pz_zi_off V hy16]
      rw [hbi] at h
      refine pz_sp_T (pz_swp_lt cd) hC h (fun C' os' q1 q2 q3 => ?_) (fun C' os' q1 q2 q3 => ?_)
      · have q2 : pz_cn (pz_swp (pz_c6 cd)) (pz_b (V.1 (y / 8))) (pz_b (Int32.ofNat (x / 8))) = true := q2
        rw [pz_cn_swp, pz_cn_eq] at q2
        exact hT _ _ (pz_v0 hx) hyv C' os' q1 q2 q3
      · have q2 : pz_cn (pz_swp (pz_c6 cd)) (pz_b (V.1 (y / 8))) (pz_b (Int32.ofNat (x / 8))) = false := q2
        rw [pz_cn_swp, pz_cn_eq] at q2
        exact hF _ _ (pz_v0 hx) hyv C' os' q1 q2 q3
  · obtain ⟨hx4, h⟩ := pz_ct h
    have hx4 : x % 8 = 4 := Nat.eq_of_beq_eq_true hx4
    rcases pz_c2 h with ⟨hy, h⟩ | ⟨hy, h⟩
    · have hy : y % 8 = 0 := Nat.eq_of_beq_eq_true hy
      obtain ⟨hx16, h⟩ := pz_ct h
      have hx16 : x / 8 < 16 := pm_blt hx16
      have hxv : pz_v V x = .int (V.1 (x / 8)) := by rw [pz_v4 hx4, pz_zi_off V hx16]
      rw [hbi] at h
      refine pz_sp_T (pz_c6_lt cd) hC h (fun C' os' q1 q2 q3 => ?_) (fun C' os' q1 q2 q3 => ?_)
      · have q2 : pz_cn (pz_c6 cd) (pz_b (V.1 (x / 8))) (pz_b (Int32.ofNat (y / 8))) = true := q2
        rw [pz_cn_eq] at q2
        exact hT _ _ hxv (pz_v0 hy) C' os' q1 q2 q3
      · have q2 : pz_cn (pz_c6 cd) (pz_b (V.1 (x / 8))) (pz_b (Int32.ofNat (y / 8))) = false := q2
        rw [pz_cn_eq] at q2
        exact hF _ _ hxv (pz_v0 hy) C' os' q1 q2 q3
    · rcases pz_c2 h with ⟨he, h5⟩ | ⟨he, h⟩
      · have he := Nat.eq_of_beq_eq_true he
        subst he
        have e0 : ∀ a : Int32, pz_cn (pz_c6 cd) 0 0 = pm_cnd cd a a := by
          intro a
          rw [← pz_cn_eq]
          generalize pz_b a = u
          have u1 := pz_beq_t u
          have u2 := pz_blt_f (Nat.lt_irrefl u)
          have u3 := Nat.ble_eq_true_of_le (Nat.le_refl u)
          cases cd with
          | eq => rw [show pz_c6 .eq = 0 from rfl, pz_cn0, pz_cn0, u1]; rfl
          | ne => rw [show pz_c6 .ne = 1 from rfl, pz_cn1, pz_cn1, u1]; rfl
          | lt => rw [show pz_c6 .lt = 2 from rfl, pz_cn2, pz_cn2, u2]; rfl
          | ge => rw [show pz_c6 .ge = 3 from rfl, pz_cn3, pz_cn3, u3]; rfl
          | gt => rw [show pz_c6 .gt = 4 from rfl, pz_cn4, pz_cn4, u2]; rfl
          | le => rw [show pz_c6 .le = 5 from rfl, pz_cn5, pz_cn5, u3]; rfl
        have hxv := pz_v4 (V := V) hx4
        rw [e0 (pz_zi V (x / 8))] at h5
        rcases pz_c2 h5 with ⟨hb5, h6⟩ | ⟨hb5, h6⟩
        · exact hT _ _ hxv hxv C os hC hb5 h6
        · exact hF _ _ hxv hxv C os hC hb5 h6
      · obtain ⟨hb, h⟩ := pz_ct h
        simp only [Bool.and_eq_true] at hb
        obtain ⟨b1, b2, b3, b4⟩ := hb
        have hy4 : y % 8 = 4 := Nat.eq_of_beq_eq_true b1
        have b2 : x / 8 < 16 := pm_blt b2
        have b3 : y / 8 < 16 := pm_blt b3
        have hxv : pz_v V x = .int (V.1 (x / 8)) := by rw [pz_v4 hx4, pz_zi_off V b2]
        have hyv : pz_v V y = .int (V.1 (y / 8)) := by rw [pz_v4 hy4, pz_zi_off V b3]
        have hcd : cd = .eq ∨ cd = .ne := by
          have := pm_blt b4
          cases cd with
          | eq => exact Or.inl rfl
          | ne => exact Or.inr rfl
          | lt => exact absurd this (by decide)
          | ge => exact absurd this (by decide)
          | gt => exact absurd this (by decide)
          | le => exact absurd this (by decide)
        rcases hcd with rfl | rfl
        · refine pz_fk_T hC h (fun C' os' q1 q2 q3 => ?_) (fun C' os' q1 q2 q3 => ?_)
          · exact hT _ _ hxv hyv C' os' q1 (decide_eq_true q2) q3
          · exact hF _ _ hxv hyv C' os' q1 (decide_eq_false q2) q3
        · refine pz_fk_T hC h (fun C' os' q1 q2 q3 => ?_) (fun C' os' q1 q2 q3 => ?_)
          · have q2 : V.1 (x / 8) = V.1 (y / 8) := q2
            exact hF _ _ hxv hyv C' os' q1 (by show (!decide (V.1 (x / 8) = V.1 (y / 8))) = false; rw [decide_eq_true q2]; rfl) q3
          · have q2 : V.1 (x / 8) ≠ V.1 (y / 8) := q2
            exact hT _ _ hxv hyv C' os' q1 (by show (!decide (V.1 (x / 8) = V.1 (y / 8))) = true; rw [decide_eq_false q2]; rfl) q3
