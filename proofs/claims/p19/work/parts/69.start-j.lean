section
/-! the heap behind both constructors: the kernel runs them, and looks at the table -/
noncomputable def pw_isi (v : Value) : Bool := match v with
  | .int _ => true
  | _ => false
noncomputable def pw_vkb (h : pm_H) (sp : pw_F) (v : Value) : Bool := match v with
  | .int x => Nat.beq sp.1 0 && (decide (sp.2.1 ≤ x.toInt) && decide (x.toInt ≤ sp.2.2))
  | .long x => Nat.beq sp.1 1 || (Nat.beq sp.1 4 && (decide (sp.2.1 ≤ x.toInt) && (decide (x.toInt ≤ sp.2.2) && (decide (-4611686018427387904 ≤ sp.2.1) && decide (sp.2.2 ≤ 4611686018427387904)))))
  | .ref a => (Nat.beq sp.1 2 && Nat.beq a sp.2.1.toNat) || (Nat.beq sp.1 3 && (Nat.ble 16 a && (match pm_nth h (a - 16) with
    | some (.inl q) => Nat.beq q.1 0 && (Nat.ble (pm_len q.2) 1000 && pm_all pw_isi q.2)
    | _ => false)))
  | _ => false
noncomputable def pw_veb (t : Nat) (lo hi : Int) (j : Nat) (v : Value) : Bool := match v with
  | .int x => Nat.blt t 3 && (decide (lo ≤ x.toInt) && decide (x.toInt ≤ hi))
  | .long _ => Nat.beq t 3
  | .ref a => Nat.ble 5 t && Nat.beq a (lo + hi * j).toNat
  | _ => false
noncomputable def pw_veL (t : Nat) (lo hi : Int) (l : List Value) : Nat → Bool := List.rec (fun _ => true) (fun v _ ih j => cond (pw_veb t lo hi j v) (ih (j + 1)) false) l
noncomputable def pw_vkL (h : pm_H) (l : List Value) : List pw_F → Bool := List.rec (fun sps => List.rec true (fun _ _ _ => false) sps) (fun v _ ih sps => List.rec false (fun sp r _ => cond (pw_vkb h sp v) (ih r) false) sps) l
noncomputable def pw_okb (h : pm_H) (s : pw_S) (q : pm_C) : Bool := match s, q with
  | .inl z, .inl y => Nat.beq y.1 z.1 && (Nat.beq (pm_len y.2) z.2.1 && pw_veL z.1 z.2.2.1 z.2.2.2 y.2 0)
  | .inr z, .inr y => Nat.beq y.1 z.1 && pw_vkL h y.2 z.2
  | _, _ => false
noncomputable def pw_Tb (h : pm_H) (T : List pw_S) : List pm_C → Bool := List.rec (fun _ => true) (fun s _ ih l => List.rec false (fun q r _ => cond (pw_okb h s q) (ih r) false) l) T
noncomputable def pw_Ib (h : pm_H) : Bool := pw_Tb h pw_T h && pm_scH h
theorem pw_veL_ok {t : Nat} {lo hi : Int} : ∀ (l : List Value) (i : Nat), pw_veL t lo hi l i = true → ∀ (j : Nat) (v : Value), l[j]? = some v → pw_veb t lo hi (i + j) v = true
  | [], i, _, j, v, hv => by simp at hv
  | a :: l, i, h, j, v, hv => by
    have h : cond (pw_veb t lo hi i a) (pw_veL t lo hi l (i + 1)) false = true := h
    cases hb : pw_veb t lo hi i a with
    | false => rw [hb] at h; cases h
    | true =>
      rw [hb, cond_true] at h
      cases j with
      | zero => cases hv; exact hb
      | succ j =>
        have := pw_veL_ok l (i + 1) h j v (by simpa using hv)
        rw [show i + (j + 1) = i + 1 + j by omega]
        exact this
theorem pw_vkL_ok {h : pm_H} : ∀ (l : List Value) (sps : List pw_F), pw_vkL h l sps = true → l.length = sps.length ∧ ∀ (k : Nat) (sp : pw_F) (v : Value), sps[k]? = some sp → l[k]? = some v → pw_vkb h sp v = true
  | [], [], _ => ⟨rfl, fun k sp v h1 h2 => by simp at h2⟩
  | [], _ :: _, hr => by cases hr
  | _ :: _, [], hr => by cases hr
  | a :: l, sp0 :: sps, hr => by
    have hr : cond (pw_vkb h sp0 a) (pw_vkL h l sps) false = true := hr
    cases hb : pw_vkb h sp0 a with
    | false => rw [hb] at hr; cases hr
    | true =>
      rw [hb, cond_true] at hr
      obtain ⟨e1, e2⟩ := pw_vkL_ok l sps hr
      refine ⟨by simp [e1], fun k sp v h1 h2 => ?_⟩
      cases k with
      | zero => cases h1; cases h2; exact hb
      | succ k => exact e2 k sp v (by simpa using h1) (by simpa using h2)
theorem pw_isi_ok {v : Value} (h : pw_isi v = true) : ∃ x : Int32, v = .int x := by
  cases v with
  | int x => exact ⟨x, rfl⟩
  | _ => cases h
theorem pw_int_i (x : Int32) : Value.int x = pw_i x.toInt ∧ -2147483648 ≤ x.toInt ∧ x.toInt ≤ 2147483647 := by
  refine ⟨by unfold pw_i; rw [Int32.ofInt_toInt], by have := x.le_toInt; omega, by have := x.toInt_lt; omega⟩
theorem pw_vkb_ok {h : pm_H} {sp : pw_F} {v : Value} (hb : pw_vkb h sp v = true) : pw_vk h sp v := by
  obtain ⟨k, lo, hi⟩ := sp
  cases v with
  | int x =>
    have hb : (Nat.beq k 0 && (decide (lo ≤ x.toInt) && decide (x.toInt ≤ hi))) = true := hb
    rw [Bool.and_eq_true, Bool.and_eq_true, decide_eq_true_eq, decide_eq_true_eq] at hb
    have hk := Nat.eq_of_beq_eq_true hb.1
    subst hk
    obtain ⟨e1, e2, e3⟩ := pw_int_i x
    exact ⟨x.toInt, e1, hb.2.1, hb.2.2, e2, e3⟩
  | long x =>
    have hb : (Nat.beq k 1 || (Nat.beq k 4 && (decide (lo ≤ x.toInt) && (decide (x.toInt ≤ hi) && (decide (-4611686018427387904 ≤ lo) && decide (hi ≤ 4611686018427387904)))))) = true := hb
    rw [Bool.or_eq_true] at hb
    rcases hb with hb | hb
    · have hk := Nat.eq_of_beq_eq_true hb
      subst hk
      exact ⟨x, rfl⟩
    · simp only [Bool.and_eq_true, decide_eq_true_eq] at hb
      have hk := Nat.eq_of_beq_eq_true hb.1
      subst hk
      refine ⟨x.toInt, ?_, hb.2.1, hb.2.2.1, by omega, by omega⟩
      unfold pw_l
      rw [Int64.ofInt_toInt]
  | ref a =>
    have hc : ((Nat.beq k 2 && Nat.beq a lo.toNat) || (Nat.beq k 3 && (Nat.ble 16 a && (match pm_nth h (a - 16) with
      | some (.inl q) => Nat.beq q.1 0 && (Nat.ble (pm_len q.2) 1000 && pm_all pw_isi q.2)
      | _ => false)))) = true := hb
    clear hb
    rw [Bool.or_eq_true] at hc
    rcases hc with hb | hb
    · rw [Bool.and_eq_true] at hb
      have hk := Nat.eq_of_beq_eq_true hb.1
      subst hk
      show Value.ref a = .ref lo.toNat
      rw [Nat.eq_of_beq_eq_true hb.2]
    · rw [Bool.and_eq_true, Bool.and_eq_true] at hb
      obtain ⟨hk0, h16, hm⟩ := hb
      have hk := Nat.eq_of_beq_eq_true hk0
      subst hk
      have h16 := Nat.le_of_ble_eq_true h16
      split at hm
      · rename_i q hq
        rw [pm_nth_eq] at hq
        simp only [Bool.and_eq_true] at hm
        obtain ⟨b1, b2, b3⟩ := hm
        rw [pm_len_eq] at b2
        rw [pm_all_eq, List.all_eq_true] at b3
        obtain ⟨q1, q2⟩ := q
        have b1 : q1 = 0 := Nat.eq_of_beq_eq_true b1
        subst b1
        refine ⟨a - 16, q2, congrArg Value.ref (Nat.add_sub_cancel' (n := a) (m := 16) h16).symm, hq, Nat.le_of_ble_eq_true b2, fun j v hv => pw_isi_ok (b3 v (List.mem_of_getElem? hv))⟩
      · cases hm
  | _ => cases hb
theorem pw_veb_ok {t : Nat} {lo hi : Int} {j : Nat} {v : Value} (hb : pw_veb t lo hi j v = true) : pw_ve t lo hi j v := by
  cases v with
  | int x =>
    have hb : (Nat.blt t 3 && (decide (lo ≤ x.toInt) && decide (x.toInt ≤ hi))) = true := hb
    rw [Bool.and_eq_true, Bool.and_eq_true, decide_eq_true_eq, decide_eq_true_eq] at hb
    have ht := pm_blt hb.1
    obtain ⟨e1, e2, e3⟩ := pw_int_i x
    match t, ht with
    | 0, _ => exact ⟨x.toInt, e1, hb.2.1, hb.2.2, e2, e3⟩
    | 1, _ => exact ⟨x.toInt, e1, hb.2.1, hb.2.2, e2, e3⟩
    | 2, _ => exact ⟨x.toInt, e1, hb.2.1, hb.2.2, e2, e3⟩
  | long x =>
    have hb : Nat.beq t 3 = true := hb
    have ht := Nat.eq_of_beq_eq_true hb
    subst ht
    exact ⟨x, rfl⟩
  | ref a =>
    have hb : (Nat.ble 5 t && Nat.beq a (lo + hi * j).toNat) = true := hb
    rw [Bool.and_eq_true] at hb
    have ht := Nat.le_of_ble_eq_true hb.1
    have ha := Nat.eq_of_beq_eq_true hb.2
    obtain ⟨t, rfl⟩ : ∃ u, t = u + 5 := ⟨t - 5, by omega⟩
    show Value.ref a = .ref (lo + hi * j).toNat
    rw [ha]
  | _ => cases hb
theorem pw_okb_ok {h : pm_H} {s : pw_S} {q : pm_C} (hb : pw_okb h s q = true) : pw_ok h s q := by
  match s, q, hb with
  | .inl (t, n, lo, hi), .inl (t', l), hb =>
    have hb : (Nat.beq t' t && (Nat.beq (pm_len l) n && pw_veL t lo hi l 0)) = true := hb
    rw [Bool.and_eq_true, Bool.and_eq_true, pm_len_eq] at hb
    refine ⟨Nat.eq_of_beq_eq_true hb.1, Nat.eq_of_beq_eq_true hb.2.1, fun j v hv => pw_veb_ok ?_⟩
    have := pw_veL_ok l 0 hb.2.2 j v hv
    rw [Nat.zero_add] at this
    exact this
  | .inr (ci, sps), .inr (cj, fs), hb =>
    have hb : (Nat.beq cj ci && pw_vkL h fs sps) = true := hb
    rw [Bool.and_eq_true] at hb
    obtain ⟨e1, e2⟩ := pw_vkL_ok fs sps hb.2
    exact ⟨Nat.eq_of_beq_eq_true hb.1, e1, fun k sp v g1 g2 => pw_vkb_ok (e2 k sp v g1 g2)⟩
  | .inl _, .inr _, hb => cases hb
  | .inr _, .inl _, hb => cases hb
theorem pw_Tb_ok {h : pm_H} : ∀ (T : List pw_S) (l : List pm_C), pw_Tb h T l = true → ∀ (c : Nat) (s : pw_S), T[c]? = some s → ∃ q, l[c]? = some q ∧ pw_ok h s q
  | [], _, _, c, s, hs => by simp at hs
  | _ :: _, [], hb, _, _, _ => by cases hb
  | s0 :: T, q0 :: l, hb, c, s, hs => by
    have hb : cond (pw_okb h s0 q0) (pw_Tb h T l) false = true := hb
    cases hz : pw_okb h s0 q0 with
    | false => rw [hz] at hb; cases hb
    | true =>
      rw [hz, cond_true] at hb
      cases c with
      | zero => cases hs; exact ⟨q0, rfl, pw_okb_ok hz⟩
      | succ c =>
        obtain ⟨q, h1, h2⟩ := pw_Tb_ok T l hb c s (by simpa using hs)
        exact ⟨q, by simpa using h1, h2⟩
theorem pw_Ib_ok {h : pm_H} (hb : pw_Ib h = true) : pw_I h := by
  have hb : (pw_Tb h pw_T h && pm_scH h) = true := hb
  rw [Bool.and_eq_true] at hb
  exact ⟨fun c s hs => pw_Tb_ok pw_T h hb.1 c s hs, hb.2⟩
/-- what is there at the start, the script's place shut -/
def pw_X0 : List (Nat × List Value) := (99, []) :: (pm_ext []).tail
theorem pw_X0_le (xs : List Int32) : pm_leX pw_X0 (pm_ext xs) := by
  refine ⟨fun a ha => ?_, rfl⟩
  cases a with
  | zero => exact absurd rfl ha
  | succ a => rfl
theorem pw_Xk0 : ∀ xs, pw_Xk (pm_ext xs) := by
  intro xs
  have key : ∀ (l : List Value) (lo hi : Int), l.all (fun v => match v with
      | .int x => decide (lo ≤ x.toInt) && decide (x.toInt ≤ hi)
      | _ => false) = true → pw_xr l lo hi := by
    intro l lo hi hl j v hv
    have := List.all_eq_true.mp hl v (List.mem_of_getElem? hv)
    cases v with
    | int x =>
      rw [Bool.and_eq_true, decide_eq_true_eq, decide_eq_true_eq] at this
      exact ⟨x.toInt, (pw_int_i x).1, this.1, this.2⟩
    | _ => cases this
  have ints : ∀ l : List Value, l.all pw_isi = true → pw_ints l := fun l hl j v hv => pw_isi_ok (List.all_eq_true.mp hl v (List.mem_of_getElem? hv))
  refine ⟨⟨_, rfl, rfl, key _ _ _ (by decide +kernel)⟩, ⟨_, rfl, rfl, key _ _ _ (by decide +kernel)⟩, ⟨_, rfl, rfl, key _ _ _ (by decide +kernel)⟩, fun p h1 h2 => ?_⟩
  match p, h1, h2 with
  | 4, _, _ => exact ⟨_, rfl, by decide, ints _ (by decide +kernel)⟩
  | 5, _, _ => exact ⟨_, rfl, by decide, ints _ (by decide +kernel)⟩
  | 6, _, _ => exact ⟨_, rfl, by decide, ints _ (by decide +kernel)⟩
  | 7, _, _ => exact ⟨_, rfl, by decide, ints _ (by decide +kernel)⟩
  | 8, _, _ => exact ⟨_, rfl, by decide, ints _ (by decide +kernel)⟩
  | 9, _, _ => exact ⟨_, rfl, by decide, ints _ (by decide +kernel)⟩
  | 10, _, _ => exact ⟨_, rfl, by decide, ints _ (by decide +kernel)⟩
  | 11, _, _ => exact ⟨_, rfl, by decide, ints _ (by decide +kernel)⟩
  | p + 12, _, h2 => omega
noncomputable def pw_tpl (ci : Nat) : List Value := match pm_nth pw_X0 (16 + ci) with
  | some q => q.2
  | none => []
end
section
/-! the Readers: what waits (printed by wip/tool/reader.py) -/
def pw_Xr (X : List (Nat × List Value)) : Prop := X[3]? = some (0, [pw_i 0, pw_i 1, pw_i 1, pw_i 2, pw_i 2, pw_i 3, pw_i 3, pw_i 4, pw_i 0, pw_i 0])
def pw_J (c c1 : Nat) (h : pm_H) (dp op : Int) : Prop := pw_Jw (fun j => pw_g h c1 j) (pw_g h c 4).toNat dp op
def pw_tr (c c1 : Nat) (h : pm_H) : Int := if pw_g h c 4 ≤ 0 then 0 else pw_rk (pw_g h c1 (pw_g h c 4 - 1).toNat)
theorem pw_tr0 {c c1 : Nat} {h : pm_H} (h0 : pw_g h c 4 ≤ 0) : pw_tr c c1 h = 0 := if_pos h0
theorem pw_tr1 {c c1 : Nat} {h : pm_H} {k : Nat} (h0 : pw_g h c 4 = (k : Int) + 1) : pw_tr c c1 h = pw_rk (pw_g h c1 k) := by
  unfold pw_tr
  rw [if_neg (by omega), show (pw_g h c 4 - 1).toNat = k by omega]
theorem pw_Jof {c c1 : Nat} {h h' : pm_H} {n : Nat} {dp op : Int} (J : pw_Jw (fun j => pw_g h c1 j) n dp op) (hw : ∀ j, pw_g h' c1 j = pw_g h c1 j) (hn : (pw_g h' c 4).toNat = n) : pw_J c c1 h' dp op := by
  unfold pw_J
  rw [hn]
  exact J.congr (fun j _ => hw j)
theorem pw_Jk {c c1 : Nat} {h : pm_H} {k : Nat} {dp op : Int} (J : pw_J c c1 h dp op) (hk : pw_g h c 4 = (k : Int) + 1) : pw_Jw (fun j => pw_g h c1 j) (k + 1) dp op := by
  have J : pw_Jw (fun j => pw_g h c1 j) (pw_g h c 4).toNat dp op := J
  rwa [show (pw_g h c 4).toNat = k + 1 by omega] at J
theorem pw_J.le {c c1 : Nat} {h : pm_H} {dp op : Int} (J : pw_J c c1 h dp op) : pw_g h c 4 ≤ 29 := by
  have h1 : (((pw_g h c 4).toNat : Nat) : Int) ≤ 29 := pw_Jw.le J
  omega
theorem pw_xaldR {X : List (Nat × List Value)} {d : Nat} {h : pm_H} {m pc pc' len na nl own rt : Nat} {C : pm_T (Instr × Nat)} {ls : pm_L} {r : List Value} {Q : pm_H → (Option Value ⊕ Unit) → Prop} {j : Int} (he : pm_ent m = some (na, nl, own, rt, C)) (hq : pm_get C pc = some (.iaload, len)) (hR : pw_Xr X) (h0 : 0 ≤ j) (h1 : j ≤ 9) (hc : pc + len = pc') (H : pw X d h m pc' ls (pw_i (pw_rk j) :: r) Q) : pw X d h m pc ls (pw_i j :: .ref 3 :: r) Q := by
  subst hc
  have hy : ([pw_i 0, pw_i 1, pw_i 1, pw_i 2, pw_i 2, pw_i 3, pw_i 3, pw_i 4, pw_i 0, pw_i 0] : List Value)[j.toNat]? = some (pw_i (pw_rk j)) := by
    have hj : j = 0 ∨ j = 1 ∨ j = 2 ∨ j = 3 ∨ j = 4 ∨ j = 5 ∨ j = 6 ∨ j = 7 ∨ j = 8 ∨ j = 9 := by omega
    rcases hj with rfl | rfl | rfl | rfl | rfl | rfl | rfl | rfl | rfl | rfl <;> rfl
  refine pw_ld he hq (st' := pw_i (pw_rk j) :: r) (pc' := pc + len) (fun ih => ?_) H
  show pm_gAld X 0 0 ih d h m own pc len ls (pw_i j :: .ref 3 :: r) = _
  have hrow : pm_row X h 3 = some (0, [pw_i 0, pw_i 1, pw_i 1, pw_i 2, pw_i 2, pw_i 3, pw_i 3, pw_i 4, pw_i 0, pw_i 0]) := by
    unfold pm_row
    rw [show Nat.blt 3 16 = true from rfl, cond_true, pm_nth_eq, hR]
    rfl
  rw [show (pw_i j : Value) = .int (Int32.ofInt j) from rfl]
  unfold pm_gAld
  dsimp only
  rw [hrow]
  show cond (Nat.beq 0 0 || Nat.beq 0 0) (cond (decide (Int32.ofInt j < 0)) none (match pm_nth [pw_i 0, pw_i 1, pw_i 1, pw_i 2, pw_i 2, pw_i 3, pw_i 3, pw_i 4, pw_i 0, pw_i 0] (Int32.ofInt j).toNatClampNeg with
        | some (.int x) => pm_fn (pc + len) fun q => ih d h m q ls (.int x :: r)
        | _ => none)) none = _
  rw [decide_eq_false (pw_neg h0 (by omega)), pw_clamp h0 (by omega), pm_nth_eq, hy]
  show pm_fn (pc + len) (fun q => ih d h m q ls (.int (Int32.ofInt (pw_rk j)) :: r)) = _
  rw [pm_fn_eq]
  rfl
theorem pw_g_eqA {h : pm_H} {c t n : Nat} {lo hi : Int} {j : Nat} {b : Int} (I : pw_I h) (hs : pw_T[c]? = some (.inl (t, n, lo, hi))) (hj : j < n) (h1 : -2147483648 ≤ b) (h2 : b ≤ 2147483647) : pw_g (pw_w h c j (pw_i b)) c j = b := by
  obtain ⟨l, e1, e2, -⟩ := pw_arr (c := c) I hs
  unfold pw_g
  rw [pw_at_w (by unfold pw_at; rw [e1]; show (l[j]?).isSome = true; rw [List.getElem?_eq_getElem (by omega)]; rfl), if_pos ⟨rfl, rfl⟩, pw_iv_i h1 h2]
set_option maxHeartbeats 4000000 in
theorem cm_71_30 {X : List (Nat × List Value)} {d : Nat} {h : pm_H} (hd : 1 ≤ d) (I : pw_I h) (li : Int) (hli1 : 0 ≤ li) (hli2 : li ≤ 3) (wd : Int) (hwd1 : (-2147483648) ≤ wd) (hwd2 : wd ≤ 2147483647) : pw X d h 71 0 [some (.ref 46), some (pw_i li), some (pw_i wd)] [] (fun h' v => pw_I h' ∧ pw_E [30, 33, 36] h h' ∧ (pw_g h' 30 1 ≤ pw_g h 30 1 + 1) ∧ (v = .inl none)) := by
  have E : pm_ent 71 = some (3, 3, 7, 4, pmc_71) := rfl
  have E0 : pw_E [30, 33, 36] h h := pw_E.rf _ _
  refine pw_ld E (pc' := 1) (st' := [.ref 46]) rfl (fun _ => rfl) ?_
  refine pw_getI2 I E (c := 30) (k := 1) (pc' := 4) rfl rfl rfl rfl rfl rfl (fun hf1a hf1b => ?_)
  refine pw_ld E (pc' := 5) (st' := [.ref 46, pw_i (pw_g h 30 1)]) rfl (fun _ => rfl) ?_
  refine pw_getR (b := 52) I E (c := 30) (k := 0) (pc' := 8) rfl rfl rfl rfl rfl rfl rfl ?_
  obtain ⟨z2l, z2h, z2n, -⟩ := pw_arr (c := 36) I rfl
  refine pw_alen E (pc' := 9) rfl (pw_rowI z2h rfl) rfl rfl ?_
  rw [z2n]
  refine pw_if2 E (pc' := 42) rfl (by decide) (by omega) (by omega) (by decide) (by decide) ?_ ?_
  · intro hc3
    change (1000 : Nat) ≤ pw_g h 30 1 at hc3
    refine pw_vret E rfl ?_
    exact ⟨I, E0, ⟨by omega, rfl⟩⟩
  · intro hc4
    change ¬ ((1000 : Nat) ≤ pw_g h 30 1) at hc4
    refine pw_ld E (pc' := 13) (st' := [.ref 46]) rfl (fun _ => rfl) ?_
    refine pw_getR (b := 52) I E (c := 30) (k := 0) (pc' := 16) rfl rfl rfl rfl rfl rfl rfl ?_
    refine pw_ld E (pc' := 17) (st' := [.ref 46, .ref 52]) rfl (fun _ => rfl) ?_
    refine pw_getI2 I E (c := 30) (k := 1) (pc' := 20) rfl rfl rfl rfl rfl rfl (fun hf5a hf5b => ?_)
    refine pw_ld E (pc' := 21) (st' := [pw_i wd, pw_i (pw_g h 30 1), .ref 52]) rfl (fun _ => rfl) ?_
    refine pw_ast0 I E (c := 36) (pc' := 22) rfl rfl rfl (by decide) rfl (by decide) (by omega) (by omega) rfl (by omega) (by omega) (by omega) (by omega) rfl ?_
    intro h6I h6E
    generalize h6w : pw_w h 36 ((pw_g h 30 1).toNat) (pw_i wd) = h6 at h6I h6E ⊢
    have h6F := E0.tr (h6E.wk (W' := [30, 33, 36]) (by first | rfl | simp))
    refine pw_ld E (pc' := 23) (st' := [.ref 46]) rfl (fun _ => rfl) ?_
    refine pw_ld E (pc' := 24) (st' := [.ref 46, .ref 46]) rfl (fun _ => rfl) ?_
    have he8 : pw_g h6 30 1 = pw_g h 30 1 := by rw [← h6w]; exact pw_g_ne (by omega)
    refine pw_getI2 h6I E (c := 30) (k := 1) (pc' := 27) rfl rfl rfl rfl rfl rfl (fun hf7a hf7b => ?_)
    refine pw_ld E (pc' := 28) (st' := [pw_i 1, pw_i (pw_g h6 30 1), .ref 46]) rfl (fun _ => rfl) ?_
    refine pw_add E (pc' := 29) rfl rfl ?_
    refine pw_putI h6I E (c := 30) (k := 1) (pc' := 32) rfl rfl rfl rfl (by omega) (by omega) (by omega) (by omega) rfl rfl ?_
    intro h9I h9E
    generalize h9w : pw_w h6 30 1 (pw_i ((pw_g h6 30 1) + 1)) = h9 at h9I h9E ⊢
    have h9F := h6F.tr (h9E.wk (W' := [30, 33, 36]) (by first | rfl | simp))
    refine pw_ld E (pc' := 33) (st' := [.ref 46]) rfl (fun _ => rfl) ?_
    refine pw_getR (b := 49) h9I E (c := 30) (k := 4) (pc' := 36) rfl rfl rfl rfl rfl rfl rfl ?_
    refine pw_ld E (pc' := 37) (st' := [pw_i li, .ref 49]) rfl (fun _ => rfl) ?_
    refine pw_ld E (pc' := 38) (st' := [.ref 46, pw_i li, .ref 49]) rfl (fun _ => rfl) ?_
    have he11 : pw_g h9 30 1 = (pw_g h6 30 1) + 1 := by rw [← h9w]; exact pw_g_eq (c := 30) (k := 1) h6I rfl rfl (by omega) (by omega)
    refine pw_getI2 h9I E (c := 30) (k := 1) (pc' := 41) rfl rfl rfl rfl rfl rfl (fun hf10a hf10b => ?_)
    refine pw_ast0 h9I E (c := 33) (pc' := 42) rfl rfl rfl (by decide) rfl (by decide) (by omega) (by omega) rfl (by omega) (by omega) (by omega) (by omega) rfl ?_
    intro h12I h12E
    generalize h12w : pw_w h9 33 (li.toNat) (pw_i (pw_g h9 30 1)) = h12 at h12I h12E ⊢
    have h12F := h9F.tr (h12E.wk (W' := [30, 33, 36]) (by first | rfl | simp))
    have he13 : pw_g h12 30 1 = pw_g h9 30 1 := by rw [← h12w]; exact pw_g_ne (by omega)
    refine pw_vret E rfl ?_
    exact ⟨h12I, h12F, ⟨by omega, rfl⟩⟩
set_option maxHeartbeats 4000000 in
theorem cm_48_26 {X : List (Nat × List Value)} {d : Nat} {h : pm_H} (hd : 1 ≤ d) (I : pw_I h) (x : Int) (hx1 : 1 ≤ x) (hx2 : x ≤ 9) {dp op : Int} (J : pw_J 26 27 h dp op) (hr : 8 ≤ x ∨ pw_tr 26 27 h < pw_rk x) (hdp : 8 ≤ x → dp ≤ 4) : pw X d h 48 0 [some (.ref 42), some (pw_i x)] [] (fun h' v => pw_I h' ∧ pw_E [26, 27] h h' ∧ (pw_J 26 27 h' (dp + if 8 ≤ x then 1 else 0) (op + if x = 9 then 1 else 0) ∧ pw_g h' 26 4 = pw_g h 26 4 + 1 ∧ (∀ k, k ≠ 4 → pw_g h' 26 k = pw_g h 26 k)) ∧ (v = .inl none)) := by
  have E : pm_ent 48 = some (2, 2, 5, 4, pmc_48) := rfl
  have E0 : pw_E [26, 27] h h := pw_E.rf _ _
  have hJ := J.le
  refine pw_ld E (pc' := 1) (st' := [.ref 42]) rfl (fun _ => rfl) ?_
  refine pw_getI2 I E (c := 26) (k := 4) (pc' := 4) rfl rfl rfl rfl rfl rfl (fun hf1a hf1b => ?_)
  refine pw_bip E (pc' := 6) rfl rfl (by decide) ?_
  refine pw_if2 E (pc' := 29) rfl (by decide) (by omega) (by omega) (by decide) (by decide) ?_ ?_
  · intro hc2
    change (40 : Int) ≤ pw_g h 26 4 at hc2
    exfalso; omega
  · intro hc3
    change ¬ ((40 : Int) ≤ pw_g h 26 4) at hc3
    refine pw_ld E (pc' := 10) (st' := [.ref 42]) rfl (fun _ => rfl) ?_
    refine pw_getR (b := 43) I E (c := 26) (k := 3) (pc' := 13) rfl rfl rfl rfl rfl rfl rfl ?_
    refine pw_ld E (pc' := 14) (st' := [.ref 42, .ref 43]) rfl (fun _ => rfl) ?_
    refine pw_getI2 I E (c := 26) (k := 4) (pc' := 17) rfl rfl rfl rfl rfl rfl (fun hf4a hf4b => ?_)
    refine pw_ld E (pc' := 18) (st' := [pw_i x, pw_i (pw_g h 26 4), .ref 43]) rfl (fun _ => rfl) ?_
    refine pw_ast0 I E (c := 27) (pc' := 19) rfl rfl rfl (by decide) rfl (by decide) (by omega) (by omega) rfl (by omega) (by omega) (by omega) (by omega) rfl ?_
    intro h5I h5E
    have h5x : pw_g (pw_w h 27 ((pw_g h 26 4).toNat) (pw_i x)) 27 ((pw_g h 26 4).toNat) = x := pw_g_eqA I rfl (by omega) (by omega) (by omega)
    generalize h5w : pw_w h 27 ((pw_g h 26 4).toNat) (pw_i x) = h5 at h5I h5E h5x ⊢
    have h5F := E0.tr (h5E.wk (W' := [26, 27]) (by first | rfl | simp))
    refine pw_ld E (pc' := 20) (st' := [.ref 42]) rfl (fun _ => rfl) ?_
    refine pw_ld E (pc' := 21) (st' := [.ref 42, .ref 42]) rfl (fun _ => rfl) ?_
    have he7 : ∀ k, pw_g h5 26 k = pw_g h 26 k := fun k => by rw [← h5w]; exact pw_g_ne (by omega)
    have he7' := he7 4
    have hw5 : ∀ j, j < (pw_g h 26 4).toNat → pw_g h5 27 j = pw_g h 27 j := fun j hj => by rw [← h5w]; exact pw_g_ne (by omega)
    refine pw_getI2 h5I E (c := 26) (k := 4) (pc' := 24) rfl rfl rfl rfl rfl rfl (fun hf6a hf6b => ?_)
    refine pw_ld E (pc' := 25) (st' := [pw_i 1, pw_i (pw_g h5 26 4), .ref 42]) rfl (fun _ => rfl) ?_
    refine pw_add E (pc' := 26) rfl rfl ?_
    refine pw_putI h5I E (c := 26) (k := 4) (pc' := 29) rfl rfl rfl rfl (by omega) (by omega) (by omega) (by omega) rfl rfl ?_
    intro h8I h8E
    generalize h8w : pw_w h5 26 4 (pw_i ((pw_g h5 26 4) + 1)) = h8 at h8I h8E ⊢
    have h8F := h5F.tr (h8E.wk (W' := [26, 27]) (by first | rfl | simp))
    have he9 : pw_g h8 26 4 = (pw_g h5 26 4) + 1 := by rw [← h8w]; exact pw_g_eq (c := 26) (k := 4) h5I rfl rfl (by omega) (by omega)
    have he8 : ∀ k, k ≠ 4 → pw_g h8 26 k = pw_g h 26 k := fun k hk => by rw [← he7 k, ← h8w]; exact pw_g_ne (by omega)
    have hw8 : ∀ j, pw_g h8 27 j = pw_g h5 27 j := fun j => by rw [← h8w]; exact pw_g_ne (by omega)
    refine pw_vret E rfl ?_
    refine ⟨h8I, h8F, ⟨?_, by omega, he8⟩, rfl⟩
    have JP := pw_Jw.push (w' := fun j => pw_g h8 27 j) (x := x) J (fun j hj => by show pw_g h8 27 j = pw_g h 27 j; rw [hw8, hw5 j hj]) (by show pw_g h8 27 _ = x; rw [hw8, h5x]) hx1 hx2 (by
      rcases hr with hr | hr
      · exact Or.inl hr
      · exact Or.inr fun k hk => by rw [pw_tr1 (k := k) (by omega)] at hr; exact hr) hdp
    unfold pw_J
    rw [show (pw_g h8 26 4).toNat = (pw_g h 26 4).toNat + 1 by omega]
    exact JP
set_option maxHeartbeats 4000000 in
theorem cm_53_26 {X : List (Nat × List Value)} {d : Nat} {h : pm_H} (hd : 1 ≤ d) (I : pw_I h) (hR : pw_Xr X) : pw X d h 53 0 [some (.ref 42)] [] (fun h' v => h = h' ∧ v = .inl (some (pw_i (pw_tr 26 27 h)))) := by
  have E : pm_ent 53 = some (1, 1, 5, 0, pmc_53) := rfl
  refine pw_ld E (pc' := 1) (st' := [.ref 42]) rfl (fun _ => rfl) ?_
  refine pw_getI2 I E (c := 26) (k := 4) (pc' := 4) rfl rfl rfl rfl rfl rfl (fun hf1a hf1b => ?_)
  refine pw_if E (pc' := 25) rfl (by decide) (by omega) (by omega) ?_ ?_
  · intro hc2
    change pw_g h 26 4 ≤ (0 : Int) at hc2
    refine pw_ld E (pc' := 26) (st' := [pw_i 0]) rfl (fun _ => rfl) ?_
    refine pw_iret E rfl ?_
    rw [pw_tr0 hc2]
    exact ⟨rfl, rfl⟩
  · intro hc3
    change ¬ (pw_g h 26 4 ≤ (0 : Int)) at hc3
    refine pw_ld E (pc' := 10) (st' := [.ref 3]) rfl (fun _ => rfl) ?_
    refine pw_ld E (pc' := 11) (st' := [.ref 42, .ref 3]) rfl (fun _ => rfl) ?_
    refine pw_getR (b := 43) I E (c := 26) (k := 3) (pc' := 14) rfl rfl rfl rfl rfl rfl rfl ?_
    refine pw_ld E (pc' := 15) (st' := [.ref 42, .ref 43, .ref 3]) rfl (fun _ => rfl) ?_
    refine pw_getI2 I E (c := 26) (k := 4) (pc' := 18) rfl rfl rfl rfl rfl rfl (fun hf4a hf4b => ?_)
    refine pw_ld E (pc' := 19) (st' := [pw_i 1, pw_i (pw_g h 26 4), .ref 43, .ref 3]) rfl (fun _ => rfl) ?_
    refine pw_sub E (pc' := 20) rfl rfl ?_
    refine pw_ald2 I E (c := 27) (pc' := 21) rfl rfl rfl (by decide) rfl (by decide) (by omega) (by omega) rfl (fun hf5a hf5b => ?_)
    refine pw_xaldR E (pc' := 22) rfl hR (by omega) (by omega) rfl ?_
    refine pw_goto E (pc' := 26) rfl (by decide) ?_
    refine pw_iret E rfl ?_
    refine ⟨rfl, ?_⟩
    unfold pw_tr
    rw [if_neg hc3]
set_option maxHeartbeats 4000000 in
theorem cm_52_26 {X : List (Nat × List Value)} {d : Nat} (hd : 2 ≤ d) (hR : pw_Xr X) (rk : Int) (hk1 : 1 ≤ rk) (hk2 : rk ≤ 4) {dp op : Int} : ∀ (n : Nat) {h : pm_H} (_ : pw_I h) (_ : (pw_g h 26 4).toNat = n) (_ : pw_J 26 27 h dp op), pw X d h 52 0 [some (.ref 42), some (pw_i rk), some (.ref 46)] [] (fun h' v => pw_I h' ∧ pw_E [26, 30, 33, 36] h h' ∧ (pw_J 26 27 h' dp op ∧ pw_tr 26 27 h' < rk ∧ pw_g h' 30 1 + pw_g h' 26 4 ≤ pw_g h 30 1 + pw_g h 26 4 ∧ (∀ k, k ≠ 4 → pw_g h' 26 k = pw_g h 26 k)) ∧ (v = .inl none)) := by
  intro n
  induction n using Nat.strongRecOn with
  | ind n ih =>
    intro h I hn J
    have E : pm_ent 52 = some (3, 3, 5, 4, pmc_52) := rfl
    have E0 : pw_E [26, 30, 33, 36] h h := pw_E.rf _ _
    refine pw_ld E (pc' := 1) (st' := [.ref 42]) rfl (fun _ => rfl) ?_
    refine pw_getI2 I E (c := 26) (k := 4) (pc' := 4) rfl rfl rfl rfl rfl rfl (fun hf1a hf1b => ?_)
    refine pw_if E (pc' := 48) rfl (by decide) (by omega) (by omega) ?_ ?_
    · intro hc2
      change pw_g h 26 4 ≤ (0 : Int) at hc2
      refine pw_vret E rfl ?_
      exact ⟨I, E0, ⟨J, by rw [pw_tr0 hc2]; omega, by omega, fun _ _ => rfl⟩, rfl⟩
    · intro hc3
      change ¬ (pw_g h 26 4 ≤ (0 : Int)) at hc3
      refine pw_ld E (pc' := 8) (st' := [.ref 42]) rfl (fun _ => rfl) ?_
      obtain ⟨f1l, f1h, -⟩ := pw_obj (c := 26) I rfl
      refine pw_call (m' := 53) (As := [.ref 42]) (rest := []) (ls'' := [some (.ref 42)]) (Nat.le_trans (by decide) hd) E rfl (fun _ => pw_iV rfl rfl rfl rfl (pw_cellI f1h rfl)) (rfl : pm_ent 53 = some (1, 1, 5, 0, pmc_53)) rfl rfl (cm_53_26 (pw_dp hd (by decide)) I hR) ?_
      rintro u3 v2 ⟨rfl, rfl⟩
      refine ⟨_, rfl, ?_⟩
      show pw X d h 52 11 [some (.ref 42), some (pw_i rk), some (.ref 46)] [pw_i (pw_tr 26 27 h)] _
      obtain ⟨k, hk⟩ : ∃ k : Nat, pw_g h 26 4 = (k : Int) + 1 := ⟨(pw_g h 26 4 - 1).toNat, by omega⟩
      have ht := pw_tr1 (c1 := 27) hk
      have ht2 := pw_rk_le (pw_g h 27 k)
      refine pw_ld E (pc' := 12) (st' := [pw_i rk, pw_i (pw_tr 26 27 h)]) rfl (fun _ => rfl) ?_
      refine pw_if2 E (pc' := 48) rfl (by decide) (by omega) (by omega) (by omega) (by omega) ?_ ?_
      · intro hc4
        change pw_tr 26 27 h < rk at hc4
        refine pw_vret E rfl ?_
        exact ⟨I, E0, ⟨J, hc4, by omega, fun _ _ => rfl⟩, rfl⟩
      · intro hc5
        change ¬ (pw_tr 26 27 h < rk) at hc5
        refine pw_ld E (pc' := 16) (st' := [.ref 46]) rfl (fun _ => rfl) ?_
        refine pw_ld E (pc' := 17) (st' := [.ref 42, .ref 46]) rfl (fun _ => rfl) ?_
        refine pw_getI2 I E (c := 26) (k := 8) (pc' := 20) rfl rfl rfl rfl rfl rfl (fun hf6a hf6b => ?_)
        refine pw_ld E (pc' := 21) (st' := [.ref 42, pw_i (pw_g h 26 8), .ref 46]) rfl (fun _ => rfl) ?_
        refine pw_getR (b := 43) I E (c := 26) (k := 3) (pc' := 24) rfl rfl rfl rfl rfl rfl rfl ?_
        refine pw_ld E (pc' := 25) (st' := [.ref 42, .ref 43, pw_i (pw_g h 26 8), .ref 46]) rfl (fun _ => rfl) ?_
        refine pw_getI2 I E (c := 26) (k := 4) (pc' := 28) rfl rfl rfl rfl rfl rfl (fun hf7a hf7b => ?_)
        refine pw_ld E (pc' := 29) (st' := [pw_i 1, pw_i (pw_g h 26 4), .ref 43, pw_i (pw_g h 26 8), .ref 46]) rfl (fun _ => rfl) ?_
        refine pw_sub E (pc' := 30) rfl rfl ?_
        refine pw_ald2 I E (c := 27) (pc' := 31) rfl rfl rfl (by decide) rfl (by decide) (by omega) (by omega) rfl (fun hf8a hf8b => ?_)
        refine pw_ineg E (pc' := 32) rfl rfl ?_
        obtain ⟨f9l, f9h, -⟩ := pw_obj (c := 30) I rfl
        refine pw_call (m' := 71) (As := [.ref 46, pw_i (pw_g h 26 8), pw_i (-(pw_g h 27 (pw_g h 26 4 - 1).toNat))]) (rest := []) (ls'' := [some (.ref 46), some (pw_i (pw_g h 26 8)), some (pw_i (-(pw_g h 27 (pw_g h 26 4 - 1).toNat)))]) (Nat.le_trans (by decide) hd) E rfl (fun _ => pw_iV rfl rfl rfl rfl (pw_cellI f9h rfl)) (rfl : pm_ent 71 = some (3, 3, 7, 4, pmc_71)) rfl rfl (cm_71_30 (pw_dp hd (by decide)) I _ (by omega) (by omega) _ (by omega) (by omega)) ?_
        rintro h1 v3 ⟨h1I, h1E, h1p, rfl⟩
        refine ⟨_, rfl, ?_⟩
        show pw X d h1 52 35 [some (.ref 42), some (pw_i rk), some (.ref 46)] [] _
        have h1F := E0.tr (h1E.wk (W' := [26, 30, 33, 36]) (by first | rfl | simp))
        have he1 : ∀ k, pw_g h1 26 k = pw_g h 26 k := fun k => pw_Eg (c := 26) I h1E rfl rfl k
        have hw1 : ∀ j, pw_g h1 27 j = pw_g h 27 j := fun k => pw_Eg (c := 27) I h1E rfl rfl k
        have he14 := he1 4
        refine pw_ld E (pc' := 36) (st' := [.ref 42]) rfl (fun _ => rfl) ?_
        refine pw_ld E (pc' := 37) (st' := [.ref 42, .ref 42]) rfl (fun _ => rfl) ?_
        refine pw_getI2 h1I E (c := 26) (k := 4) (pc' := 40) rfl rfl rfl rfl rfl rfl (fun hf9a hf9b => ?_)
        refine pw_ld E (pc' := 41) (st' := [pw_i 1, pw_i (pw_g h1 26 4), .ref 42]) rfl (fun _ => rfl) ?_
        refine pw_sub E (pc' := 42) rfl rfl ?_
        refine pw_putI h1I E (c := 26) (k := 4) (pc' := 45) rfl rfl rfl rfl (by omega) (by omega) (by omega) (by omega) rfl rfl ?_
        intro h2I h2E
        generalize h2w : pw_w h1 26 4 (pw_i ((pw_g h1 26 4) - 1)) = h2 at h2I h2E ⊢
        have h2F := h1F.tr (h2E.wk (W' := [26, 30, 33, 36]) (by first | rfl | simp))
        have he2 : pw_g h2 26 4 = (pw_g h1 26 4) - 1 := by rw [← h2w]; exact pw_g_eq (c := 26) (k := 4) h1I rfl rfl (by omega) (by omega)
        have he3 : ∀ k, k ≠ 4 → pw_g h2 26 k = pw_g h 26 k := fun k hk => by rw [← he1 k, ← h2w]; exact pw_g_ne (by omega)
        have hw2 : ∀ j, pw_g h2 27 j = pw_g h 27 j := fun j => by rw [← hw1 j, ← h2w]; exact pw_g_ne (by omega)
        have he4 : pw_g h2 30 1 = pw_g h1 30 1 := by rw [← h2w]; exact pw_g_ne (by omega)
        refine pw_goto E (pc' := 0) rfl (by decide) ?_
        have hJ := pw_Jk J hk
        have hlt : pw_g h 27 k < 8 := by
          by_cases h8 : 8 ≤ pw_g h 27 k
          · rw [pw_rk8 h8] at ht; omega
          · omega
        have J2 : pw_J 26 27 h2 dp op := pw_Jof (hJ.pop.1 hlt) hw2 (by omega)
        refine pw_mono (ih (pw_g h2 26 4).toNat (by omega) h2I rfl J2) ?_
        rintro h3 v4 ⟨q1, q2, ⟨q3, q4, q5, q6⟩, q7⟩
        exact ⟨q1, h2F.tr q2, ⟨q3, q4, by omega, fun k hk => by rw [q6 k hk, he3 k hk]⟩, q7⟩
set_option maxHeartbeats 4000000 in
theorem cm_49_26 {X : List (Nat × List Value)} {d : Nat} (hd : 2 ≤ d) : ∀ (n : Nat) {h : pm_H} (_ : pw_I h) (_ : (pw_g h 26 4).toNat = n) (_ : pw_J 26 27 h (pw_g h 26 5) (pw_g h 26 6)) (_ : 0 ≤ pw_g h 26 6), pw X d h 49 0 [some (.ref 42), some (.ref 46)] [] (fun h' v => pw_I h' ∧ pw_E [26, 30, 33, 36] h h' ∧ (pw_J 26 27 h' (pw_g h' 26 5) (pw_g h' 26 6) ∧ pw_g h' 30 1 + pw_g h' 26 4 ≤ pw_g h 30 1 + pw_g h 26 4 ∧ pw_g h' 26 7 = 3 ∧ pw_g h' 26 6 = pw_g h 26 6 ∧ pw_g h' 26 8 = pw_g h 26 8) ∧ (v = .inl none)) := by
  intro n
  induction n using Nat.strongRecOn with
  | ind n ih =>
    intro h I hn J ho
    have E : pm_ent 49 = some (2, 2, 5, 4, pmc_49) := rfl
    have E0 : pw_E [26, 30, 33, 36] h h := pw_E.rf _ _
    have FIN : pw X d h 49 56 [some (.ref 42), some (.ref 46)] [] (fun h' v => pw_I h' ∧ pw_E [26, 30, 33, 36] h h' ∧ (pw_J 26 27 h' (pw_g h' 26 5) (pw_g h' 26 6) ∧ pw_g h' 30 1 + pw_g h' 26 4 ≤ pw_g h 30 1 + pw_g h 26 4 ∧ pw_g h' 26 7 = 3 ∧ pw_g h' 26 6 = pw_g h 26 6 ∧ pw_g h' 26 8 = pw_g h 26 8) ∧ (v = .inl none)) := by
      refine pw_ld E (pc' := 57) (st' := [.ref 42]) rfl (fun _ => rfl) ?_
      refine pw_ld E (pc' := 58) (st' := [pw_i 3, .ref 42]) rfl (fun _ => rfl) ?_
      refine pw_putI I E (c := 26) (k := 7) (pc' := 61) rfl rfl rfl rfl (by decide) (by decide) (by decide) (by decide) rfl rfl ?_
      intro h2I h2E
      generalize h2w : pw_w h 26 7 (pw_i 3) = h2 at h2I h2E ⊢
      have h2F := E0.tr (h2E.wk (W' := [26, 30, 33, 36]) (by first | rfl | simp))
      have he2 : pw_g h2 26 7 = 3 := by rw [← h2w]; exact pw_g_eq (c := 26) (k := 7) I rfl rfl (by omega) (by omega)
      have he3 : ∀ k, k ≠ 7 → pw_g h2 26 k = pw_g h 26 k := fun k hk => by rw [← h2w]; exact pw_g_ne (by omega)
      have hw2 : ∀ j, pw_g h2 27 j = pw_g h 27 j := fun j => by rw [← h2w]; exact pw_g_ne (by omega)
      have he4 : pw_g h2 30 1 = pw_g h 30 1 := by rw [← h2w]; exact pw_g_ne (by omega)
      refine pw_vret E rfl ?_
      refine ⟨h2I, h2F, ⟨?_, ?_, he2, he3 6 (by decide), he3 8 (by decide)⟩, rfl⟩
      · rw [he3 5 (by decide), he3 6 (by decide)]
        exact pw_Jof (h := h) J hw2 (by rw [he3 4 (by decide)])
      · rw [he4, he3 4 (by decide)]
        exact Int.le_refl _
    refine pw_ld E (pc' := 1) (st' := [.ref 42]) rfl (fun _ => rfl) ?_
    refine pw_getI2 I E (c := 26) (k := 4) (pc' := 4) rfl rfl rfl rfl rfl rfl (fun hf1a hf1b => ?_)
    refine pw_if E (pc' := 56) rfl (by decide) (by omega) (by omega) ?_ ?_
    · intro _
      exact FIN
    · intro hc3
      change ¬ (pw_g h 26 4 ≤ (0 : Int)) at hc3
      obtain ⟨k, hk⟩ : ∃ k : Nat, pw_g h 26 4 = (k : Int) + 1 := ⟨(pw_g h 26 4 - 1).toNat, by omega⟩
      have hk2 : (pw_g h 26 4 - 1).toNat = k := by omega
      refine pw_ld E (pc' := 8) (st' := [.ref 42]) rfl (fun _ => rfl) ?_
      refine pw_getR (b := 43) I E (c := 26) (k := 3) (pc' := 11) rfl rfl rfl rfl rfl rfl rfl ?_
      refine pw_ld E (pc' := 12) (st' := [.ref 42, .ref 43]) rfl (fun _ => rfl) ?_
      refine pw_getI2 I E (c := 26) (k := 4) (pc' := 15) rfl rfl rfl rfl rfl rfl (fun hf7a hf7b => ?_)
      refine pw_ld E (pc' := 16) (st' := [pw_i 1, pw_i (pw_g h 26 4), .ref 43]) rfl (fun _ => rfl) ?_
      refine pw_sub E (pc' := 17) rfl rfl ?_
      refine pw_ald2 I E (c := 27) (pc' := 18) rfl rfl rfl (by decide) rfl (by decide) (by omega) (by omega) rfl (fun hf8a hf8b => ?_)
      refine pw_bip E (pc' := 20) rfl rfl (by decide) ?_
      refine pw_if2 E (pc' := 56) rfl (by decide) (by omega) (by omega) (by decide) (by decide) ?_ ?_
      · intro _
        exact FIN
      · intro hc5
        change ¬ (pw_g h 27 (pw_g h 26 4 - 1).toNat ≠ 8) at hc5
        have h8 : pw_g h 27 k = 8 := by
          rw [hk2] at hc5
          omega
        refine pw_ld E (pc' := 24) (st' := [.ref 46]) rfl (fun _ => rfl) ?_
        refine pw_ld E (pc' := 25) (st' := [.ref 42, .ref 46]) rfl (fun _ => rfl) ?_
        refine pw_getI2 I E (c := 26) (k := 8) (pc' := 28) rfl rfl rfl rfl rfl rfl (fun hf6a hf6b => ?_)
        refine pw_bip E (pc' := 30) rfl rfl (by decide) ?_
        obtain ⟨f9l, f9h, -⟩ := pw_obj (c := 30) I rfl
        refine pw_call (m' := 71) (As := [.ref 46, pw_i (pw_g h 26 8), pw_i (-8)]) (rest := []) (ls'' := [some (.ref 46), some (pw_i (pw_g h 26 8)), some (pw_i (-8))]) (Nat.le_trans (by decide) hd) E rfl (fun _ => pw_iV rfl rfl rfl rfl (pw_cellI f9h rfl)) (rfl : pm_ent 71 = some (3, 3, 7, 4, pmc_71)) rfl rfl (cm_71_30 (pw_dp hd (by decide)) I _ (by omega) (by omega) _ (by omega) (by omega)) ?_
        rintro h1 v3 ⟨h1I, h1E, h1p, rfl⟩
        refine ⟨_, rfl, ?_⟩
        show pw X d h1 49 33 [some (.ref 42), some (.ref 46)] [] _
        have h1F := E0.tr (h1E.wk (W' := [26, 30, 33, 36]) (by first | rfl | simp))
        have he1 : ∀ k, pw_g h1 26 k = pw_g h 26 k := fun k => pw_Eg (c := 26) I h1E rfl rfl k
        have hw1 : ∀ j, pw_g h1 27 j = pw_g h 27 j := fun k => pw_Eg (c := 27) I h1E rfl rfl k
        have he14 := he1 4
        refine pw_ld E (pc' := 34) (st' := [.ref 42]) rfl (fun _ => rfl) ?_
        refine pw_ld E (pc' := 35) (st' := [.ref 42, .ref 42]) rfl (fun _ => rfl) ?_
        refine pw_getI2 h1I E (c := 26) (k := 4) (pc' := 38) rfl rfl rfl rfl rfl rfl (fun hf9a hf9b => ?_)
        refine pw_ld E (pc' := 39) (st' := [pw_i 1, pw_i (pw_g h1 26 4), .ref 42]) rfl (fun _ => rfl) ?_
        refine pw_sub E (pc' := 40) rfl rfl ?_
        refine pw_putI h1I E (c := 26) (k := 4) (pc' := 43) rfl rfl rfl rfl (by omega) (by omega) (by omega) (by omega) rfl rfl ?_
        intro h2I h2E
        generalize h2w : pw_w h1 26 4 (pw_i ((pw_g h1 26 4) - 1)) = h2 at h2I h2E ⊢
        have h2F := h1F.tr (h2E.wk (W' := [26, 30, 33, 36]) (by first | rfl | simp))
        have he2 : pw_g h2 26 4 = (pw_g h1 26 4) - 1 := by rw [← h2w]; exact pw_g_eq (c := 26) (k := 4) h1I rfl rfl (by omega) (by omega)
        have he3 : ∀ k, k ≠ 4 → pw_g h2 26 k = pw_g h 26 k := fun k hk => by rw [← he1 k, ← h2w]; exact pw_g_ne (by omega)
        have hw2 : ∀ j, pw_g h2 27 j = pw_g h 27 j := fun j => by rw [← hw1 j, ← h2w]; exact pw_g_ne (by omega)
        have he4 : pw_g h2 30 1 = pw_g h1 30 1 := by rw [← h2w]; exact pw_g_ne (by omega)
        have he25 := he3 5 (by decide)
        have hJ := pw_Jk J hk
        have hJ2 := hJ.pop.2.1 h8
        have hdp : 1 ≤ pw_g h 26 5 ∧ pw_g h 26 5 ≤ 5 := by
          have z1 := hJ2.2.2.1
          have z2 := hJ.2.2.2.2
          omega
        refine pw_ld E (pc' := 44) (st' := [.ref 42]) rfl (fun _ => rfl) ?_
        refine pw_ld E (pc' := 45) (st' := [.ref 42, .ref 42]) rfl (fun _ => rfl) ?_
        refine pw_getI2 h2I E (c := 26) (k := 5) (pc' := 48) rfl rfl rfl rfl rfl rfl (fun hg9a hg9b => ?_)
        refine pw_ld E (pc' := 49) (st' := [pw_i 1, pw_i (pw_g h2 26 5), .ref 42]) rfl (fun _ => rfl) ?_
        refine pw_sub E (pc' := 50) rfl rfl ?_
        refine pw_putI h2I E (c := 26) (k := 5) (pc' := 53) rfl rfl rfl rfl (by omega) (by omega) (by omega) (by omega) rfl rfl ?_
        intro h3I h3E
        generalize h3w : pw_w h2 26 5 (pw_i ((pw_g h2 26 5) - 1)) = h3 at h3I h3E ⊢
        have h3F := h2F.tr (h3E.wk (W' := [26, 30, 33, 36]) (by first | rfl | simp))
        have hb2 : pw_g h3 26 5 = (pw_g h2 26 5) - 1 := by rw [← h3w]; exact pw_g_eq (c := 26) (k := 5) h2I rfl rfl (by omega) (by omega)
        have hb3 : ∀ k, k ≠ 5 → pw_g h3 26 k = pw_g h2 26 k := fun k hk => by rw [← h3w]; exact pw_g_ne (by omega)
        have hv2 : ∀ j, pw_g h3 27 j = pw_g h 27 j := fun j => by rw [← hw2 j, ← h3w]; exact pw_g_ne (by omega)
        have hb4 : pw_g h3 30 1 = pw_g h2 30 1 := by rw [← h3w]; exact pw_g_ne (by omega)
        have hb34 := hb3 4 (by decide)
        have hb36 := hb3 6 (by decide)
        have hb38 := hb3 8 (by decide)
        have he36 := he3 6 (by decide)
        have he38 := he3 8 (by decide)
        refine pw_goto E (pc' := 0) rfl (by decide) ?_
        have J3 : pw_J 26 27 h3 (pw_g h3 26 5) (pw_g h3 26 6) := by
          rw [hb2, he25, hb36, he36]
          exact pw_Jof hJ2 hv2 (by omega)
        refine pw_mono (ih (pw_g h3 26 4).toNat (by omega) h3I rfl J3 (by omega)) ?_
        rintro h4 v4 ⟨q1, q2, ⟨q3, q4, q5, q6, q8⟩, q7⟩
        exact ⟨q1, h3F.tr q2, ⟨q3, by omega, q5, by omega, by omega⟩, q7⟩
set_option maxHeartbeats 4000000 in
theorem cm_48_28 {X : List (Nat × List Value)} {d : Nat} {h : pm_H} (hd : 1 ≤ d) (I : pw_I h) (x : Int) (hx1 : 1 ≤ x) (hx2 : x ≤ 9) {dp op : Int} (J : pw_J 28 29 h dp op) (hr : 8 ≤ x ∨ pw_tr 28 29 h < pw_rk x) (hdp : 8 ≤ x → dp ≤ 4) : pw X d h 48 0 [some (.ref 44), some (pw_i x)] [] (fun h' v => pw_I h' ∧ pw_E [28, 29] h h' ∧ (pw_J 28 29 h' (dp + if 8 ≤ x then 1 else 0) (op + if x = 9 then 1 else 0) ∧ pw_g h' 28 4 = pw_g h 28 4 + 1 ∧ (∀ k, k ≠ 4 → pw_g h' 28 k = pw_g h 28 k)) ∧ (v = .inl none)) := by
  have E : pm_ent 48 = some (2, 2, 5, 4, pmc_48) := rfl
  have E0 : pw_E [28, 29] h h := pw_E.rf _ _
  have hJ := J.le
  refine pw_ld E (pc' := 1) (st' := [.ref 44]) rfl (fun _ => rfl) ?_
  refine pw_getI2 I E (c := 28) (k := 4) (pc' := 4) rfl rfl rfl rfl rfl rfl (fun hf1a hf1b => ?_)
  refine pw_bip E (pc' := 6) rfl rfl (by decide) ?_
  refine pw_if2 E (pc' := 29) rfl (by decide) (by omega) (by omega) (by decide) (by decide) ?_ ?_
  · intro hc2
    change (40 : Int) ≤ pw_g h 28 4 at hc2
    exfalso; omega
  · intro hc3
    change ¬ ((40 : Int) ≤ pw_g h 28 4) at hc3
    refine pw_ld E (pc' := 10) (st' := [.ref 44]) rfl (fun _ => rfl) ?_
    refine pw_getR (b := 45) I E (c := 28) (k := 3) (pc' := 13) rfl rfl rfl rfl rfl rfl rfl ?_
    refine pw_ld E (pc' := 14) (st' := [.ref 44, .ref 45]) rfl (fun _ => rfl) ?_
    refine pw_getI2 I E (c := 28) (k := 4) (pc' := 17) rfl rfl rfl rfl rfl rfl (fun hf4a hf4b => ?_)
    refine pw_ld E (pc' := 18) (st' := [pw_i x, pw_i (pw_g h 28 4), .ref 45]) rfl (fun _ => rfl) ?_
    refine pw_ast0 I E (c := 29) (pc' := 19) rfl rfl rfl (by decide) rfl (by decide) (by omega) (by omega) rfl (by omega) (by omega) (by omega) (by omega) rfl ?_
    intro h5I h5E
    have h5x : pw_g (pw_w h 29 ((pw_g h 28 4).toNat) (pw_i x)) 29 ((pw_g h 28 4).toNat) = x := pw_g_eqA I rfl (by omega) (by omega) (by omega)
    generalize h5w : pw_w h 29 ((pw_g h 28 4).toNat) (pw_i x) = h5 at h5I h5E h5x ⊢
    have h5F := E0.tr (h5E.wk (W' := [28, 29]) (by first | rfl | simp))
    refine pw_ld E (pc' := 20) (st' := [.ref 44]) rfl (fun _ => rfl) ?_
    refine pw_ld E (pc' := 21) (st' := [.ref 44, .ref 44]) rfl (fun _ => rfl) ?_
    have he7 : ∀ k, pw_g h5 28 k = pw_g h 28 k := fun k => by rw [← h5w]; exact pw_g_ne (by omega)
    have he7' := he7 4
    have hw5 : ∀ j, j < (pw_g h 28 4).toNat → pw_g h5 29 j = pw_g h 29 j := fun j hj => by rw [← h5w]; exact pw_g_ne (by omega)
    refine pw_getI2 h5I E (c := 28) (k := 4) (pc' := 24) rfl rfl rfl rfl rfl rfl (fun hf6a hf6b => ?_)
    refine pw_ld E (pc' := 25) (st' := [pw_i 1, pw_i (pw_g h5 28 4), .ref 44]) rfl (fun _ => rfl) ?_
    refine pw_add E (pc' := 26) rfl rfl ?_
    refine pw_putI h5I E (c := 28) (k := 4) (pc' := 29) rfl rfl rfl rfl (by omega) (by omega) (by omega) (by omega) rfl rfl ?_
    intro h8I h8E
    generalize h8w : pw_w h5 28 4 (pw_i ((pw_g h5 28 4) + 1)) = h8 at h8I h8E ⊢
    have h8F := h5F.tr (h8E.wk (W' := [28, 29]) (by first | rfl | simp))
    have he9 : pw_g h8 28 4 = (pw_g h5 28 4) + 1 := by rw [← h8w]; exact pw_g_eq (c := 28) (k := 4) h5I rfl rfl (by omega) (by omega)
    have he8 : ∀ k, k ≠ 4 → pw_g h8 28 k = pw_g h 28 k := fun k hk => by rw [← he7 k, ← h8w]; exact pw_g_ne (by omega)
    have hw8 : ∀ j, pw_g h8 29 j = pw_g h5 29 j := fun j => by rw [← h8w]; exact pw_g_ne (by omega)
    refine pw_vret E rfl ?_
    refine ⟨h8I, h8F, ⟨?_, by omega, he8⟩, rfl⟩
    have JP := pw_Jw.push (w' := fun j => pw_g h8 29 j) (x := x) J (fun j hj => by show pw_g h8 29 j = pw_g h 29 j; rw [hw8, hw5 j hj]) (by show pw_g h8 29 _ = x; rw [hw8, h5x]) hx1 hx2 (by
      rcases hr with hr | hr
      · exact Or.inl hr
      · exact Or.inr fun k hk => by rw [pw_tr1 (k := k) (by omega)] at hr; exact hr) hdp
    unfold pw_J
    rw [show (pw_g h8 28 4).toNat = (pw_g h 28 4).toNat + 1 by omega]
    exact JP
set_option maxHeartbeats 4000000 in
theorem cm_53_28 {X : List (Nat × List Value)} {d : Nat} {h : pm_H} (hd : 1 ≤ d) (I : pw_I h) (hR : pw_Xr X) : pw X d h 53 0 [some (.ref 44)] [] (fun h' v => h = h' ∧ v = .inl (some (pw_i (pw_tr 28 29 h)))) := by
  have E : pm_ent 53 = some (1, 1, 5, 0, pmc_53) := rfl
  refine pw_ld E (pc' := 1) (st' := [.ref 44]) rfl (fun _ => rfl) ?_
  refine pw_getI2 I E (c := 28) (k := 4) (pc' := 4) rfl rfl rfl rfl rfl rfl (fun hf1a hf1b => ?_)
  refine pw_if E (pc' := 25) rfl (by decide) (by omega) (by omega) ?_ ?_
  · intro hc2
    change pw_g h 28 4 ≤ (0 : Int) at hc2
    refine pw_ld E (pc' := 26) (st' := [pw_i 0]) rfl (fun _ => rfl) ?_
    refine pw_iret E rfl ?_
    rw [pw_tr0 hc2]
    exact ⟨rfl, rfl⟩
  · intro hc3
    change ¬ (pw_g h 28 4 ≤ (0 : Int)) at hc3
    refine pw_ld E (pc' := 10) (st' := [.ref 3]) rfl (fun _ => rfl) ?_
    refine pw_ld E (pc' := 11) (st' := [.ref 44, .ref 3]) rfl (fun _ => rfl) ?_
    refine pw_getR (b := 45) I E (c := 28) (k := 3) (pc' := 14) rfl rfl rfl rfl rfl rfl rfl ?_
    refine pw_ld E (pc' := 15) (st' := [.ref 44, .ref 45, .ref 3]) rfl (fun _ => rfl) ?_
    refine pw_getI2 I E (c := 28) (k := 4) (pc' := 18) rfl rfl rfl rfl rfl rfl (fun hf4a hf4b => ?_)
    refine pw_ld E (pc' := 19) (st' := [pw_i 1, pw_i (pw_g h 28 4), .ref 45, .ref 3]) rfl (fun _ => rfl) ?_
    refine pw_sub E (pc' := 20) rfl rfl ?_
    refine pw_ald2 I E (c := 29) (pc' := 21) rfl rfl rfl (by decide) rfl (by decide) (by omega) (by omega) rfl (fun hf5a hf5b => ?_)
    refine pw_xaldR E (pc' := 22) rfl hR (by omega) (by omega) rfl ?_
    refine pw_goto E (pc' := 26) rfl (by decide) ?_
    refine pw_iret E rfl ?_
    refine ⟨rfl, ?_⟩
    unfold pw_tr
    rw [if_neg hc3]
set_option maxHeartbeats 4000000 in
theorem cm_52_28 {X : List (Nat × List Value)} {d : Nat} (hd : 2 ≤ d) (hR : pw_Xr X) (rk : Int) (hk1 : 1 ≤ rk) (hk2 : rk ≤ 4) {dp op : Int} : ∀ (n : Nat) {h : pm_H} (_ : pw_I h) (_ : (pw_g h 28 4).toNat = n) (_ : pw_J 28 29 h dp op), pw X d h 52 0 [some (.ref 44), some (pw_i rk), some (.ref 46)] [] (fun h' v => pw_I h' ∧ pw_E [28, 30, 33, 36] h h' ∧ (pw_J 28 29 h' dp op ∧ pw_tr 28 29 h' < rk ∧ pw_g h' 30 1 + pw_g h' 28 4 ≤ pw_g h 30 1 + pw_g h 28 4 ∧ (∀ k, k ≠ 4 → pw_g h' 28 k = pw_g h 28 k)) ∧ (v = .inl none)) := by
  intro n
  induction n using Nat.strongRecOn with
  | ind n ih =>
    intro h I hn J
    have E : pm_ent 52 = some (3, 3, 5, 4, pmc_52) := rfl
    have E0 : pw_E [28, 30, 33, 36] h h := pw_E.rf _ _
    refine pw_ld E (pc' := 1) (st' := [.ref 44]) rfl (fun _ => rfl) ?_
    refine pw_getI2 I E (c := 28) (k := 4) (pc' := 4) rfl rfl rfl rfl rfl rfl (fun hf1a hf1b => ?_)
    refine pw_if E (pc' := 48) rfl (by decide) (by omega) (by omega) ?_ ?_
    · intro hc2
      change pw_g h 28 4 ≤ (0 : Int) at hc2
      refine pw_vret E rfl ?_
      exact ⟨I, E0, ⟨J, by rw [pw_tr0 hc2]; omega, by omega, fun _ _ => rfl⟩, rfl⟩
    · intro hc3
      change ¬ (pw_g h 28 4 ≤ (0 : Int)) at hc3
      refine pw_ld E (pc' := 8) (st' := [.ref 44]) rfl (fun _ => rfl) ?_
      obtain ⟨f1l, f1h, -⟩ := pw_obj (c := 28) I rfl
      refine pw_call (m' := 53) (As := [.ref 44]) (rest := []) (ls'' := [some (.ref 44)]) (Nat.le_trans (by decide) hd) E rfl (fun _ => pw_iV rfl rfl rfl rfl (pw_cellI f1h rfl)) (rfl : pm_ent 53 = some (1, 1, 5, 0, pmc_53)) rfl rfl (cm_53_28 (pw_dp hd (by decide)) I hR) ?_
      rintro u3 v2 ⟨rfl, rfl⟩
      refine ⟨_, rfl, ?_⟩
      show pw X d h 52 11 [some (.ref 44), some (pw_i rk), some (.ref 46)] [pw_i (pw_tr 28 29 h)] _
      obtain ⟨k, hk⟩ : ∃ k : Nat, pw_g h 28 4 = (k : Int) + 1 := ⟨(pw_g h 28 4 - 1).toNat, by omega⟩
      have ht := pw_tr1 (c1 := 29) hk
      have ht2 := pw_rk_le (pw_g h 29 k)
      refine pw_ld E (pc' := 12) (st' := [pw_i rk, pw_i (pw_tr 28 29 h)]) rfl (fun _ => rfl) ?_
      refine pw_if2 E (pc' := 48) rfl (by decide) (by omega) (by omega) (by omega) (by omega) ?_ ?_
      · intro hc4
        change pw_tr 28 29 h < rk at hc4
        refine pw_vret E rfl ?_
        exact ⟨I, E0, ⟨J, hc4, by omega, fun _ _ => rfl⟩, rfl⟩
      · intro hc5
        change ¬ (pw_tr 28 29 h < rk) at hc5
        refine pw_ld E (pc' := 16) (st' := [.ref 46]) rfl (fun _ => rfl) ?_
        refine pw_ld E (pc' := 17) (st' := [.ref 44, .ref 46]) rfl (fun _ => rfl) ?_
        refine pw_getI2 I E (c := 28) (k := 8) (pc' := 20) rfl rfl rfl rfl rfl rfl (fun hf6a hf6b => ?_)
        refine pw_ld E (pc' := 21) (st' := [.ref 44, pw_i (pw_g h 28 8), .ref 46]) rfl (fun _ => rfl) ?_
        refine pw_getR (b := 45) I E (c := 28) (k := 3) (pc' := 24) rfl rfl rfl rfl rfl rfl rfl ?_
        refine pw_ld E (pc' := 25) (st' := [.ref 44, .ref 45, pw_i (pw_g h 28 8), .ref 46]) rfl (fun _ => rfl) ?_
        refine pw_getI2 I E (c := 28) (k := 4) (pc' := 28) rfl rfl rfl rfl rfl rfl (fun hf7a hf7b => ?_)
        refine pw_ld E (pc' := 29) (st' := [pw_i 1, pw_i (pw_g h 28 4), .ref 45, pw_i (pw_g h 28 8), .ref 46]) rfl (fun _ => rfl) ?_
        refine pw_sub E (pc' := 30) rfl rfl ?_
        refine pw_ald2 I E (c := 29) (pc' := 31) rfl rfl rfl (by decide) rfl (by decide) (by omega) (by omega) rfl (fun hf8a hf8b => ?_)
        refine pw_ineg E (pc' := 32) rfl rfl ?_
        obtain ⟨f9l, f9h, -⟩ := pw_obj (c := 30) I rfl
        refine pw_call (m' := 71) (As := [.ref 46, pw_i (pw_g h 28 8), pw_i (-(pw_g h 29 (pw_g h 28 4 - 1).toNat))]) (rest := []) (ls'' := [some (.ref 46), some (pw_i (pw_g h 28 8)), some (pw_i (-(pw_g h 29 (pw_g h 28 4 - 1).toNat)))]) (Nat.le_trans (by decide) hd) E rfl (fun _ => pw_iV rfl rfl rfl rfl (pw_cellI f9h rfl)) (rfl : pm_ent 71 = some (3, 3, 7, 4, pmc_71)) rfl rfl (cm_71_30 (pw_dp hd (by decide)) I _ (by omega) (by omega) _ (by omega) (by omega)) ?_
        rintro h1 v3 ⟨h1I, h1E, h1p, rfl⟩
        refine ⟨_, rfl, ?_⟩
        show pw X d h1 52 35 [some (.ref 44), some (pw_i rk), some (.ref 46)] [] _
        have h1F := E0.tr (h1E.wk (W' := [28, 30, 33, 36]) (by first | rfl | simp))
        have he1 : ∀ k, pw_g h1 28 k = pw_g h 28 k := fun k => pw_Eg (c := 28) I h1E rfl rfl k
        have hw1 : ∀ j, pw_g h1 29 j = pw_g h 29 j := fun k => pw_Eg (c := 29) I h1E rfl rfl k
        have he14 := he1 4
        refine pw_ld E (pc' := 36) (st' := [.ref 44]) rfl (fun _ => rfl) ?_
        refine pw_ld E (pc' := 37) (st' := [.ref 44, .ref 44]) rfl (fun _ => rfl) ?_
        refine pw_getI2 h1I E (c := 28) (k := 4) (pc' := 40) rfl rfl rfl rfl rfl rfl (fun hf9a hf9b => ?_)
        refine pw_ld E (pc' := 41) (st' := [pw_i 1, pw_i (pw_g h1 28 4), .ref 44]) rfl (fun _ => rfl) ?_
        refine pw_sub E (pc' := 42) rfl rfl ?_
        refine pw_putI h1I E (c := 28) (k := 4) (pc' := 45) rfl rfl rfl rfl (by omega) (by omega) (by omega) (by omega) rfl rfl ?_
        intro h2I h2E
        generalize h2w : pw_w h1 28 4 (pw_i ((pw_g h1 28 4) - 1)) = h2 at h2I h2E ⊢
        have h2F := h1F.tr (h2E.wk (W' := [28, 30, 33, 36]) (by first | rfl | simp))
        have he2 : pw_g h2 28 4 = (pw_g h1 28 4) - 1 := by rw [← h2w]; exact pw_g_eq (c := 28) (k := 4) h1I rfl rfl (by omega) (by omega)
        have he3 : ∀ k, k ≠ 4 → pw_g h2 28 k = pw_g h 28 k := fun k hk => by rw [← he1 k, ← h2w]; exact pw_g_ne (by omega)
        have hw2 : ∀ j, pw_g h2 29 j = pw_g h 29 j := fun j => by rw [← hw1 j, ← h2w]; exact pw_g_ne (by omega)
        have he4 : pw_g h2 30 1 = pw_g h1 30 1 := by rw [← h2w]; exact pw_g_ne (by omega)
        refine pw_goto E (pc' := 0) rfl (by decide) ?_
        have hJ := pw_Jk J hk
        have hlt : pw_g h 29 k < 8 := by
          by_cases h8 : 8 ≤ pw_g h 29 k
          · rw [pw_rk8 h8] at ht; omega
          · omega
        have J2 : pw_J 28 29 h2 dp op := pw_Jof (hJ.pop.1 hlt) hw2 (by omega)
        refine pw_mono (ih (pw_g h2 28 4).toNat (by omega) h2I rfl J2) ?_
        rintro h3 v4 ⟨q1, q2, ⟨q3, q4, q5, q6⟩, q7⟩
        exact ⟨q1, h2F.tr q2, ⟨q3, q4, by omega, fun k hk => by rw [q6 k hk, he3 k hk]⟩, q7⟩
set_option maxHeartbeats 4000000 in
theorem cm_49_28 {X : List (Nat × List Value)} {d : Nat} (hd : 2 ≤ d) : ∀ (n : Nat) {h : pm_H} (_ : pw_I h) (_ : (pw_g h 28 4).toNat = n) (_ : pw_J 28 29 h (pw_g h 28 5) (pw_g h 28 6)) (_ : 0 ≤ pw_g h 28 6), pw X d h 49 0 [some (.ref 44), some (.ref 46)] [] (fun h' v => pw_I h' ∧ pw_E [28, 30, 33, 36] h h' ∧ (pw_J 28 29 h' (pw_g h' 28 5) (pw_g h' 28 6) ∧ pw_g h' 30 1 + pw_g h' 28 4 ≤ pw_g h 30 1 + pw_g h 28 4 ∧ pw_g h' 28 7 = 3 ∧ pw_g h' 28 6 = pw_g h 28 6 ∧ pw_g h' 28 8 = pw_g h 28 8) ∧ (v = .inl none)) := by
  intro n
  induction n using Nat.strongRecOn with
  | ind n ih =>
    intro h I hn J ho
    have E : pm_ent 49 = some (2, 2, 5, 4, pmc_49) := rfl
    have E0 : pw_E [28, 30, 33, 36] h h := pw_E.rf _ _
    have FIN : pw X d h 49 56 [some (.ref 44), some (.ref 46)] [] (fun h' v => pw_I h' ∧ pw_E [28, 30, 33, 36] h h' ∧ (pw_J 28 29 h' (pw_g h' 28 5) (pw_g h' 28 6) ∧ pw_g h' 30 1 + pw_g h' 28 4 ≤ pw_g h 30 1 + pw_g h 28 4 ∧ pw_g h' 28 7 = 3 ∧ pw_g h' 28 6 = pw_g h 28 6 ∧ pw_g h' 28 8 = pw_g h 28 8) ∧ (v = .inl none)) := by
      refine pw_ld E (pc' := 57) (st' := [.ref 44]) rfl (fun _ => rfl) ?_
      refine pw_ld E (pc' := 58) (st' := [pw_i 3, .ref 44]) rfl (fun _ => rfl) ?_
      refine pw_putI I E (c := 28) (k := 7) (pc' := 61) rfl rfl rfl rfl (by decide) (by decide) (by decide) (by decide) rfl rfl ?_
      intro h2I h2E
      generalize h2w : pw_w h 28 7 (pw_i 3) = h2 at h2I h2E ⊢
      have h2F := E0.tr (h2E.wk (W' := [28, 30, 33, 36]) (by first | rfl | simp))
      have he2 : pw_g h2 28 7 = 3 := by rw [← h2w]; exact pw_g_eq (c := 28) (k := 7) I rfl rfl (by omega) (by omega)
      have he3 : ∀ k, k ≠ 7 → pw_g h2 28 k = pw_g h 28 k := fun k hk => by rw [← h2w]; exact pw_g_ne (by omega)
      have hw2 : ∀ j, pw_g h2 29 j = pw_g h 29 j := fun j => by rw [← h2w]; exact pw_g_ne (by omega)
      have he4 : pw_g h2 30 1 = pw_g h 30 1 := by rw [← h2w]; exact pw_g_ne (by omega)
      refine pw_vret E rfl ?_
      refine ⟨h2I, h2F, ⟨?_, ?_, he2, he3 6 (by decide), he3 8 (by decide)⟩, rfl⟩
      · rw [he3 5 (by decide), he3 6 (by decide)]
        exact pw_Jof (h := h) J hw2 (by rw [he3 4 (by decide)])
      · rw [he4, he3 4 (by decide)]
        exact Int.le_refl _
    refine pw_ld E (pc' := 1) (st' := [.ref 44]) rfl (fun _ => rfl) ?_
    refine pw_getI2 I E (c := 28) (k := 4) (pc' := 4) rfl rfl rfl rfl rfl rfl (fun hf1a hf1b => ?_)
    refine pw_if E (pc' := 56) rfl (by decide) (by omega) (by omega) ?_ ?_
    · intro _
      exact FIN
    · intro hc3
      change ¬ (pw_g h 28 4 ≤ (0 : Int)) at hc3
      obtain ⟨k, hk⟩ : ∃ k : Nat, pw_g h 28 4 = (k : Int) + 1 := ⟨(pw_g h 28 4 - 1).toNat, by omega⟩
      have hk2 : (pw_g h 28 4 - 1).toNat = k := by omega
      refine pw_ld E (pc' := 8) (st' := [.ref 44]) rfl (fun _ => rfl) ?_
      refine pw_getR (b := 45) I E (c := 28) (k := 3) (pc' := 11) rfl rfl rfl rfl rfl rfl rfl ?_
      refine pw_ld E (pc' := 12) (st' := [.ref 44, .ref 45]) rfl (fun _ => rfl) ?_
      refine pw_getI2 I E (c := 28) (k := 4) (pc' := 15) rfl rfl rfl rfl rfl rfl (fun hf7a hf7b => ?_)
      refine pw_ld E (pc' := 16) (st' := [pw_i 1, pw_i (pw_g h 28 4), .ref 45]) rfl (fun _ => rfl) ?_
      refine pw_sub E (pc' := 17) rfl rfl ?_
      refine pw_ald2 I E (c := 29) (pc' := 18) rfl rfl rfl (by decide) rfl (by decide) (by omega) (by omega) rfl (fun hf8a hf8b => ?_)
      refine pw_bip E (pc' := 20) rfl rfl (by decide) ?_
      refine pw_if2 E (pc' := 56) rfl (by decide) (by omega) (by omega) (by decide) (by decide) ?_ ?_
      · intro _
        exact FIN
      · intro hc5
        change ¬ (pw_g h 29 (pw_g h 28 4 - 1).toNat ≠ 8) at hc5
        have h8 : pw_g h 29 k = 8 := by
          rw [hk2] at hc5
          omega
        refine pw_ld E (pc' := 24) (st' := [.ref 46]) rfl (fun _ => rfl) ?_
        refine pw_ld E (pc' := 25) (st' := [.ref 44, .ref 46]) rfl (fun _ => rfl) ?_
        refine pw_getI2 I E (c := 28) (k := 8) (pc' := 28) rfl rfl rfl rfl rfl rfl (fun hf6a hf6b => ?_)
        refine pw_bip E (pc' := 30) rfl rfl (by decide) ?_
        obtain ⟨f9l, f9h, -⟩ := pw_obj (c := 30) I rfl
        refine pw_call (m' := 71) (As := [.ref 46, pw_i (pw_g h 28 8), pw_i (-8)]) (rest := []) (ls'' := [some (.ref 46), some (pw_i (pw_g h 28 8)), some (pw_i (-8))]) (Nat.le_trans (by decide) hd) E rfl (fun _ => pw_iV rfl rfl rfl rfl (pw_cellI f9h rfl)) (rfl : pm_ent 71 = some (3, 3, 7, 4, pmc_71)) rfl rfl (cm_71_30 (pw_dp hd (by decide)) I _ (by omega) (by omega) _ (by omega) (by omega)) ?_
        rintro h1 v3 ⟨h1I, h1E, h1p, rfl⟩
        refine ⟨_, rfl, ?_⟩
        show pw X d h1 49 33 [some (.ref 44), some (.ref 46)] [] _
        have h1F := E0.tr (h1E.wk (W' := [28, 30, 33, 36]) (by first | rfl | simp))
        have he1 : ∀ k, pw_g h1 28 k = pw_g h 28 k := fun k => pw_Eg (c := 28) I h1E rfl rfl k
        have hw1 : ∀ j, pw_g h1 29 j = pw_g h 29 j := fun k => pw_Eg (c := 29) I h1E rfl rfl k
        have he14 := he1 4
        refine pw_ld E (pc' := 34) (st' := [.ref 44]) rfl (fun _ => rfl) ?_
        refine pw_ld E (pc' := 35) (st' := [.ref 44, .ref 44]) rfl (fun _ => rfl) ?_
        refine pw_getI2 h1I E (c := 28) (k := 4) (pc' := 38) rfl rfl rfl rfl rfl rfl (fun hf9a hf9b => ?_)
        refine pw_ld E (pc' := 39) (st' := [pw_i 1, pw_i (pw_g h1 28 4), .ref 44]) rfl (fun _ => rfl) ?_
        refine pw_sub E (pc' := 40) rfl rfl ?_
        refine pw_putI h1I E (c := 28) (k := 4) (pc' := 43) rfl rfl rfl rfl (by omega) (by omega) (by omega) (by omega) rfl rfl ?_
        intro h2I h2E
        generalize h2w : pw_w h1 28 4 (pw_i ((pw_g h1 28 4) - 1)) = h2 at h2I h2E ⊢
        have h2F := h1F.tr (h2E.wk (W' := [28, 30, 33, 36]) (by first | rfl | simp))
        have he2 : pw_g h2 28 4 = (pw_g h1 28 4) - 1 := by rw [← h2w]; exact pw_g_eq (c := 28) (k := 4) h1I rfl rfl (by omega) (by omega)
        have he3 : ∀ k, k ≠ 4 → pw_g h2 28 k = pw_g h 28 k := fun k hk => by rw [← he1 k, ← h2w]; exact pw_g_ne (by omega)
        have hw2 : ∀ j, pw_g h2 29 j = pw_g h 29 j := fun j => by rw [← hw1 j, ← h2w]; exact pw_g_ne (by omega)
        have he4 : pw_g h2 30 1 = pw_g h1 30 1 := by rw [← h2w]; exact pw_g_ne (by omega)
        have he25 := he3 5 (by decide)
        have hJ := pw_Jk J hk
        have hJ2 := hJ.pop.2.1 h8
        have hdp : 1 ≤ pw_g h 28 5 ∧ pw_g h 28 5 ≤ 5 := by
          have z1 := hJ2.2.2.1
          have z2 := hJ.2.2.2.2
          omega
        refine pw_ld E (pc' := 44) (st' := [.ref 44]) rfl (fun _ => rfl) ?_
        refine pw_ld E (pc' := 45) (st' := [.ref 44, .ref 44]) rfl (fun _ => rfl) ?_
        refine pw_getI2 h2I E (c := 28) (k := 5) (pc' := 48) rfl rfl rfl rfl rfl rfl (fun hg9a hg9b => ?_)
        refine pw_ld E (pc' := 49) (st' := [pw_i 1, pw_i (pw_g h2 28 5), .ref 44]) rfl (fun _ => rfl) ?_
        refine pw_sub E (pc' := 50) rfl rfl ?_
        refine pw_putI h2I E (c := 28) (k := 5) (pc' := 53) rfl rfl rfl rfl (by omega) (by omega) (by omega) (by omega) rfl rfl ?_
        intro h3I h3E
        generalize h3w : pw_w h2 28 5 (pw_i ((pw_g h2 28 5) - 1)) = h3 at h3I h3E ⊢
        have h3F := h2F.tr (h3E.wk (W' := [28, 30, 33, 36]) (by first | rfl | simp))
        have hb2 : pw_g h3 28 5 = (pw_g h2 28 5) - 1 := by rw [← h3w]; exact pw_g_eq (c := 28) (k := 5) h2I rfl rfl (by omega) (by omega)
        have hb3 : ∀ k, k ≠ 5 → pw_g h3 28 k = pw_g h2 28 k := fun k hk => by rw [← h3w]; exact pw_g_ne (by omega)
        have hv2 : ∀ j, pw_g h3 29 j = pw_g h 29 j := fun j => by rw [← hw2 j, ← h3w]; exact pw_g_ne (by omega)
        have hb4 : pw_g h3 30 1 = pw_g h2 30 1 := by rw [← h3w]; exact pw_g_ne (by omega)
        have hb34 := hb3 4 (by decide)
        have hb36 := hb3 6 (by decide)
        have hb38 := hb3 8 (by decide)
        have he36 := he3 6 (by decide)
        have he38 := he3 8 (by decide)
        refine pw_goto E (pc' := 0) rfl (by decide) ?_
        have J3 : pw_J 28 29 h3 (pw_g h3 28 5) (pw_g h3 28 6) := by
          rw [hb2, he25, hb36, he36]
          exact pw_Jof hJ2 hv2 (by omega)
        refine pw_mono (ih (pw_g h3 28 4).toNat (by omega) h3I rfl J3 (by omega)) ?_
        rintro h4 v4 ⟨q1, q2, ⟨q3, q4, q5, q6, q8⟩, q7⟩
        exact ⟨q1, h3F.tr q2, ⟨q3, by omega, q5, by omega, by omega⟩, q7⟩
end
section
/-! the Readers: a closing bracket, the end of a line (printed by wip/tool/reader2.py) -/
/-- what holds of a Reader inside a line: T is a bound of what is written and what waits -/
def pw_P (c c1 : Nat) (h : pm_H) (T : Int) : Prop := pw_J c c1 h (pw_g h c 5) (pw_g h c 6) ∧ 0 ≤ pw_g h c 6 ∧ pw_g h 30 1 + pw_g h c 4 ≤ T
theorem pw_Pof {c c1 : Nat} {h h' : pm_H} {T : Int} (P : pw_P c c1 h T) (h4 : pw_g h' c 4 = pw_g h c 4) (h5 : pw_g h' c 5 = pw_g h c 5) (h6 : pw_g h' c 6 = pw_g h c 6) (hw : ∀ j, pw_g h' c1 j = pw_g h c1 j) (hl : pw_g h' 30 1 = pw_g h 30 1) : pw_P c c1 h' T := by
  obtain ⟨p1, p2, p3⟩ := P
  refine ⟨?_, by omega, by omega⟩
  rw [h5, h6]
  exact pw_Jof (h := h) p1 hw (by rw [h4])
theorem pw_P.wk {c c1 : Nat} {h : pm_H} {T T' : Int} (P : pw_P c c1 h T) (ht : T ≤ T') : pw_P c c1 h T' := ⟨P.1, P.2.1, by have := P.2.2; omega⟩
theorem pw_Pb {c c1 : Nat} {h : pm_H} {T : Int} (P : pw_P c c1 h T) : 0 ≤ pw_g h c 5 ∧ pw_g h c 5 ≤ 5 ∧ pw_g h c 6 ≤ 29 := by
  obtain ⟨p1, p2, p3⟩ := P
  have p1 : pw_Jw (fun j => pw_g h c1 j) (pw_g h c 4).toNat (pw_g h c 5) (pw_g h c 6) := p1
  have a := p1.le
  have b := pw_o9_le (fun j => pw_g h c1 j) (pw_g h c 4).toNat
  obtain ⟨-, -, z1, z2, z3⟩ := p1
  omega
set_option maxHeartbeats 4000000 in
theorem cm_51_26 {X : List (Nat × List Value)} {d : Nat} {h : pm_H} (hd : 3 ≤ d) (I : pw_I h) (hR : pw_Xr X) {T : Int} (P : pw_P 26 27 h T) : pw X d h 51 0 [some (.ref 42), some (.ref 46)] [] (fun h' v => pw_I h' ∧ pw_E [26, 27, 30, 33, 36] h h' ∧ pw_P 26 27 h' T ∧ ∃ a : Int, v = .inl (some (pw_i a)) ∧ 0 ≤ a ∧ a ≤ 1) := by
  have E : pm_ent 51 = some (2, 2, 5, 0, pmc_51) := rfl
  have E0 : pw_E [26, 27, 30, 33, 36] h h := pw_E.rf _ _
  refine pw_ld E (pc' := 1) (st' := [.ref 42]) rfl (fun _ => rfl) ?_
  refine pw_getI2 I E (c := 26) (k := 6) (pc' := 4) rfl rfl rfl rfl rfl rfl (fun hf1a hf1b => ?_)
  refine pw_if E (pc' := 9) rfl (by decide) (by omega) (by omega) ?_ ?_
  · intro hc2
    refine pw_ld E (pc' := 10) (st' := [.ref 42]) rfl (fun _ => rfl) ?_
    refine pw_ld E (pc' := 11) (st' := [pw_i 1, .ref 42]) rfl (fun _ => rfl) ?_
    refine pw_ld E (pc' := 12) (st' := [.ref 46, pw_i 1, .ref 42]) rfl (fun _ => rfl) ?_
    obtain ⟨f1l, f1h, -⟩ := pw_obj (c := 26) I rfl
    refine pw_call (m' := 52) (As := [.ref 42, pw_i 1, .ref 46]) (rest := []) (ls'' := [some (.ref 42), some (pw_i 1), some (.ref 46)]) (Nat.le_trans (by decide) hd) E rfl (fun _ => pw_iV rfl rfl rfl rfl (pw_cellI f1h rfl)) (rfl : pm_ent 52 = some (3, 3, 5, 4, pmc_52)) rfl rfl (cm_52_26 (pw_dp hd (by decide)) hR 1 (by decide) (by decide) _ I rfl P.1) ?_
    rintro h1 v3 ⟨h1I, h1E, ⟨h1J, h1t, h1p, h1k⟩, rfl⟩
    refine ⟨_, rfl, ?_⟩
    show pw X d h1 51 15 [some (.ref 42), some (.ref 46)] [] _
    have h1F := E0.tr (h1E.wk (W' := [26, 27, 30, 33, 36]) (by first | rfl | simp))
    have P1 : pw_P 26 27 h1 T := ⟨by rw [h1k 5 (by decide), h1k 6 (by decide)]; exact h1J, by rw [h1k 6 (by decide)]; exact P.2.1, by have := P.2.2; omega⟩
    refine pw_ld E (pc' := 16) (st' := [.ref 42]) rfl (fun _ => rfl) ?_
    refine pw_ld E (pc' := 17) (st' := [pw_i 0, .ref 42]) rfl (fun _ => rfl) ?_
    refine pw_putI h1I E (c := 26) (k := 7) (pc' := 20) rfl rfl rfl rfl (by decide) (by decide) (by decide) (by decide) rfl rfl ?_
    intro h2I h2E
    generalize h2w : pw_w h1 26 7 (pw_i 0) = h2 at h2I h2E ⊢
    have h2F := h1F.tr (h2E.wk (W' := [26, 27, 30, 33, 36]) (by first | rfl | simp))
    have hn2 : ∀ c' k', ¬ (26 = c' ∧ 7 = k') → pw_g h2 c' k' = pw_g h1 c' k' := fun c' k' hn => by rw [← h2w]; exact pw_g_ne hn
    refine pw_ld E (pc' := 21) (st' := [pw_i 0]) rfl (fun _ => rfl) ?_
    refine pw_iret E rfl ?_
    exact ⟨h2I, h2F, pw_Pof P1 (hn2 _ _ (by decide)) (hn2 _ _ (by decide)) (hn2 _ _ (by decide)) (fun j => hn2 _ _ (by omega)) (hn2 _ _ (by decide)), ⟨_, rfl, by omega, by omega⟩⟩
  · intro hc3
    refine pw_ld E (pc' := 8) (st' := [pw_i 1]) rfl (fun _ => rfl) ?_
    refine pw_iret E rfl ?_
    exact ⟨I, E0, P, ⟨_, rfl, by omega, by omega⟩⟩
set_option maxHeartbeats 4000000 in
theorem cm_54_26 {X : List (Nat × List Value)} {d : Nat} {h : pm_H} (hd : 3 ≤ d) (I : pw_I h) (hR : pw_Xr X) {T : Int} (P : pw_P 26 27 h T) : pw X d h 54 0 [some (.ref 42), some (.ref 46)] [] (fun h' v => pw_I h' ∧ pw_E [26, 27, 30, 33, 36] h h' ∧ pw_P 26 27 h' T ∧ ∃ a : Int, v = .inl (some (pw_i a)) ∧ 0 ≤ a ∧ a ≤ 1) := by
  have E : pm_ent 54 = some (2, 2, 5, 0, pmc_54) := rfl
  have E0 : pw_E [26, 27, 30, 33, 36] h h := pw_E.rf _ _
  have hp6 := P.2.1
  refine pw_ld E (pc' := 1) (st' := [.ref 42]) rfl (fun _ => rfl) ?_
  refine pw_getI2 I E (c := 26) (k := 6) (pc' := 4) rfl rfl rfl rfl rfl rfl (fun hf1a hf1b => ?_)
  refine pw_if E (pc' := 9) rfl (by decide) (by omega) (by omega) ?_ ?_
  · intro hc2
    change pw_g h 26 6 ≠ (0 : Int) at hc2
    refine pw_ld E (pc' := 10) (st' := [.ref 42]) rfl (fun _ => rfl) ?_
    refine pw_ld E (pc' := 11) (st' := [pw_i 1, .ref 42]) rfl (fun _ => rfl) ?_
    refine pw_ld E (pc' := 12) (st' := [.ref 46, pw_i 1, .ref 42]) rfl (fun _ => rfl) ?_
    obtain ⟨f1l, f1h, -⟩ := pw_obj (c := 26) I rfl
    refine pw_call (m' := 52) (As := [.ref 42, pw_i 1, .ref 46]) (rest := []) (ls'' := [some (.ref 42), some (pw_i 1), some (.ref 46)]) (Nat.le_trans (by decide) hd) E rfl (fun _ => pw_iV rfl rfl rfl rfl (pw_cellI f1h rfl)) (rfl : pm_ent 52 = some (3, 3, 5, 4, pmc_52)) rfl rfl (cm_52_26 (pw_dp hd (by decide)) hR 1 (by decide) (by decide) _ I rfl P.1) ?_
    rintro h1 v3 ⟨h1I, h1E, ⟨h1J, h1t, h1p, h1k⟩, rfl⟩
    refine ⟨_, rfl, ?_⟩
    show pw X d h1 54 15 [some (.ref 42), some (.ref 46)] [] _
    have h1F := E0.tr (h1E.wk (W' := [26, 27, 30, 33, 36]) (by first | rfl | simp))
    have k5 := h1k 5 (by decide)
    have k6 := h1k 6 (by decide)
    have P1 : pw_P 26 27 h1 T := ⟨by rw [k5, k6]; exact h1J, by rw [k6]; exact P.2.1, by have := P.2.2; omega⟩
    obtain ⟨b1, b2, b3⟩ := pw_Pb P1
    have hpos : 0 < (pw_g h1 26 4).toNat := pw_Jw.pos P1.1 (by omega)
    obtain ⟨k, hk⟩ : ∃ k : Nat, pw_g h1 26 4 = (k : Int) + 1 := ⟨(pw_g h1 26 4 - 1).toNat, by omega⟩
    have hJk := pw_Jk P1.1 hk
    have ht := pw_tr1 (c1 := 27) hk
    have h8 : 8 ≤ pw_g h1 27 k := by
      by_cases h8 : 8 ≤ pw_g h1 27 k
      · exact h8
      · have z := pw_rk1 (hJk.1 k (by omega)).1 h8
        change 1 ≤ pw_rk (pw_g h1 27 k) at z
        omega
    have hJ2 := hJk.pop.2.2 h8
    have hP2 := P1.2.2
    refine pw_ld E (pc' := 16) (st' := [.ref 42]) rfl (fun _ => rfl) ?_
    refine pw_ld E (pc' := 17) (st' := [.ref 42, .ref 42]) rfl (fun _ => rfl) ?_
    refine pw_getI2 h1I E (c := 26) (k := 4) (pc' := 20) rfl rfl rfl rfl rfl rfl (fun hf9a hf9b => ?_)
    refine pw_ld E (pc' := 21) (st' := [pw_i 1, pw_i (pw_g h1 26 4), .ref 42]) rfl (fun _ => rfl) ?_
    refine pw_sub E (pc' := 22) rfl rfl ?_
    refine pw_putI h1I E (c := 26) (k := 4) (pc' := 25) rfl rfl rfl rfl (by omega) (by omega) (by omega) (by omega) rfl rfl ?_
    intro h2I h2E
    generalize h2w : pw_w h1 26 4 (pw_i ((pw_g h1 26 4) - 1)) = h2 at h2I h2E ⊢
    have h2F := h1F.tr (h2E.wk (W' := [26, 27, 30, 33, 36]) (by first | rfl | simp))
    have he2 : pw_g h2 26 4 = (pw_g h1 26 4) - 1 := by rw [← h2w]; exact pw_g_eq (c := 26) (k := 4) h1I rfl rfl (by omega) (by omega)
    have hn2 : ∀ c' k', ¬ (26 = c' ∧ 4 = k') → pw_g h2 c' k' = pw_g h1 c' k' := fun c' k' hn => by rw [← h2w]; exact pw_g_ne hn
    have e25 := hn2 26 5 (by decide)
    have e26 := hn2 26 6 (by decide)
    have e21 := hn2 30 1 (by decide)
    refine pw_ld E (pc' := 26) (st' := [.ref 42]) rfl (fun _ => rfl) ?_
    refine pw_ld E (pc' := 27) (st' := [.ref 42, .ref 42]) rfl (fun _ => rfl) ?_
    refine pw_getI2 h2I E (c := 26) (k := 5) (pc' := 30) rfl rfl rfl rfl rfl rfl (fun hg9a hg9b => ?_)
    refine pw_ld E (pc' := 31) (st' := [pw_i 1, pw_i (pw_g h2 26 5), .ref 42]) rfl (fun _ => rfl) ?_
    refine pw_sub E (pc' := 32) rfl rfl ?_
    refine pw_putI h2I E (c := 26) (k := 5) (pc' := 35) rfl rfl rfl rfl (by omega) (by omega) (by omega) (by omega) rfl rfl ?_
    intro h3I h3E
    generalize h3w : pw_w h2 26 5 (pw_i ((pw_g h2 26 5) - 1)) = h3 at h3I h3E ⊢
    have h3F := h2F.tr (h3E.wk (W' := [26, 27, 30, 33, 36]) (by first | rfl | simp))
    have he3 : pw_g h3 26 5 = (pw_g h2 26 5) - 1 := by rw [← h3w]; exact pw_g_eq (c := 26) (k := 5) h2I rfl rfl (by omega) (by omega)
    have hn3 : ∀ c' k', ¬ (26 = c' ∧ 5 = k') → pw_g h3 c' k' = pw_g h2 c' k' := fun c' k' hn => by rw [← h3w]; exact pw_g_ne hn
    have e34 := hn3 26 4 (by decide)
    have e36 := hn3 26 6 (by decide)
    have e31 := hn3 30 1 (by decide)
    refine pw_ld E (pc' := 36) (st' := [.ref 42]) rfl (fun _ => rfl) ?_
    refine pw_ld E (pc' := 37) (st' := [.ref 42, .ref 42]) rfl (fun _ => rfl) ?_
    refine pw_getI2 h3I E (c := 26) (k := 6) (pc' := 40) rfl rfl rfl rfl rfl rfl (fun hi9a hi9b => ?_)
    refine pw_ld E (pc' := 41) (st' := [pw_i 1, pw_i (pw_g h3 26 6), .ref 42]) rfl (fun _ => rfl) ?_
    refine pw_sub E (pc' := 42) rfl rfl ?_
    refine pw_putI h3I E (c := 26) (k := 6) (pc' := 45) rfl rfl rfl rfl (by omega) (by omega) (by omega) (by omega) rfl rfl ?_
    intro h4I h4E
    generalize h4w : pw_w h3 26 6 (pw_i ((pw_g h3 26 6) - 1)) = h4 at h4I h4E ⊢
    have h4F := h3F.tr (h4E.wk (W' := [26, 27, 30, 33, 36]) (by first | rfl | simp))
    have he4 : pw_g h4 26 6 = (pw_g h3 26 6) - 1 := by rw [← h4w]; exact pw_g_eq (c := 26) (k := 6) h3I rfl rfl (by omega) (by omega)
    have hn4 : ∀ c' k', ¬ (26 = c' ∧ 6 = k') → pw_g h4 c' k' = pw_g h3 c' k' := fun c' k' hn => by rw [← h4w]; exact pw_g_ne hn
    have e44 := hn4 26 4 (by decide)
    have e45 := hn4 26 5 (by decide)
    have e41 := hn4 30 1 (by decide)
    have J4 : pw_J 26 27 h4 (pw_g h4 26 5) (pw_g h4 26 6) := by
      rw [show pw_g h4 26 5 = pw_g h1 26 5 - 1 by omega, show pw_g h4 26 6 = pw_g h1 26 6 - 1 by omega]
      exact pw_Jof hJ2 (fun j => by rw [hn4 27 j (by omega), hn3 27 j (by omega), hn2 27 j (by omega)]) (by omega)
    refine pw_ld E (pc' := 46) (st' := [.ref 42]) rfl (fun _ => rfl) ?_
    refine pw_ld E (pc' := 47) (st' := [.ref 46, .ref 42]) rfl (fun _ => rfl) ?_
    obtain ⟨f2l, f2h, -⟩ := pw_obj (c := 26) h4I rfl
    refine pw_call (m' := 49) (As := [.ref 42, .ref 46]) (rest := []) (ls'' := [some (.ref 42), some (.ref 46)]) (Nat.le_trans (by decide) hd) E rfl (fun _ => pw_iV rfl rfl rfl rfl (pw_cellI f2h rfl)) (rfl : pm_ent 49 = some (2, 2, 5, 4, pmc_49)) rfl rfl (cm_49_26 (pw_dp hd (by decide)) _ h4I rfl J4 (by omega)) ?_
    rintro h5 v3 ⟨h5I, h5E, ⟨h5J, h5p, h57, h56, h58⟩, rfl⟩
    refine ⟨_, rfl, ?_⟩
    show pw X d h5 54 50 [some (.ref 42), some (.ref 46)] [] _
    have h5F := h4F.tr (h5E.wk (W' := [26, 27, 30, 33, 36]) (by first | rfl | simp))
    refine pw_ld E (pc' := 51) (st' := [pw_i 0]) rfl (fun _ => rfl) ?_
    refine pw_iret E rfl ?_
    exact ⟨h5I, h5F, ⟨h5J, by omega, by omega⟩, ⟨_, rfl, by omega, by omega⟩⟩
  · intro hc3
    refine pw_ld E (pc' := 8) (st' := [pw_i 1]) rfl (fun _ => rfl) ?_
    refine pw_iret E rfl ?_
    exact ⟨I, E0, P, ⟨_, rfl, by omega, by omega⟩⟩
set_option maxHeartbeats 4000000 in
theorem cm_51_28 {X : List (Nat × List Value)} {d : Nat} {h : pm_H} (hd : 3 ≤ d) (I : pw_I h) (hR : pw_Xr X) {T : Int} (P : pw_P 28 29 h T) : pw X d h 51 0 [some (.ref 44), some (.ref 46)] [] (fun h' v => pw_I h' ∧ pw_E [28, 29, 30, 33, 36] h h' ∧ pw_P 28 29 h' T ∧ ∃ a : Int, v = .inl (some (pw_i a)) ∧ 0 ≤ a ∧ a ≤ 1) := by
  have E : pm_ent 51 = some (2, 2, 5, 0, pmc_51) := rfl
  have E0 : pw_E [28, 29, 30, 33, 36] h h := pw_E.rf _ _
  refine pw_ld E (pc' := 1) (st' := [.ref 44]) rfl (fun _ => rfl) ?_
  refine pw_getI2 I E (c := 28) (k := 6) (pc' := 4) rfl rfl rfl rfl rfl rfl (fun hf1a hf1b => ?_)
  refine pw_if E (pc' := 9) rfl (by decide) (by omega) (by omega) ?_ ?_
  · intro hc2
    refine pw_ld E (pc' := 10) (st' := [.ref 44]) rfl (fun _ => rfl) ?_
    refine pw_ld E (pc' := 11) (st' := [pw_i 1, .ref 44]) rfl (fun _ => rfl) ?_
    refine pw_ld E (pc' := 12) (st' := [.ref 46, pw_i 1, .ref 44]) rfl (fun _ => rfl) ?_
    obtain ⟨f1l, f1h, -⟩ := pw_obj (c := 28) I rfl
    refine pw_call (m' := 52) (As := [.ref 44, pw_i 1, .ref 46]) (rest := []) (ls'' := [some (.ref 44), some (pw_i 1), some (.ref 46)]) (Nat.le_trans (by decide) hd) E rfl (fun _ => pw_iV rfl rfl rfl rfl (pw_cellI f1h rfl)) (rfl : pm_ent 52 = some (3, 3, 5, 4, pmc_52)) rfl rfl (cm_52_28 (pw_dp hd (by decide)) hR 1 (by decide) (by decide) _ I rfl P.1) ?_
    rintro h1 v3 ⟨h1I, h1E, ⟨h1J, h1t, h1p, h1k⟩, rfl⟩
    refine ⟨_, rfl, ?_⟩
    show pw X d h1 51 15 [some (.ref 44), some (.ref 46)] [] _
    have h1F := E0.tr (h1E.wk (W' := [28, 29, 30, 33, 36]) (by first | rfl | simp))
    have P1 : pw_P 28 29 h1 T := ⟨by rw [h1k 5 (by decide), h1k 6 (by decide)]; exact h1J, by rw [h1k 6 (by decide)]; exact P.2.1, by have := P.2.2; omega⟩
    refine pw_ld E (pc' := 16) (st' := [.ref 44]) rfl (fun _ => rfl) ?_
    refine pw_ld E (pc' := 17) (st' := [pw_i 0, .ref 44]) rfl (fun _ => rfl) ?_
    refine pw_putI h1I E (c := 28) (k := 7) (pc' := 20) rfl rfl rfl rfl (by decide) (by decide) (by decide) (by decide) rfl rfl ?_
    intro h2I h2E
    generalize h2w : pw_w h1 28 7 (pw_i 0) = h2 at h2I h2E ⊢
    have h2F := h1F.tr (h2E.wk (W' := [28, 29, 30, 33, 36]) (by first | rfl | simp))
    have hn2 : ∀ c' k', ¬ (28 = c' ∧ 7 = k') → pw_g h2 c' k' = pw_g h1 c' k' := fun c' k' hn => by rw [← h2w]; exact pw_g_ne hn
    refine pw_ld E (pc' := 21) (st' := [pw_i 0]) rfl (fun _ => rfl) ?_
    refine pw_iret E rfl ?_
    exact ⟨h2I, h2F, pw_Pof P1 (hn2 _ _ (by decide)) (hn2 _ _ (by decide)) (hn2 _ _ (by decide)) (fun j => hn2 _ _ (by omega)) (hn2 _ _ (by decide)), ⟨_, rfl, by omega, by omega⟩⟩
  · intro hc3
    refine pw_ld E (pc' := 8) (st' := [pw_i 1]) rfl (fun _ => rfl) ?_
    refine pw_iret E rfl ?_
    exact ⟨I, E0, P, ⟨_, rfl, by omega, by omega⟩⟩
set_option maxHeartbeats 4000000 in
theorem cm_54_28 {X : List (Nat × List Value)} {d : Nat} {h : pm_H} (hd : 3 ≤ d) (I : pw_I h) (hR : pw_Xr X) {T : Int} (P : pw_P 28 29 h T) : pw X d h 54 0 [some (.ref 44), some (.ref 46)] [] (fun h' v => pw_I h' ∧ pw_E [28, 29, 30, 33, 36] h h' ∧ pw_P 28 29 h' T ∧ ∃ a : Int, v = .inl (some (pw_i a)) ∧ 0 ≤ a ∧ a ≤ 1) := by
  have E : pm_ent 54 = some (2, 2, 5, 0, pmc_54) := rfl
  have E0 : pw_E [28, 29, 30, 33, 36] h h := pw_E.rf _ _
  have hp6 := P.2.1
  refine pw_ld E (pc' := 1) (st' := [.ref 44]) rfl (fun _ => rfl) ?_
  refine pw_getI2 I E (c := 28) (k := 6) (pc' := 4) rfl rfl rfl rfl rfl rfl (fun hf1a hf1b => ?_)
  refine pw_if E (pc' := 9) rfl (by decide) (by omega) (by omega) ?_ ?_
  · intro hc2
    change pw_g h 28 6 ≠ (0 : Int) at hc2
    refine pw_ld E (pc' := 10) (st' := [.ref 44]) rfl (fun _ => rfl) ?_
    refine pw_ld E (pc' := 11) (st' := [pw_i 1, .ref 44]) rfl (fun _ => rfl) ?_
    refine pw_ld E (pc' := 12) (st' := [.ref 46, pw_i 1, .ref 44]) rfl (fun _ => rfl) ?_
    obtain ⟨f1l, f1h, -⟩ := pw_obj (c := 28) I rfl
    refine pw_call (m' := 52) (As := [.ref 44, pw_i 1, .ref 46]) (rest := []) (ls'' := [some (.ref 44), some (pw_i 1), some (.ref 46)]) (Nat.le_trans (by decide) hd) E rfl (fun _ => pw_iV rfl rfl rfl rfl (pw_cellI f1h rfl)) (rfl : pm_ent 52 = some (3, 3, 5, 4, pmc_52)) rfl rfl (cm_52_28 (pw_dp hd (by decide)) hR 1 (by decide) (by decide) _ I rfl P.1) ?_
    rintro h1 v3 ⟨h1I, h1E, ⟨h1J, h1t, h1p, h1k⟩, rfl⟩
    refine ⟨_, rfl, ?_⟩
    show pw X d h1 54 15 [some (.ref 44), some (.ref 46)] [] _
    have h1F := E0.tr (h1E.wk (W' := [28, 29, 30, 33, 36]) (by first | rfl | simp))
    have k5 := h1k 5 (by decide)
    have k6 := h1k 6 (by decide)
    have P1 : pw_P 28 29 h1 T := ⟨by rw [k5, k6]; exact h1J, by rw [k6]; exact P.2.1, by have := P.2.2; omega⟩
    obtain ⟨b1, b2, b3⟩ := pw_Pb P1
    have hpos : 0 < (pw_g h1 28 4).toNat := pw_Jw.pos P1.1 (by omega)
    obtain ⟨k, hk⟩ : ∃ k : Nat, pw_g h1 28 4 = (k : Int) + 1 := ⟨(pw_g h1 28 4 - 1).toNat, by omega⟩
    have hJk := pw_Jk P1.1 hk
    have ht := pw_tr1 (c1 := 29) hk
    have h8 : 8 ≤ pw_g h1 29 k := by
      by_cases h8 : 8 ≤ pw_g h1 29 k
      · exact h8
      · have z := pw_rk1 (hJk.1 k (by omega)).1 h8
        change 1 ≤ pw_rk (pw_g h1 29 k) at z
        omega
    have hJ2 := hJk.pop.2.2 h8
    have hP2 := P1.2.2
    refine pw_ld E (pc' := 16) (st' := [.ref 44]) rfl (fun _ => rfl) ?_
    refine pw_ld E (pc' := 17) (st' := [.ref 44, .ref 44]) rfl (fun _ => rfl) ?_
    refine pw_getI2 h1I E (c := 28) (k := 4) (pc' := 20) rfl rfl rfl rfl rfl rfl (fun hf9a hf9b => ?_)
    refine pw_ld E (pc' := 21) (st' := [pw_i 1, pw_i (pw_g h1 28 4), .ref 44]) rfl (fun _ => rfl) ?_
    refine pw_sub E (pc' := 22) rfl rfl ?_
    refine pw_putI h1I E (c := 28) (k := 4) (pc' := 25) rfl rfl rfl rfl (by omega) (by omega) (by omega) (by omega) rfl rfl ?_
    intro h2I h2E
    generalize h2w : pw_w h1 28 4 (pw_i ((pw_g h1 28 4) - 1)) = h2 at h2I h2E ⊢
    have h2F := h1F.tr (h2E.wk (W' := [28, 29, 30, 33, 36]) (by first | rfl | simp))
    have he2 : pw_g h2 28 4 = (pw_g h1 28 4) - 1 := by rw [← h2w]; exact pw_g_eq (c := 28) (k := 4) h1I rfl rfl (by omega) (by omega)
    have hn2 : ∀ c' k', ¬ (28 = c' ∧ 4 = k') → pw_g h2 c' k' = pw_g h1 c' k' := fun c' k' hn => by rw [← h2w]; exact pw_g_ne hn
    have e25 := hn2 28 5 (by decide)
    have e26 := hn2 28 6 (by decide)
    have e21 := hn2 30 1 (by decide)
    refine pw_ld E (pc' := 26) (st' := [.ref 44]) rfl (fun _ => rfl) ?_
    refine pw_ld E (pc' := 27) (st' := [.ref 44, .ref 44]) rfl (fun _ => rfl) ?_
    refine pw_getI2 h2I E (c := 28) (k := 5) (pc' := 30) rfl rfl rfl rfl rfl rfl (fun hg9a hg9b => ?_)
    refine pw_ld E (pc' := 31) (st' := [pw_i 1, pw_i (pw_g h2 28 5), .ref 44]) rfl (fun _ => rfl) ?_
    refine pw_sub E (pc' := 32) rfl rfl ?_
    refine pw_putI h2I E (c := 28) (k := 5) (pc' := 35) rfl rfl rfl rfl (by omega) (by omega) (by omega) (by omega) rfl rfl ?_
    intro h3I h3E
    generalize h3w : pw_w h2 28 5 (pw_i ((pw_g h2 28 5) - 1)) = h3 at h3I h3E ⊢
    have h3F := h2F.tr (h3E.wk (W' := [28, 29, 30, 33, 36]) (by first | rfl | simp))
    have he3 : pw_g h3 28 5 = (pw_g h2 28 5) - 1 := by rw [← h3w]; exact pw_g_eq (c := 28) (k := 5) h2I rfl rfl (by omega) (by omega)
    have hn3 : ∀ c' k', ¬ (28 = c' ∧ 5 = k') → pw_g h3 c' k' = pw_g h2 c' k' := fun c' k' hn => by rw [← h3w]; exact pw_g_ne hn
    have e34 := hn3 28 4 (by decide)
    have e36 := hn3 28 6 (by decide)
    have e31 := hn3 30 1 (by decide)
    refine pw_ld E (pc' := 36) (st' := [.ref 44]) rfl (fun _ => rfl) ?_
    refine pw_ld E (pc' := 37) (st' := [.ref 44, .ref 44]) rfl (fun _ => rfl) ?_
    refine pw_getI2 h3I E (c := 28) (k := 6) (pc' := 40) rfl rfl rfl rfl rfl rfl (fun hi9a hi9b => ?_)
    refine pw_ld E (pc' := 41) (st' := [pw_i 1, pw_i (pw_g h3 28 6), .ref 44]) rfl (fun _ => rfl) ?_
    refine pw_sub E (pc' := 42) rfl rfl ?_
    refine pw_putI h3I E (c := 28) (k := 6) (pc' := 45) rfl rfl rfl rfl (by omega) (by omega) (by omega) (by omega) rfl rfl ?_
    intro h4I h4E
    generalize h4w : pw_w h3 28 6 (pw_i ((pw_g h3 28 6) - 1)) = h4 at h4I h4E ⊢
    have h4F := h3F.tr (h4E.wk (W' := [28, 29, 30, 33, 36]) (by first | rfl | simp))
    have he4 : pw_g h4 28 6 = (pw_g h3 28 6) - 1 := by rw [← h4w]; exact pw_g_eq (c := 28) (k := 6) h3I rfl rfl (by omega) (by omega)
    have hn4 : ∀ c' k', ¬ (28 = c' ∧ 6 = k') → pw_g h4 c' k' = pw_g h3 c' k' := fun c' k' hn => by rw [← h4w]; exact pw_g_ne hn
    have e44 := hn4 28 4 (by decide)
    have e45 := hn4 28 5 (by decide)
    have e41 := hn4 30 1 (by decide)
    have J4 : pw_J 28 29 h4 (pw_g h4 28 5) (pw_g h4 28 6) := by
      rw [show pw_g h4 28 5 = pw_g h1 28 5 - 1 by omega, show pw_g h4 28 6 = pw_g h1 28 6 - 1 by omega]
      exact pw_Jof hJ2 (fun j => by rw [hn4 29 j (by omega), hn3 29 j (by omega), hn2 29 j (by omega)]) (by omega)
    refine pw_ld E (pc' := 46) (st' := [.ref 44]) rfl (fun _ => rfl) ?_
    refine pw_ld E (pc' := 47) (st' := [.ref 46, .ref 44]) rfl (fun _ => rfl) ?_
    obtain ⟨f2l, f2h, -⟩ := pw_obj (c := 28) h4I rfl
    refine pw_call (m' := 49) (As := [.ref 44, .ref 46]) (rest := []) (ls'' := [some (.ref 44), some (.ref 46)]) (Nat.le_trans (by decide) hd) E rfl (fun _ => pw_iV rfl rfl rfl rfl (pw_cellI f2h rfl)) (rfl : pm_ent 49 = some (2, 2, 5, 4, pmc_49)) rfl rfl (cm_49_28 (pw_dp hd (by decide)) _ h4I rfl J4 (by omega)) ?_
    rintro h5 v3 ⟨h5I, h5E, ⟨h5J, h5p, h57, h56, h58⟩, rfl⟩
    refine ⟨_, rfl, ?_⟩
    show pw X d h5 54 50 [some (.ref 44), some (.ref 46)] [] _
    have h5F := h4F.tr (h5E.wk (W' := [28, 29, 30, 33, 36]) (by first | rfl | simp))
    refine pw_ld E (pc' := 51) (st' := [pw_i 0]) rfl (fun _ => rfl) ?_
    refine pw_iret E rfl ?_
    exact ⟨h5I, h5F, ⟨h5J, by omega, by omega⟩, ⟨_, rfl, by omega, by omega⟩⟩
  · intro hc3
    refine pw_ld E (pc' := 8) (st' := [pw_i 1]) rfl (fun _ => rfl) ?_
    refine pw_iret E rfl ?_
    exact ⟨I, E0, P, ⟨_, rfl, by omega, by omega⟩⟩
end
section
/-! what the tokens tell a Reader (printed by wip/tool/reader3.py) -/
set_option maxHeartbeats 4000000 in
theorem cm_107_24 {X : List (Nat × List Value)} {d : Nat} {h : pm_H} (hd : 1 ≤ d) (I : pw_I h)  : pw X d h 107 0 [some (.ref 40)] [] (fun h' v => h = h' ∧ ∃ a : Int, v = .inl (some (pw_i a)) ∧ 0 ≤ a ∧ a ≤ 4 ∧ (a = pw_g h 24 4)) := by
  have E : pm_ent 107 = some (1, 1, 9, 0, pmc_107) := rfl
  refine pw_ld E (pc' := 1) (st' := [.ref 40]) rfl (fun _ => rfl) ?_
  refine pw_getI2 I E (c := 24) (k := 4) (pc' := 4) rfl rfl rfl rfl rfl rfl (fun hf1a hf1b => ?_)
  refine pw_iret E rfl ?_
  exact ⟨rfl, ⟨_, rfl, by omega, by omega, by omega⟩⟩
set_option maxHeartbeats 4000000 in
theorem cm_109_24 {X : List (Nat × List Value)} {d : Nat} {h : pm_H} (hd : 1 ≤ d) (I : pw_I h) (ch : Int) (hch1 : 0 ≤ ch) (hch2 : ch ≤ 65535) : pw X d h 109 0 [some (.ref 40), some (pw_i ch)] [] (fun h' v => h = h' ∧ ∃ a : Int, v = .inl (some (pw_i a)) ∧ 0 ≤ a ∧ a ≤ 1 ∧ (pw_g h 24 4 = 3 ∨ a = 0)) := by
  have E : pm_ent 109 = some (2, 2, 9, 1, pmc_109) := rfl
  refine pw_ld E (pc' := 1) (st' := [.ref 40]) rfl (fun _ => rfl) ?_
  refine pw_getI2 I E (c := 24) (k := 4) (pc' := 4) rfl rfl rfl rfl rfl rfl (fun hf1a hf1b => ?_)
  refine pw_ld E (pc' := 5) (st' := [pw_i 3, pw_i (pw_g h 24 4)]) rfl (fun _ => rfl) ?_
  refine pw_if2 E (pc' := 20) rfl (by decide) (by omega) (by omega) (by decide) (by decide) ?_ ?_
  · intro hc2
    change pw_g h 24 4 ≠ (3 : Int) at hc2
    refine pw_ld E (pc' := 21) (st' := [pw_i 0]) rfl (fun _ => rfl) ?_
    refine pw_zret E rfl (by omega) ?_
    exact ⟨rfl, ⟨_, rfl, by omega, by omega, by omega⟩⟩
  · intro hc3
    change ¬ (pw_g h 24 4 ≠ (3 : Int)) at hc3
    refine pw_ld E (pc' := 9) (st' := [.ref 40]) rfl (fun _ => rfl) ?_
    refine pw_getI2 I E (c := 24) (k := 5) (pc' := 12) rfl rfl rfl rfl rfl rfl (fun hf4a hf4b => ?_)
    refine pw_ld E (pc' := 13) (st' := [pw_i ch, pw_i (pw_g h 24 5)]) rfl (fun _ => rfl) ?_
    refine pw_if2 E (pc' := 20) rfl (by decide) (by omega) (by omega) (by omega) (by omega) ?_ ?_
    · intro hc5
      change pw_g h 24 5 ≠ ch at hc5
      refine pw_ld E (pc' := 21) (st' := [pw_i 0]) rfl (fun _ => rfl) ?_
      refine pw_zret E rfl (by omega) ?_
      exact ⟨rfl, ⟨_, rfl, by omega, by omega, by omega⟩⟩
    · intro hc6
      change ¬ (pw_g h 24 5 ≠ ch) at hc6
      refine pw_ld E (pc' := 17) (st' := [pw_i 1]) rfl (fun _ => rfl) ?_
      refine pw_goto E (pc' := 21) rfl (by decide) ?_
      refine pw_zret E rfl (by omega) ?_
      exact ⟨rfl, ⟨_, rfl, by omega, by omega, by omega⟩⟩
set_option maxHeartbeats 4000000 in
theorem cm_108_24 {X : List (Nat × List Value)} {d : Nat} {h : pm_H} (hd : 1 ≤ d) (I : pw_I h) (hX : pw_Xk X) (str : Nat) (hstr1 : 4 ≤ str) (hstr2 : str < 12) : pw X d h 108 0 [some (.ref 40), some (.ref str), none, none, none, none, none] [] (fun h' v => h = h' ∧ ∃ a : Int, v = .inl (some (pw_i a)) ∧ (-1) ≤ a ∧ a ≤ 60 ∧ (pw_g h 24 4 = 1 ∨ a = -1)) := by
  have E : pm_ent 108 = some (2, 7, 9, 0, pmc_108) := rfl
  obtain ⟨strl, strs, strn, stri⟩ := pw_sxk (p := str) hX hstr1 hstr2
  refine pw_ld E (pc' := 1) (st' := [pw_i 0]) rfl (fun _ => rfl) ?_
  refine pw_istn E (pc' := 2) (ls' := [some (.ref 40), some (.ref str), some (pw_i 0), none, none, none, none]) rfl rfl rfl rfl ?_
  refine pw_ld E (pc' := 3) (st' := [.ref 40]) rfl (fun _ => rfl) ?_
  refine pw_getI2 I E (c := 24) (k := 2) (pc' := 6) rfl rfl rfl rfl rfl rfl (fun hf1a hf1b => ?_)
  refine pw_istn E (pc' := 7) (ls' := [some (.ref 40), some (.ref str), some (pw_i 0), some (pw_i (pw_g h 24 2)), none, none, none]) rfl rfl rfl rfl ?_
  refine pw_ld E (pc' := 8) (st' := [.ref 40]) rfl (fun _ => rfl) ?_
  refine pw_getI2 I E (c := 24) (k := 4) (pc' := 11) rfl rfl rfl rfl rfl rfl (fun hf2a hf2b => ?_)
  refine pw_ld E (pc' := 12) (st' := [pw_i 1, pw_i (pw_g h 24 4)]) rfl (fun _ => rfl) ?_
  refine pw_if2 E (pc' := 19) rfl (by decide) (by omega) (by omega) (by decide) (by decide) ?_ ?_
  · intro hc3
    change pw_g h 24 4 ≠ (1 : Int) at hc3
    refine pw_ld E (pc' := 20) (st' := [pw_i 0]) rfl (fun _ => rfl) ?_
    refine pw_ist E (pc' := 22) (ls' := [some (.ref 40), some (.ref str), some (pw_i 0), some (pw_i (pw_g h 24 2)), some (pw_i 0), none, none]) rfl rfl rfl rfl ?_
    refine pw_ld E (pc' := 23) (st' := [pw_i 0]) rfl (fun _ => rfl) ?_
    refine pw_ist E (pc' := 25) (ls' := [some (.ref 40), some (.ref str), some (pw_i 0), some (pw_i (pw_g h 24 2)), some (pw_i 0), some (pw_i 0), none]) rfl rfl rfl rfl ?_
    have L25 : ∀ (n25 : Nat) (k25_2 : Int) (k25_3 : Int) (k25_4 : Int) (k25_5 : Int) (k25_6 : Option Value), 0 ≤ k25_2 → k25_2 ≤ 60 → 0 ≤ k25_3 → k25_3 ≤ 1060 → 0 ≤ k25_4 → k25_4 ≤ 1 → 0 ≤ k25_5 → k25_5 ≤ 60 → k25_2 ≤ k25_5 → k25_3 ≤ 1000 + k25_5 → (pw_g h 24 4 = 1 ∨ k25_4 = 0) → (60 - k25_5).toNat = n25 → pw X d h 108 25 [some (.ref 40), some (.ref str), some (pw_i k25_2), some (pw_i k25_3), some (pw_i k25_4), some (pw_i k25_5), k25_6] [] (fun h' v => h = h' ∧ ∃ a : Int, v = .inl (some (pw_i a)) ∧ (-1) ≤ a ∧ a ≤ 60 ∧ (pw_g h 24 4 = 1 ∨ a = -1)) := by
      intro n25
      induction n25 using Nat.strongRecOn with
      | ind n25 ih25 =>
        intro k25_2 k25_3 k25_4 k25_5 k25_6 k25_2a k25_2b k25_3a k25_3b k25_4a k25_4b k25_5a k25_5b hx25_0 hx25_1 hx25_2 hm25
        refine pw_ld E (pc' := 27) (st' := [pw_i k25_5]) rfl (fun _ => rfl) ?_
        refine pw_ld E (pc' := 28) (st' := [.ref str, pw_i k25_5]) rfl (fun _ => rfl) ?_
        refine pw_slen E rfl rfl strs rfl ?_
        refine pw_if2 E (pc' := 130) rfl (by decide) (by omega) (by omega) (by omega) (by omega) ?_ ?_
        · intro hc4
          change (strl.length : Int) ≤ k25_5 at hc4
          refine pw_ld E (pc' := 131) (st' := [pw_i ((-1))]) rfl (fun _ => rfl) ?_
          refine pw_iret E rfl ?_
          exact ⟨rfl, ⟨_, rfl, by omega, by omega, by omega⟩⟩
        · intro hc5
          change ¬ ((strl.length : Int) ≤ k25_5) at hc5
          refine pw_ld E (pc' := 35) (st' := [.ref str]) rfl (fun _ => rfl) ?_
          refine pw_ld E (pc' := 37) (st' := [pw_i k25_5, .ref str]) rfl (fun _ => rfl) ?_
          refine pw_schr E rfl rfl strs stri strn (by omega) (by omega) rfl (fun x6 hx6a hx6b => ?_)
          refine pw_ist E (pc' := 42) (ls' := [some (.ref 40), some (.ref str), some (pw_i k25_2), some (pw_i k25_3), some (pw_i k25_4), some (pw_i k25_5), some (pw_i x6)]) rfl rfl rfl rfl ?_
          refine pw_ld E (pc' := 44) (st' := [pw_i x6]) rfl (fun _ => rfl) ?_
          refine pw_bip E (pc' := 46) rfl rfl (by decide) ?_
          refine pw_if2 E (pc' := 86) rfl (by decide) (by omega) (by omega) (by decide) (by decide) ?_ ?_
          · intro hc7
            change x6 = (32 : Int) at hc7
            refine pw_ld E (pc' := 88) (st' := [pw_i k25_4]) rfl (fun _ => rfl) ?_
            refine pw_if E (pc' := 101) rfl (by decide) (by omega) (by omega) ?_ ?_
            · intro hc8
              change k25_4 = (0 : Int) at hc8
              refine pw_inc E (pc' := 104) (ls' := [some (.ref 40), some (.ref str), some (pw_i (k25_2 + 1)), some (pw_i k25_3), some (pw_i k25_4), some (pw_i k25_5), some (pw_i x6)]) rfl rfl rfl rfl ?_
              refine pw_ld E (pc' := 105) (st' := [.ref 40]) rfl (fun _ => rfl) ?_
              refine pw_getI2 I E (c := 24) (k := 2) (pc' := 108) rfl rfl rfl rfl rfl rfl (fun hf9a hf9b => ?_)
              refine pw_istn E (pc' := 109) (ls' := [some (.ref 40), some (.ref str), some (pw_i (k25_2 + 1)), some (pw_i (pw_g h 24 2)), some (pw_i k25_4), some (pw_i k25_5), some (pw_i x6)]) rfl rfl rfl rfl ?_
              refine pw_ld E (pc' := 110) (st' := [.ref 40]) rfl (fun _ => rfl) ?_
              refine pw_getI2 I E (c := 24) (k := 4) (pc' := 113) rfl rfl rfl rfl rfl rfl (fun hf10a hf10b => ?_)
              refine pw_ld E (pc' := 114) (st' := [pw_i 1, pw_i (pw_g h 24 4)]) rfl (fun _ => rfl) ?_
              refine pw_if2 E (pc' := 121) rfl (by decide) (by omega) (by omega) (by decide) (by decide) ?_ ?_
              · intro hc11
                change pw_g h 24 4 ≠ (1 : Int) at hc11
                refine pw_ld E (pc' := 122) (st' := [pw_i 0]) rfl (fun _ => rfl) ?_
                refine pw_ist E (pc' := 124) (ls' := [some (.ref 40), some (.ref str), some (pw_i (k25_2 + 1)), some (pw_i (pw_g h 24 2)), some (pw_i 0), some (pw_i k25_5), some (pw_i x6)]) rfl rfl rfl rfl ?_
                refine pw_inc E (pc' := 127) (ls' := [some (.ref 40), some (.ref str), some (pw_i (k25_2 + 1)), some (pw_i (pw_g h 24 2)), some (pw_i 0), some (pw_i (k25_5 + 1)), some (pw_i x6)]) rfl rfl rfl rfl ?_
                refine pw_goto E (pc' := 25) rfl (by decide) ?_
                exact ih25 _ (by omega) (k25_2 + 1) (pw_g h 24 2) (0) (k25_5 + 1) (some (pw_i x6))  (by omega) (by omega) (by omega) (by omega) (by omega) (by omega) (by omega) (by omega) (by omega) (by omega) (by omega) rfl
              · intro hc12
                change ¬ (pw_g h 24 4 ≠ (1 : Int)) at hc12
                refine pw_ld E (pc' := 118) (st' := [pw_i 1]) rfl (fun _ => rfl) ?_
                refine pw_goto E (pc' := 122) rfl (by decide) ?_
                refine pw_ist E (pc' := 124) (ls' := [some (.ref 40), some (.ref str), some (pw_i (k25_2 + 1)), some (pw_i (pw_g h 24 2)), some (pw_i 1), some (pw_i k25_5), some (pw_i x6)]) rfl rfl rfl rfl ?_
                refine pw_inc E (pc' := 127) (ls' := [some (.ref 40), some (.ref str), some (pw_i (k25_2 + 1)), some (pw_i (pw_g h 24 2)), some (pw_i 1), some (pw_i (k25_5 + 1)), some (pw_i x6)]) rfl rfl rfl rfl ?_
                refine pw_goto E (pc' := 25) rfl (by decide) ?_
                exact ih25 _ (by omega) (k25_2 + 1) (pw_g h 24 2) (1) (k25_5 + 1) (some (pw_i x6))  (by omega) (by omega) (by omega) (by omega) (by omega) (by omega) (by omega) (by omega) (by omega) (by omega) (by omega) rfl
            · intro hc13
              change ¬ (k25_4 = (0 : Int)) at hc13
              refine pw_ld E (pc' := 92) (st' := [pw_i k25_3]) rfl (fun _ => rfl) ?_
              refine pw_ld E (pc' := 93) (st' := [.ref 40, pw_i k25_3]) rfl (fun _ => rfl) ?_
              refine pw_getI2 I E (c := 24) (k := 3) (pc' := 96) rfl rfl rfl rfl rfl rfl (fun hf14a hf14b => ?_)
              refine pw_if2 E (pc' := 101) rfl (by decide) (by omega) (by omega) (by omega) (by omega) ?_ ?_
              · intro hc15
                change k25_3 ≠ pw_g h 24 3 at hc15
                refine pw_inc E (pc' := 104) (ls' := [some (.ref 40), some (.ref str), some (pw_i (k25_2 + 1)), some (pw_i k25_3), some (pw_i k25_4), some (pw_i k25_5), some (pw_i x6)]) rfl rfl rfl rfl ?_
                refine pw_ld E (pc' := 105) (st' := [.ref 40]) rfl (fun _ => rfl) ?_
                refine pw_getI2 I E (c := 24) (k := 2) (pc' := 108) rfl rfl rfl rfl rfl rfl (fun hf16a hf16b => ?_)
                refine pw_istn E (pc' := 109) (ls' := [some (.ref 40), some (.ref str), some (pw_i (k25_2 + 1)), some (pw_i (pw_g h 24 2)), some (pw_i k25_4), some (pw_i k25_5), some (pw_i x6)]) rfl rfl rfl rfl ?_
                refine pw_ld E (pc' := 110) (st' := [.ref 40]) rfl (fun _ => rfl) ?_
                refine pw_getI2 I E (c := 24) (k := 4) (pc' := 113) rfl rfl rfl rfl rfl rfl (fun hf17a hf17b => ?_)
                refine pw_ld E (pc' := 114) (st' := [pw_i 1, pw_i (pw_g h 24 4)]) rfl (fun _ => rfl) ?_
                refine pw_if2 E (pc' := 121) rfl (by decide) (by omega) (by omega) (by decide) (by decide) ?_ ?_
                · intro hc18
                  change pw_g h 24 4 ≠ (1 : Int) at hc18
                  refine pw_ld E (pc' := 122) (st' := [pw_i 0]) rfl (fun _ => rfl) ?_
                  refine pw_ist E (pc' := 124) (ls' := [some (.ref 40), some (.ref str), some (pw_i (k25_2 + 1)), some (pw_i (pw_g h 24 2)), some (pw_i 0), some (pw_i k25_5), some (pw_i x6)]) rfl rfl rfl rfl ?_
                  refine pw_inc E (pc' := 127) (ls' := [some (.ref 40), some (.ref str), some (pw_i (k25_2 + 1)), some (pw_i (pw_g h 24 2)), some (pw_i 0), some (pw_i (k25_5 + 1)), some (pw_i x6)]) rfl rfl rfl rfl ?_
                  refine pw_goto E (pc' := 25) rfl (by decide) ?_
                  exact ih25 _ (by omega) (k25_2 + 1) (pw_g h 24 2) (0) (k25_5 + 1) (some (pw_i x6))  (by omega) (by omega) (by omega) (by omega) (by omega) (by omega) (by omega) (by omega) (by omega) (by omega) (by omega) rfl
                · intro hc19
                  change ¬ (pw_g h 24 4 ≠ (1 : Int)) at hc19
                  refine pw_ld E (pc' := 118) (st' := [pw_i 1]) rfl (fun _ => rfl) ?_
                  refine pw_goto E (pc' := 122) rfl (by decide) ?_
                  refine pw_ist E (pc' := 124) (ls' := [some (.ref 40), some (.ref str), some (pw_i (k25_2 + 1)), some (pw_i (pw_g h 24 2)), some (pw_i 1), some (pw_i k25_5), some (pw_i x6)]) rfl rfl rfl rfl ?_
                  refine pw_inc E (pc' := 127) (ls' := [some (.ref 40), some (.ref str), some (pw_i (k25_2 + 1)), some (pw_i (pw_g h 24 2)), some (pw_i 1), some (pw_i (k25_5 + 1)), some (pw_i x6)]) rfl rfl rfl rfl ?_
                  refine pw_goto E (pc' := 25) rfl (by decide) ?_
                  exact ih25 _ (by omega) (k25_2 + 1) (pw_g h 24 2) (1) (k25_5 + 1) (some (pw_i x6))  (by omega) (by omega) (by omega) (by omega) (by omega) (by omega) (by omega) (by omega) (by omega) (by omega) (by omega) rfl
              · intro hc20
                change ¬ (k25_3 ≠ pw_g h 24 3) at hc20
                refine pw_ld E (pc' := 100) (st' := [pw_i k25_2]) rfl (fun _ => rfl) ?_
                refine pw_iret E rfl ?_
                exact ⟨rfl, ⟨_, rfl, by omega, by omega, by omega⟩⟩
          · intro hc21
            change ¬ (x6 = (32 : Int)) at hc21
            refine pw_ld E (pc' := 51) (st' := [pw_i k25_4]) rfl (fun _ => rfl) ?_
            refine pw_if E (pc' := 77) rfl (by decide) (by omega) (by omega) ?_ ?_
            · intro hc22
              change k25_4 = (0 : Int) at hc22
              refine pw_ld E (pc' := 78) (st' := [pw_i 0]) rfl (fun _ => rfl) ?_
              refine pw_ist E (pc' := 80) (ls' := [some (.ref 40), some (.ref str), some (pw_i k25_2), some (pw_i k25_3), some (pw_i 0), some (pw_i k25_5), some (pw_i x6)]) rfl rfl rfl rfl ?_
              refine pw_inc E (pc' := 83) (ls' := [some (.ref 40), some (.ref str), some (pw_i k25_2), some (pw_i (k25_3 + 1)), some (pw_i 0), some (pw_i k25_5), some (pw_i x6)]) rfl rfl rfl rfl ?_
              refine pw_goto E (pc' := 124) rfl (by decide) ?_
              refine pw_inc E (pc' := 127) (ls' := [some (.ref 40), some (.ref str), some (pw_i k25_2), some (pw_i (k25_3 + 1)), some (pw_i 0), some (pw_i (k25_5 + 1)), some (pw_i x6)]) rfl rfl rfl rfl ?_
              refine pw_goto E (pc' := 25) rfl (by decide) ?_
              exact ih25 _ (by omega) (k25_2) (k25_3 + 1) (0) (k25_5 + 1) (some (pw_i x6))  (by omega) (by omega) (by omega) (by omega) (by omega) (by omega) (by omega) (by omega) (by omega) (by omega) (by omega) rfl
            · intro hc23
              change ¬ (k25_4 = (0 : Int)) at hc23
              refine pw_ld E (pc' := 55) (st' := [pw_i k25_3]) rfl (fun _ => rfl) ?_
              refine pw_ld E (pc' := 56) (st' := [.ref 40, pw_i k25_3]) rfl (fun _ => rfl) ?_
              refine pw_getI2 I E (c := 24) (k := 3) (pc' := 59) rfl rfl rfl rfl rfl rfl (fun hf24a hf24b => ?_)
              refine pw_if2 E (pc' := 77) rfl (by decide) (by omega) (by omega) (by omega) (by omega) ?_ ?_
              · intro hc25
                change pw_g h 24 3 ≤ k25_3 at hc25
                refine pw_ld E (pc' := 78) (st' := [pw_i 0]) rfl (fun _ => rfl) ?_
                refine pw_ist E (pc' := 80) (ls' := [some (.ref 40), some (.ref str), some (pw_i k25_2), some (pw_i k25_3), some (pw_i 0), some (pw_i k25_5), some (pw_i x6)]) rfl rfl rfl rfl ?_
                refine pw_inc E (pc' := 83) (ls' := [some (.ref 40), some (.ref str), some (pw_i k25_2), some (pw_i (k25_3 + 1)), some (pw_i 0), some (pw_i k25_5), some (pw_i x6)]) rfl rfl rfl rfl ?_
                refine pw_goto E (pc' := 124) rfl (by decide) ?_
                refine pw_inc E (pc' := 127) (ls' := [some (.ref 40), some (.ref str), some (pw_i k25_2), some (pw_i (k25_3 + 1)), some (pw_i 0), some (pw_i (k25_5 + 1)), some (pw_i x6)]) rfl rfl rfl rfl ?_
                refine pw_goto E (pc' := 25) rfl (by decide) ?_
                exact ih25 _ (by omega) (k25_2) (k25_3 + 1) (0) (k25_5 + 1) (some (pw_i x6))  (by omega) (by omega) (by omega) (by omega) (by omega) (by omega) (by omega) (by omega) (by omega) (by omega) (by omega) rfl
              · intro hc26
                change ¬ (pw_g h 24 3 ≤ k25_3) at hc26
                refine pw_ld E (pc' := 63) (st' := [.ref 40]) rfl (fun _ => rfl) ?_
                refine pw_getR (b := 41) I E (c := 24) (k := 0) (pc' := 66) rfl rfl rfl rfl rfl rfl rfl ?_
                refine pw_ld E (pc' := 67) (st' := [pw_i k25_3, .ref 41]) rfl (fun _ => rfl) ?_
                refine pw_ald2 I E (c := 25) (pc' := 68) rfl rfl rfl (by decide) rfl (by decide) (by omega) (by omega) rfl (fun hf27a hf27b => ?_)
                refine pw_ld E (pc' := 70) (st' := [pw_i x6, pw_i (pw_g h 25 (k25_3.toNat))]) rfl (fun _ => rfl) ?_
                refine pw_if2 E (pc' := 77) rfl (by decide) (by omega) (by omega) (by omega) (by omega) ?_ ?_
                · intro hc28
                  change pw_g h 25 (k25_3.toNat) ≠ x6 at hc28
                  refine pw_ld E (pc' := 78) (st' := [pw_i 0]) rfl (fun _ => rfl) ?_
                  refine pw_ist E (pc' := 80) (ls' := [some (.ref 40), some (.ref str), some (pw_i k25_2), some (pw_i k25_3), some (pw_i 0), some (pw_i k25_5), some (pw_i x6)]) rfl rfl rfl rfl ?_
                  refine pw_inc E (pc' := 83) (ls' := [some (.ref 40), some (.ref str), some (pw_i k25_2), some (pw_i (k25_3 + 1)), some (pw_i 0), some (pw_i k25_5), some (pw_i x6)]) rfl rfl rfl rfl ?_
                  refine pw_goto E (pc' := 124) rfl (by decide) ?_
                  refine pw_inc E (pc' := 127) (ls' := [some (.ref 40), some (.ref str), some (pw_i k25_2), some (pw_i (k25_3 + 1)), some (pw_i 0), some (pw_i (k25_5 + 1)), some (pw_i x6)]) rfl rfl rfl rfl ?_
                  refine pw_goto E (pc' := 25) rfl (by decide) ?_
                  exact ih25 _ (by omega) (k25_2) (k25_3 + 1) (0) (k25_5 + 1) (some (pw_i x6))  (by omega) (by omega) (by omega) (by omega) (by omega) (by omega) (by omega) (by omega) (by omega) (by omega) (by omega) rfl
                · intro hc29
                  change ¬ (pw_g h 25 (k25_3.toNat) ≠ x6) at hc29
                  refine pw_ld E (pc' := 74) (st' := [pw_i 1]) rfl (fun _ => rfl) ?_
                  refine pw_goto E (pc' := 78) rfl (by decide) ?_
                  refine pw_ist E (pc' := 80) (ls' := [some (.ref 40), some (.ref str), some (pw_i k25_2), some (pw_i k25_3), some (pw_i 1), some (pw_i k25_5), some (pw_i x6)]) rfl rfl rfl rfl ?_
                  refine pw_inc E (pc' := 83) (ls' := [some (.ref 40), some (.ref str), some (pw_i k25_2), some (pw_i (k25_3 + 1)), some (pw_i 1), some (pw_i k25_5), some (pw_i x6)]) rfl rfl rfl rfl ?_
                  refine pw_goto E (pc' := 124) rfl (by decide) ?_
                  refine pw_inc E (pc' := 127) (ls' := [some (.ref 40), some (.ref str), some (pw_i k25_2), some (pw_i (k25_3 + 1)), some (pw_i 1), some (pw_i (k25_5 + 1)), some (pw_i x6)]) rfl rfl rfl rfl ?_
                  refine pw_goto E (pc' := 25) rfl (by decide) ?_
                  exact ih25 _ (by omega) (k25_2) (k25_3 + 1) (1) (k25_5 + 1) (some (pw_i x6))  (by omega) (by omega) (by omega) (by omega) (by omega) (by omega) (by omega) (by omega) (by omega) (by omega) (by omega) rfl
    exact L25 _ (0) (pw_g h 24 2) (0) (0) (none)  (by omega) (by omega) (by omega) (by omega) (by omega) (by omega) (by omega) (by omega) (by omega) (by omega) (by omega) rfl
  · intro hc30
    change ¬ (pw_g h 24 4 ≠ (1 : Int)) at hc30
    refine pw_ld E (pc' := 16) (st' := [pw_i 1]) rfl (fun _ => rfl) ?_
    refine pw_goto E (pc' := 20) rfl (by decide) ?_
    refine pw_ist E (pc' := 22) (ls' := [some (.ref 40), some (.ref str), some (pw_i 0), some (pw_i (pw_g h 24 2)), some (pw_i 1), none, none]) rfl rfl rfl rfl ?_
    refine pw_ld E (pc' := 23) (st' := [pw_i 0]) rfl (fun _ => rfl) ?_
    refine pw_ist E (pc' := 25) (ls' := [some (.ref 40), some (.ref str), some (pw_i 0), some (pw_i (pw_g h 24 2)), some (pw_i 1), some (pw_i 0), none]) rfl rfl rfl rfl ?_
    have L25 : ∀ (n25 : Nat) (k25_2 : Int) (k25_3 : Int) (k25_4 : Int) (k25_5 : Int) (k25_6 : Option Value), 0 ≤ k25_2 → k25_2 ≤ 60 → 0 ≤ k25_3 → k25_3 ≤ 1060 → 0 ≤ k25_4 → k25_4 ≤ 1 → 0 ≤ k25_5 → k25_5 ≤ 60 → k25_2 ≤ k25_5 → k25_3 ≤ 1000 + k25_5 → (pw_g h 24 4 = 1 ∨ k25_4 = 0) → (60 - k25_5).toNat = n25 → pw X d h 108 25 [some (.ref 40), some (.ref str), some (pw_i k25_2), some (pw_i k25_3), some (pw_i k25_4), some (pw_i k25_5), k25_6] [] (fun h' v => h = h' ∧ ∃ a : Int, v = .inl (some (pw_i a)) ∧ (-1) ≤ a ∧ a ≤ 60 ∧ (pw_g h 24 4 = 1 ∨ a = -1)) := by
      intro n25
      induction n25 using Nat.strongRecOn with
      | ind n25 ih25 =>
        intro k25_2 k25_3 k25_4 k25_5 k25_6 k25_2a k25_2b k25_3a k25_3b k25_4a k25_4b k25_5a k25_5b hx25_0 hx25_1 hx25_2 hm25
        refine pw_ld E (pc' := 27) (st' := [pw_i k25_5]) rfl (fun _ => rfl) ?_
        refine pw_ld E (pc' := 28) (st' := [.ref str, pw_i k25_5]) rfl (fun _ => rfl) ?_
        refine pw_slen E rfl rfl strs rfl ?_
        refine pw_if2 E (pc' := 130) rfl (by decide) (by omega) (by omega) (by omega) (by omega) ?_ ?_
        · intro hc31
          change (strl.length : Int) ≤ k25_5 at hc31
          refine pw_ld E (pc' := 131) (st' := [pw_i ((-1))]) rfl (fun _ => rfl) ?_
          refine pw_iret E rfl ?_
          exact ⟨rfl, ⟨_, rfl, by omega, by omega, by omega⟩⟩
        · intro hc32
          change ¬ ((strl.length : Int) ≤ k25_5) at hc32
          refine pw_ld E (pc' := 35) (st' := [.ref str]) rfl (fun _ => rfl) ?_
          refine pw_ld E (pc' := 37) (st' := [pw_i k25_5, .ref str]) rfl (fun _ => rfl) ?_
          refine pw_schr E rfl rfl strs stri strn (by omega) (by omega) rfl (fun x33 hx33a hx33b => ?_)
          refine pw_ist E (pc' := 42) (ls' := [some (.ref 40), some (.ref str), some (pw_i k25_2), some (pw_i k25_3), some (pw_i k25_4), some (pw_i k25_5), some (pw_i x33)]) rfl rfl rfl rfl ?_
          refine pw_ld E (pc' := 44) (st' := [pw_i x33]) rfl (fun _ => rfl) ?_
          refine pw_bip E (pc' := 46) rfl rfl (by decide) ?_
          refine pw_if2 E (pc' := 86) rfl (by decide) (by omega) (by omega) (by decide) (by decide) ?_ ?_
          · intro hc34
            change x33 = (32 : Int) at hc34
            refine pw_ld E (pc' := 88) (st' := [pw_i k25_4]) rfl (fun _ => rfl) ?_
            refine pw_if E (pc' := 101) rfl (by decide) (by omega) (by omega) ?_ ?_
            · intro hc35
              change k25_4 = (0 : Int) at hc35
              refine pw_inc E (pc' := 104) (ls' := [some (.ref 40), some (.ref str), some (pw_i (k25_2 + 1)), some (pw_i k25_3), some (pw_i k25_4), some (pw_i k25_5), some (pw_i x33)]) rfl rfl rfl rfl ?_
              refine pw_ld E (pc' := 105) (st' := [.ref 40]) rfl (fun _ => rfl) ?_
              refine pw_getI2 I E (c := 24) (k := 2) (pc' := 108) rfl rfl rfl rfl rfl rfl (fun hf36a hf36b => ?_)
              refine pw_istn E (pc' := 109) (ls' := [some (.ref 40), some (.ref str), some (pw_i (k25_2 + 1)), some (pw_i (pw_g h 24 2)), some (pw_i k25_4), some (pw_i k25_5), some (pw_i x33)]) rfl rfl rfl rfl ?_
              refine pw_ld E (pc' := 110) (st' := [.ref 40]) rfl (fun _ => rfl) ?_
              refine pw_getI2 I E (c := 24) (k := 4) (pc' := 113) rfl rfl rfl rfl rfl rfl (fun hf37a hf37b => ?_)
              refine pw_ld E (pc' := 114) (st' := [pw_i 1, pw_i (pw_g h 24 4)]) rfl (fun _ => rfl) ?_
              refine pw_if2 E (pc' := 121) rfl (by decide) (by omega) (by omega) (by decide) (by decide) ?_ ?_
              · intro hc38
                change pw_g h 24 4 ≠ (1 : Int) at hc38
                exfalso; omega
              · intro hc39
                change ¬ (pw_g h 24 4 ≠ (1 : Int)) at hc39
                refine pw_ld E (pc' := 118) (st' := [pw_i 1]) rfl (fun _ => rfl) ?_
                refine pw_goto E (pc' := 122) rfl (by decide) ?_
                refine pw_ist E (pc' := 124) (ls' := [some (.ref 40), some (.ref str), some (pw_i (k25_2 + 1)), some (pw_i (pw_g h 24 2)), some (pw_i 1), some (pw_i k25_5), some (pw_i x33)]) rfl rfl rfl rfl ?_
                refine pw_inc E (pc' := 127) (ls' := [some (.ref 40), some (.ref str), some (pw_i (k25_2 + 1)), some (pw_i (pw_g h 24 2)), some (pw_i 1), some (pw_i (k25_5 + 1)), some (pw_i x33)]) rfl rfl rfl rfl ?_
                refine pw_goto E (pc' := 25) rfl (by decide) ?_
                exact ih25 _ (by omega) (k25_2 + 1) (pw_g h 24 2) (1) (k25_5 + 1) (some (pw_i x33))  (by omega) (by omega) (by omega) (by omega) (by omega) (by omega) (by omega) (by omega) (by omega) (by omega) (by omega) rfl
            · intro hc40
              change ¬ (k25_4 = (0 : Int)) at hc40
              refine pw_ld E (pc' := 92) (st' := [pw_i k25_3]) rfl (fun _ => rfl) ?_
              refine pw_ld E (pc' := 93) (st' := [.ref 40, pw_i k25_3]) rfl (fun _ => rfl) ?_
              refine pw_getI2 I E (c := 24) (k := 3) (pc' := 96) rfl rfl rfl rfl rfl rfl (fun hf41a hf41b => ?_)
              refine pw_if2 E (pc' := 101) rfl (by decide) (by omega) (by omega) (by omega) (by omega) ?_ ?_
              · intro hc42
                change k25_3 ≠ pw_g h 24 3 at hc42
                refine pw_inc E (pc' := 104) (ls' := [some (.ref 40), some (.ref str), some (pw_i (k25_2 + 1)), some (pw_i k25_3), some (pw_i k25_4), some (pw_i k25_5), some (pw_i x33)]) rfl rfl rfl rfl ?_
                refine pw_ld E (pc' := 105) (st' := [.ref 40]) rfl (fun _ => rfl) ?_
                refine pw_getI2 I E (c := 24) (k := 2) (pc' := 108) rfl rfl rfl rfl rfl rfl (fun hf43a hf43b => ?_)
                refine pw_istn E (pc' := 109) (ls' := [some (.ref 40), some (.ref str), some (pw_i (k25_2 + 1)), some (pw_i (pw_g h 24 2)), some (pw_i k25_4), some (pw_i k25_5), some (pw_i x33)]) rfl rfl rfl rfl ?_
                refine pw_ld E (pc' := 110) (st' := [.ref 40]) rfl (fun _ => rfl) ?_
                refine pw_getI2 I E (c := 24) (k := 4) (pc' := 113) rfl rfl rfl rfl rfl rfl (fun hf44a hf44b => ?_)
                refine pw_ld E (pc' := 114) (st' := [pw_i 1, pw_i (pw_g h 24 4)]) rfl (fun _ => rfl) ?_
                refine pw_if2 E (pc' := 121) rfl (by decide) (by omega) (by omega) (by decide) (by decide) ?_ ?_
                · intro hc45
                  change pw_g h 24 4 ≠ (1 : Int) at hc45
                  exfalso; omega
                · intro hc46
                  change ¬ (pw_g h 24 4 ≠ (1 : Int)) at hc46
                  refine pw_ld E (pc' := 118) (st' := [pw_i 1]) rfl (fun _ => rfl) ?_
                  refine pw_goto E (pc' := 122) rfl (by decide) ?_
                  refine pw_ist E (pc' := 124) (ls' := [some (.ref 40), some (.ref str), some (pw_i (k25_2 + 1)), some (pw_i (pw_g h 24 2)), some (pw_i 1), some (pw_i k25_5), some (pw_i x33)]) rfl rfl rfl rfl ?_
                  refine pw_inc E (pc' := 127) (ls' := [some (.ref 40), some (.ref str), some (pw_i (k25_2 + 1)), some (pw_i (pw_g h 24 2)), some (pw_i 1), some (pw_i (k25_5 + 1)), some (pw_i x33)]) rfl rfl rfl rfl ?_
                  refine pw_goto E (pc' := 25) rfl (by decide) ?_
                  exact ih25 _ (by omega) (k25_2 + 1) (pw_g h 24 2) (1) (k25_5 + 1) (some (pw_i x33))  (by omega) (by omega) (by omega) (by omega) (by omega) (by omega) (by omega) (by omega) (by omega) (by omega) (by omega) rfl
              · intro hc47
                change ¬ (k25_3 ≠ pw_g h 24 3) at hc47
                refine pw_ld E (pc' := 100) (st' := [pw_i k25_2]) rfl (fun _ => rfl) ?_
                refine pw_iret E rfl ?_
                exact ⟨rfl, ⟨_, rfl, by omega, by omega, by omega⟩⟩
          · intro hc48
            change ¬ (x33 = (32 : Int)) at hc48
            refine pw_ld E (pc' := 51) (st' := [pw_i k25_4]) rfl (fun _ => rfl) ?_
            refine pw_if E (pc' := 77) rfl (by decide) (by omega) (by omega) ?_ ?_
            · intro hc49
              change k25_4 = (0 : Int) at hc49
              refine pw_ld E (pc' := 78) (st' := [pw_i 0]) rfl (fun _ => rfl) ?_
              refine pw_ist E (pc' := 80) (ls' := [some (.ref 40), some (.ref str), some (pw_i k25_2), some (pw_i k25_3), some (pw_i 0), some (pw_i k25_5), some (pw_i x33)]) rfl rfl rfl rfl ?_
              refine pw_inc E (pc' := 83) (ls' := [some (.ref 40), some (.ref str), some (pw_i k25_2), some (pw_i (k25_3 + 1)), some (pw_i 0), some (pw_i k25_5), some (pw_i x33)]) rfl rfl rfl rfl ?_
              refine pw_goto E (pc' := 124) rfl (by decide) ?_
              refine pw_inc E (pc' := 127) (ls' := [some (.ref 40), some (.ref str), some (pw_i k25_2), some (pw_i (k25_3 + 1)), some (pw_i 0), some (pw_i (k25_5 + 1)), some (pw_i x33)]) rfl rfl rfl rfl ?_
              refine pw_goto E (pc' := 25) rfl (by decide) ?_
              exact ih25 _ (by omega) (k25_2) (k25_3 + 1) (0) (k25_5 + 1) (some (pw_i x33))  (by omega) (by omega) (by omega) (by omega) (by omega) (by omega) (by omega) (by omega) (by omega) (by omega) (by omega) rfl
            · intro hc50
              change ¬ (k25_4 = (0 : Int)) at hc50
              refine pw_ld E (pc' := 55) (st' := [pw_i k25_3]) rfl (fun _ => rfl) ?_
              refine pw_ld E (pc' := 56) (st' := [.ref 40, pw_i k25_3]) rfl (fun _ => rfl) ?_
              refine pw_getI2 I E (c := 24) (k := 3) (pc' := 59) rfl rfl rfl rfl rfl rfl (fun hf51a hf51b => ?_)
              refine pw_if2 E (pc' := 77) rfl (by decide) (by omega) (by omega) (by omega) (by omega) ?_ ?_
              · intro hc52
                change pw_g h 24 3 ≤ k25_3 at hc52
                refine pw_ld E (pc' := 78) (st' := [pw_i 0]) rfl (fun _ => rfl) ?_
                refine pw_ist E (pc' := 80) (ls' := [some (.ref 40), some (.ref str), some (pw_i k25_2), some (pw_i k25_3), some (pw_i 0), some (pw_i k25_5), some (pw_i x33)]) rfl rfl rfl rfl ?_
                refine pw_inc E (pc' := 83) (ls' := [some (.ref 40), some (.ref str), some (pw_i k25_2), some (pw_i (k25_3 + 1)), some (pw_i 0), some (pw_i k25_5), some (pw_i x33)]) rfl rfl rfl rfl ?_
                refine pw_goto E (pc' := 124) rfl (by decide) ?_
                refine pw_inc E (pc' := 127) (ls' := [some (.ref 40), some (.ref str), some (pw_i k25_2), some (pw_i (k25_3 + 1)), some (pw_i 0), some (pw_i (k25_5 + 1)), some (pw_i x33)]) rfl rfl rfl rfl ?_
                refine pw_goto E (pc' := 25) rfl (by decide) ?_
                exact ih25 _ (by omega) (k25_2) (k25_3 + 1) (0) (k25_5 + 1) (some (pw_i x33))  (by omega) (by omega) (by omega) (by omega) (by omega) (by omega) (by omega) (by omega) (by omega) (by omega) (by omega) rfl
              · intro hc53
                change ¬ (pw_g h 24 3 ≤ k25_3) at hc53
                refine pw_ld E (pc' := 63) (st' := [.ref 40]) rfl (fun _ => rfl) ?_
                refine pw_getR (b := 41) I E (c := 24) (k := 0) (pc' := 66) rfl rfl rfl rfl rfl rfl rfl ?_
                refine pw_ld E (pc' := 67) (st' := [pw_i k25_3, .ref 41]) rfl (fun _ => rfl) ?_
                refine pw_ald2 I E (c := 25) (pc' := 68) rfl rfl rfl (by decide) rfl (by decide) (by omega) (by omega) rfl (fun hf54a hf54b => ?_)
                refine pw_ld E (pc' := 70) (st' := [pw_i x33, pw_i (pw_g h 25 (k25_3.toNat))]) rfl (fun _ => rfl) ?_
                refine pw_if2 E (pc' := 77) rfl (by decide) (by omega) (by omega) (by omega) (by omega) ?_ ?_
                · intro hc55
                  change pw_g h 25 (k25_3.toNat) ≠ x33 at hc55
                  refine pw_ld E (pc' := 78) (st' := [pw_i 0]) rfl (fun _ => rfl) ?_
                  refine pw_ist E (pc' := 80) (ls' := [some (.ref 40), some (.ref str), some (pw_i k25_2), some (pw_i k25_3), some (pw_i 0), some (pw_i k25_5), some (pw_i x33)]) rfl rfl rfl rfl ?_
                  refine pw_inc E (pc' := 83) (ls' := [some (.ref 40), some (.ref str), some (pw_i k25_2), some (pw_i (k25_3 + 1)), some (pw_i 0), some (pw_i k25_5), some (pw_i x33)]) rfl rfl rfl rfl ?_
                  refine pw_goto E (pc' := 124) rfl (by decide) ?_
                  refine pw_inc E (pc' := 127) (ls' := [some (.ref 40), some (.ref str), some (pw_i k25_2), some (pw_i (k25_3 + 1)), some (pw_i 0), some (pw_i (k25_5 + 1)), some (pw_i x33)]) rfl rfl rfl rfl ?_
                  refine pw_goto E (pc' := 25) rfl (by decide) ?_
                  exact ih25 _ (by omega) (k25_2) (k25_3 + 1) (0) (k25_5 + 1) (some (pw_i x33))  (by omega) (by omega) (by omega) (by omega) (by omega) (by omega) (by omega) (by omega) (by omega) (by omega) (by omega) rfl
                · intro hc56
                  change ¬ (pw_g h 25 (k25_3.toNat) ≠ x33) at hc56
                  refine pw_ld E (pc' := 74) (st' := [pw_i 1]) rfl (fun _ => rfl) ?_
                  refine pw_goto E (pc' := 78) rfl (by decide) ?_
                  refine pw_ist E (pc' := 80) (ls' := [some (.ref 40), some (.ref str), some (pw_i k25_2), some (pw_i k25_3), some (pw_i 1), some (pw_i k25_5), some (pw_i x33)]) rfl rfl rfl rfl ?_
                  refine pw_inc E (pc' := 83) (ls' := [some (.ref 40), some (.ref str), some (pw_i k25_2), some (pw_i (k25_3 + 1)), some (pw_i 1), some (pw_i k25_5), some (pw_i x33)]) rfl rfl rfl rfl ?_
                  refine pw_goto E (pc' := 124) rfl (by decide) ?_
                  refine pw_inc E (pc' := 127) (ls' := [some (.ref 40), some (.ref str), some (pw_i k25_2), some (pw_i (k25_3 + 1)), some (pw_i 1), some (pw_i (k25_5 + 1)), some (pw_i x33)]) rfl rfl rfl rfl ?_
                  refine pw_goto E (pc' := 25) rfl (by decide) ?_
                  exact ih25 _ (by omega) (k25_2) (k25_3 + 1) (1) (k25_5 + 1) (some (pw_i x33))  (by omega) (by omega) (by omega) (by omega) (by omega) (by omega) (by omega) (by omega) (by omega) (by omega) (by omega) rfl
    exact L25 _ (0) (pw_g h 24 2) (1) (0) (none)  (by omega) (by omega) (by omega) (by omega) (by omega) (by omega) (by omega) (by omega) (by omega) (by omega) (by omega) rfl
set_option maxHeartbeats 4000000 in
theorem cm_55_24 {X : List (Nat × List Value)} {d : Nat} {h : pm_H} (hd : 2 ≤ d) (I : pw_I h) (hX : pw_Xk X)  : pw X d h 55 0 [some (.ref 40), none] [] (fun h' v => h = h' ∧ ∃ a : Int, v = .inl (some (pw_i a)) ∧ (-1) ≤ a ∧ a ≤ 7 ∧ (a ≠ 0 ∧ (pw_g h 24 4 ≠ 4 ∨ a = -1))) := by
  have E : pm_ent 55 = some (1, 2, 5, 0, pmc_55) := rfl
  refine pw_ld E (pc' := 1) (st' := [.ref 40]) rfl (fun _ => rfl) ?_
  refine pw_ld E (pc' := 3) (st' := [.ref 11, .ref 40]) rfl (fun _ => rfl) ?_
  obtain ⟨f1l, f1h, -⟩ := pw_obj (c := 24) I rfl
  refine pw_call (m' := 108) (As := [.ref 40, .ref 11]) (rest := []) (ls'' := [some (.ref 40), some (.ref 11), none, none, none, none, none]) (Nat.le_trans (by decide) hd) E rfl (fun _ => pw_iV rfl rfl rfl rfl (pw_cellI f1h rfl)) (rfl : pm_ent 108 = some (2, 7, 9, 0, pmc_108)) rfl rfl (cm_108_24 (pw_dp hd (by decide)) I hX 11 (by omega) (by omega)) ?_
  rintro u3 v2 ⟨rfl, x4, rfl, hx4a, hx4b, hx4r⟩
  refine ⟨_, rfl, ?_⟩
  show pw X d h 55 6 [some (.ref 40), none] [pw_i x4] _
  change pw_g h 24 4 = 1 ∨ x4 = -1 at hx4r
  refine pw_istn E (pc' := 7) (ls' := [some (.ref 40), some (pw_i x4)]) rfl rfl rfl rfl ?_
  refine pw_ld E (pc' := 8) (st' := [pw_i x4]) rfl (fun _ => rfl) ?_
  refine pw_ld E (pc' := 9) (st' := [pw_i ((-1)), pw_i x4]) rfl (fun _ => rfl) ?_
  refine pw_if2 E (pc' := 22) rfl (by decide) (by omega) (by omega) (by decide) (by decide) ?_ ?_
  · intro hc5
    change x4 = ((-1) : Int) at hc5
    refine pw_ld E (pc' := 23) (st' := [.ref 40]) rfl (fun _ => rfl) ?_
    obtain ⟨f6l, f6h, -⟩ := pw_obj (c := 24) I rfl
    refine pw_call (m' := 107) (As := [.ref 40]) (rest := []) (ls'' := [some (.ref 40)]) (Nat.le_trans (by decide) hd) E rfl (fun _ => pw_iV rfl rfl rfl rfl (pw_cellI f6h rfl)) (rfl : pm_ent 107 = some (1, 1, 9, 0, pmc_107)) rfl rfl (cm_107_24 (pw_dp hd (by decide)) I ) ?_
    rintro u8 v7 ⟨rfl, x9, rfl, hx9a, hx9b, hx9r⟩
    refine ⟨_, rfl, ?_⟩
    show pw X d h 55 26 [some (.ref 40), some (pw_i x4)] [pw_i x9] _
    change x9 = pw_g h 24 4 at hx9r
    refine pw_ld E (pc' := 27) (st' := [pw_i 3, pw_i x9]) rfl (fun _ => rfl) ?_
    refine pw_if2 E (pc' := 32) rfl (by decide) (by omega) (by omega) (by decide) (by decide) ?_ ?_
    · intro hc10
      change x9 = (3 : Int) at hc10
      refine pw_ld E (pc' := 33) (st' := [.ref 40]) rfl (fun _ => rfl) ?_
      obtain ⟨f11l, f11h, -⟩ := pw_obj (c := 24) I rfl
      refine pw_call (m' := 110) (As := [.ref 40]) (rest := []) (ls'' := [some (.ref 40)]) (Nat.le_trans (by decide) hd) E rfl (fun _ => pw_iV rfl rfl rfl rfl (pw_cellI f11h rfl)) (rfl : pm_ent 110 = some (1, 1, 9, 0, pmc_110)) rfl rfl (cm_110 (pw_dp hd (by decide)) I ) ?_
      rintro u13 v12 ⟨rfl, x14, rfl, hx14a, hx14b⟩
      refine ⟨_, rfl, ?_⟩
      show pw X d h 55 36 [some (.ref 40), some (pw_i x4)] [pw_i x14] _
      rcases (by omega : x14 = 42 ∨ x14 = 43 ∨ x14 = 45 ∨ x14 = 60 ∨ x14 = 61 ∨ (x14 ≠ 42 ∧ x14 ≠ 43 ∧ x14 ≠ 45 ∧ x14 ≠ 60 ∧ x14 ≠ 61)) with hs15 | hs15 | hs15 | hs15 | hs15 | hs15
      · refine pw_lsw (o := 61) E (pc' := 97) rfl (by omega) (by omega) rfl (by rw [hs15]; rfl) (by decide) ?_
        refine pw_bip E (pc' := 99) rfl rfl (by decide) ?_
        refine pw_iret E rfl ?_
        exact ⟨rfl, ⟨_, rfl, by omega, by omega, by omega⟩⟩
      · refine pw_lsw (o := 56) E (pc' := 92) rfl (by omega) (by omega) rfl (by rw [hs15]; rfl) (by decide) ?_
        refine pw_ld E (pc' := 93) (st' := [pw_i 5]) rfl (fun _ => rfl) ?_
        refine pw_iret E rfl ?_
        exact ⟨rfl, ⟨_, rfl, by omega, by omega, by omega⟩⟩
      · refine pw_lsw (o := 58) E (pc' := 94) rfl (by omega) (by omega) rfl (by rw [hs15]; rfl) (by decide) ?_
        refine pw_bip E (pc' := 96) rfl rfl (by decide) ?_
        refine pw_iret E rfl ?_
        exact ⟨rfl, ⟨_, rfl, by omega, by omega, by omega⟩⟩
      · refine pw_lsw (o := 52) E (pc' := 88) rfl (by omega) (by omega) rfl (by rw [hs15]; rfl) (by decide) ?_
        refine pw_ld E (pc' := 89) (st' := [pw_i 3]) rfl (fun _ => rfl) ?_
        refine pw_iret E rfl ?_
        exact ⟨rfl, ⟨_, rfl, by omega, by omega, by omega⟩⟩
      · refine pw_lsw (o := 54) E (pc' := 90) rfl (by omega) (by omega) rfl (by rw [hs15]; rfl) (by decide) ?_
        refine pw_ld E (pc' := 91) (st' := [pw_i 4]) rfl (fun _ => rfl) ?_
        refine pw_iret E rfl ?_
        exact ⟨rfl, ⟨_, rfl, by omega, by omega, by omega⟩⟩
      · refine pw_lsw (o := 64) E (pc' := 100) rfl (by omega) (by omega) rfl (by simp only [Op.lookupswitch.offset]; repeat rw [if_neg (by omega)]) (by decide) ?_
        refine pw_ld E (pc' := 101) (st' := [pw_i ((-1))]) rfl (fun _ => rfl) ?_
        refine pw_iret E rfl ?_
        exact ⟨rfl, ⟨_, rfl, by omega, by omega, by omega⟩⟩
    · intro hc16
      change ¬ (x9 = (3 : Int)) at hc16
      refine pw_ld E (pc' := 31) (st' := [pw_i ((-1))]) rfl (fun _ => rfl) ?_
      refine pw_iret E rfl ?_
      exact ⟨rfl, ⟨_, rfl, by omega, by omega, by omega⟩⟩
  · intro hc17
    change ¬ (x4 = ((-1) : Int)) at hc17
    refine pw_ld E (pc' := 13) (st' := [pw_i x4]) rfl (fun _ => rfl) ?_
    refine pw_if E (pc' := 20) rfl (by decide) (by omega) (by omega) ?_ ?_
    · intro hc18
      change x4 ≠ (0 : Int) at hc18
      refine pw_ld E (pc' := 21) (st' := [pw_i 2]) rfl (fun _ => rfl) ?_
      refine pw_iret E rfl ?_
      exact ⟨rfl, ⟨_, rfl, by omega, by omega, by omega⟩⟩
    · intro hc19
      change ¬ (x4 ≠ (0 : Int)) at hc19
      refine pw_ld E (pc' := 17) (st' := [pw_i 1]) rfl (fun _ => rfl) ?_
      refine pw_goto E (pc' := 21) rfl (by decide) ?_
      refine pw_iret E rfl ?_
      exact ⟨rfl, ⟨_, rfl, by omega, by omega, by omega⟩⟩
end
section
/-! the Readers: an operator (printed by wip/tool/reader4.py) -/
set_option maxHeartbeats 4000000 in
theorem cm_50_26 {X : List (Nat × List Value)} {d : Nat} {h : pm_H} (hd : 4 ≤ d) (I : pw_I h) (hX : pw_Xk X) (hR : pw_Xr X) {T : Int} (P : pw_P 26 27 h T) : pw X d h 50 0 [some (.ref 42), some (.ref 40), some (.ref 46), none, none] [] (fun h' v => pw_I h' ∧ pw_E [26, 27, 30, 33, 36] h h' ∧ pw_P 26 27 h' (T + 1) ∧ ∃ a : Int, v = .inl (some (pw_i a)) ∧ 0 ≤ a ∧ a ≤ 1 ∧ (pw_g h 24 4 ≠ 4 ∨ a = 1)) := by
  have E : pm_ent 50 = some (3, 5, 5, 0, pmc_50) := rfl
  have E0 : pw_E [26, 27, 30, 33, 36] h h := pw_E.rf _ _
  have K71 : ∀ (h0 : pm_H) (x : Int), pw_I h0 → pw_E [26, 27, 30, 33, 36] h h0 → pw_P 26 27 h0 T → 1 ≤ x → x ≤ 7 → pw_g h 24 4 ≠ 4 → pw X d h0 50 71 [some (.ref 42), some (.ref 40), some (.ref 46), some (pw_i x), some (pw_i (pw_rk x))] [] (fun h' v => pw_I h' ∧ pw_E [26, 27, 30, 33, 36] h h' ∧ pw_P 26 27 h' (T + 1) ∧ ∃ a : Int, v = .inl (some (pw_i a)) ∧ 0 ≤ a ∧ a ≤ 1 ∧ (pw_g h 24 4 ≠ 4 ∨ a = 1)) := by
    intro h0 x I0 F0 P0 x1 x7 hk4
    have r1 := pw_rk1 x1 (by omega)
    have r4 := (pw_rk_le x).2
    refine pw_ld E (pc' := 72) (st' := [.ref 42]) rfl (fun _ => rfl) ?_
    refine pw_ld E (pc' := 74) (st' := [pw_i (pw_rk x), .ref 42]) rfl (fun _ => rfl) ?_
    refine pw_ld E (pc' := 75) (st' := [.ref 46, pw_i (pw_rk x), .ref 42]) rfl (fun _ => rfl) ?_
    obtain ⟨f1l, f1h, -⟩ := pw_obj (c := 26) I0 rfl
    refine pw_call (m' := 52) (As := [.ref 42, pw_i (pw_rk x), .ref 46]) (rest := []) (ls'' := [some (.ref 42), some (pw_i (pw_rk x)), some (.ref 46)]) (Nat.le_trans (by decide) hd) E rfl (fun _ => pw_iV rfl rfl rfl rfl (pw_cellI f1h rfl)) (rfl : pm_ent 52 = some (3, 3, 5, 4, pmc_52)) rfl rfl (cm_52_26 (pw_dp hd (by decide)) hR (pw_rk x) r1 r4 _ I0 rfl P0.1) ?_
    rintro h1 v3 ⟨h1I, h1E, ⟨h1J, h1t, h1p, h1k⟩, rfl⟩
    refine ⟨_, rfl, ?_⟩
    show pw X d h1 50 78 [some (.ref 42), some (.ref 40), some (.ref 46), some (pw_i x), some (pw_i (pw_rk x))] [] _
    have h1F := F0.tr (h1E.wk (W' := [26, 27, 30, 33, 36]) (by first | rfl | simp))
    refine pw_ld E (pc' := 79) (st' := [.ref 42]) rfl (fun _ => rfl) ?_
    refine pw_ld E (pc' := 80) (st' := [pw_i x, .ref 42]) rfl (fun _ => rfl) ?_
    obtain ⟨f2l, f2h, -⟩ := pw_obj (c := 26) h1I rfl
    refine pw_call (m' := 48) (As := [.ref 42, pw_i x]) (rest := []) (ls'' := [some (.ref 42), some (pw_i x)]) (Nat.le_trans (by decide) hd) E rfl (fun _ => pw_iV rfl rfl rfl rfl (pw_cellI f2h rfl)) (rfl : pm_ent 48 = some (2, 2, 5, 4, pmc_48)) rfl rfl (cm_48_26 (pw_dp hd (by decide)) h1I x x1 (by omega) h1J (Or.inr h1t) (fun h8 => by omega)) ?_
    rintro h2 v4 ⟨h2I, h2E, ⟨h2J, h2p, h2k⟩, rfl⟩
    refine ⟨_, rfl, ?_⟩
    show pw X d h2 50 83 [some (.ref 42), some (.ref 40), some (.ref 46), some (pw_i x), some (pw_i (pw_rk x))] [] _
    have h2F := h1F.tr (h2E.wk (W' := [26, 27, 30, 33, 36]) (by first | rfl | simp))
    rw [if_neg (by omega), if_neg (by omega)] at h2J
    have q5 : pw_g h2 26 5 = pw_g h0 26 5 := (h2k 5 (by decide)).trans (h1k 5 (by decide))
    have q6 : pw_g h2 26 6 = pw_g h0 26 6 := (h2k 6 (by decide)).trans (h1k 6 (by decide))
    have q1 : pw_g h2 30 1 = pw_g h1 30 1 := pw_Eg (c := 30) h1I h2E rfl rfl 1
    have P2 : pw_P 26 27 h2 (T + 1) := by
      obtain ⟨p1, p2, p3⟩ := P0
      refine ⟨?_, by omega, by omega⟩
      rw [q5, q6]
      simpa using h2J
    refine pw_ld E (pc' := 84) (st' := [.ref 42]) rfl (fun _ => rfl) ?_
    refine pw_ld E (pc' := 85) (st' := [pw_i 2, .ref 42]) rfl (fun _ => rfl) ?_
    refine pw_putI h2I E (c := 26) (k := 7) (pc' := 88) rfl rfl rfl rfl (by decide) (by decide) (by decide) (by decide) rfl rfl ?_
    intro h3I h3E
    generalize h3w : pw_w h2 26 7 (pw_i 2) = h3 at h3I h3E ⊢
    have h3F := h2F.tr (h3E.wk (W' := [26, 27, 30, 33, 36]) (by first | rfl | simp))
    have hn3 : ∀ c' k', ¬ (26 = c' ∧ 7 = k') → pw_g h3 c' k' = pw_g h2 c' k' := fun c' k' hn => by rw [← h3w]; exact pw_g_ne hn
    refine pw_ld E (pc' := 89) (st' := [pw_i 0]) rfl (fun _ => rfl) ?_
    refine pw_iret E rfl ?_
    exact ⟨h3I, h3F, pw_Pof P2 (hn3 _ _ (by decide)) (hn3 _ _ (by decide)) (hn3 _ _ (by decide)) (fun j => hn3 _ _ (by omega)) (hn3 _ _ (by decide)), ⟨_, rfl, by omega, by omega, Or.inl hk4⟩⟩
  refine pw_ld E (pc' := 1) (st' := [.ref 40]) rfl (fun _ => rfl) ?_
  refine pw_bip E (pc' := 3) rfl rfl (by decide) ?_
  obtain ⟨g59l, g59h, -⟩ := pw_obj (c := 24) I rfl
  refine pw_call (m' := 109) (As := [.ref 40, pw_i 59]) (rest := []) (ls'' := [some (.ref 40), some (pw_i 59)]) (Nat.le_trans (by decide) hd) E rfl (fun _ => pw_iV rfl rfl rfl rfl (pw_cellI g59h rfl)) (rfl : pm_ent 109 = some (2, 2, 9, 1, pmc_109)) rfl rfl (cm_109_24 (pw_dp hd (by decide)) I 59 (by decide) (by decide)) ?_
  rintro u59 w59 ⟨rfl, s1, rfl, hs1a, hs1b, hs1r⟩
  refine ⟨_, rfl, ?_⟩
  show pw X d h 50 6 [some (.ref 42), some (.ref 40), some (.ref 46), none, none] [pw_i s1] _
  change pw_g h 24 4 = 3 ∨ s1 = 0 at hs1r
  refine pw_if E (pc' := 15) rfl (by decide) (by omega) (by omega) ?_ ?_
  · intro hc1
    change s1 = (0 : Int) at hc1
    refine pw_ld E (pc' := 16) (st' := [.ref 40]) rfl (fun _ => rfl) ?_
    refine pw_bip E (pc' := 18) rfl rfl (by decide) ?_
    obtain ⟨g41l, g41h, -⟩ := pw_obj (c := 24) I rfl
    refine pw_call (m' := 109) (As := [.ref 40, pw_i 41]) (rest := []) (ls'' := [some (.ref 40), some (pw_i 41)]) (Nat.le_trans (by decide) hd) E rfl (fun _ => pw_iV rfl rfl rfl rfl (pw_cellI g41h rfl)) (rfl : pm_ent 109 = some (2, 2, 9, 1, pmc_109)) rfl rfl (cm_109_24 (pw_dp hd (by decide)) I 41 (by decide) (by decide)) ?_
    rintro u41 w41 ⟨rfl, s2, rfl, hs2a, hs2b, hs2r⟩
    refine ⟨_, rfl, ?_⟩
    show pw X d h 50 21 [some (.ref 42), some (.ref 40), some (.ref 46), none, none] [pw_i s2] _
    change pw_g h 24 4 = 3 ∨ s2 = 0 at hs2r
    refine pw_if E (pc' := 30) rfl (by decide) (by omega) (by omega) ?_ ?_
    · intro hc2
      change s2 = (0 : Int) at hc2
      refine pw_ld E (pc' := 31) (st' := [.ref 40]) rfl (fun _ => rfl) ?_
      refine pw_call (m' := 55) (As := [.ref 40]) (rest := []) (ls'' := [some (.ref 40), none]) (Nat.le_trans (by decide) hd) E rfl (fun _ => pw_iS rfl rfl rfl) (rfl : pm_ent 55 = some (1, 2, 5, 0, pmc_55)) rfl rfl (cm_55_24 (pw_dp hd (by decide)) I hX) ?_
      rintro u3 w3 ⟨rfl, x, rfl, hxa, hxb, hxr, hxe⟩
      refine ⟨_, rfl, ?_⟩
      show pw X d h 50 34 [some (.ref 42), some (.ref 40), some (.ref 46), none, none] [pw_i x] _
      refine pw_istn E (pc' := 35) (ls' := [some (.ref 42), some (.ref 40), some (.ref 46), some (pw_i x), none]) rfl rfl rfl rfl ?_
      refine pw_ld E (pc' := 36) (st' := [pw_i x]) rfl (fun _ => rfl) ?_
      refine pw_ld E (pc' := 37) (st' := [pw_i (-1), pw_i x]) rfl (fun _ => rfl) ?_
      refine pw_if2 E (pc' := 42) rfl (by decide) (by omega) (by omega) (by decide) (by decide) ?_ ?_
      · intro hc3
        change x ≠ (-1 : Int) at hc3
        refine pw_ld E (pc' := 45) (st' := [.ref 3]) rfl (fun _ => rfl) ?_
        refine pw_ld E (pc' := 46) (st' := [pw_i x, .ref 3]) rfl (fun _ => rfl) ?_
        refine pw_xaldR E (pc' := 47) rfl hR (by omega) (by omega) rfl ?_
        refine pw_ist E (pc' := 49) (ls' := [some (.ref 42), some (.ref 40), some (.ref 46), some (pw_i x), some (pw_i (pw_rk x))]) rfl rfl rfl rfl ?_
        have r1 := pw_rk1 (x := x) (by omega) (by omega)
        have r4 := (pw_rk_le x).2
        refine pw_ld E (pc' := 51) (st' := [pw_i (pw_rk x)]) rfl (fun _ => rfl) ?_
        refine pw_ld E (pc' := 52) (st' := [pw_i 2, pw_i (pw_rk x)]) rfl (fun _ => rfl) ?_
        refine pw_if2 E (pc' := 71) rfl (by decide) (by omega) (by omega) (by decide) (by decide) ?_ ?_
        · intro _
          exact K71 h x I E0 P (by omega) (by omega) (by omega)
        · intro _
          refine pw_ld E (pc' := 56) (st' := [.ref 42]) rfl (fun _ => rfl) ?_
          refine pw_ld E (pc' := 57) (st' := [pw_i 3, .ref 42]) rfl (fun _ => rfl) ?_
          refine pw_ld E (pc' := 58) (st' := [.ref 46, pw_i 3, .ref 42]) rfl (fun _ => rfl) ?_
          obtain ⟨f1l, f1h, -⟩ := pw_obj (c := 26) I rfl
          refine pw_call (m' := 52) (As := [.ref 42, pw_i 3, .ref 46]) (rest := []) (ls'' := [some (.ref 42), some (pw_i 3), some (.ref 46)]) (Nat.le_trans (by decide) hd) E rfl (fun _ => pw_iV rfl rfl rfl rfl (pw_cellI f1h rfl)) (rfl : pm_ent 52 = some (3, 3, 5, 4, pmc_52)) rfl rfl (cm_52_26 (pw_dp hd (by decide)) hR 3 (by decide) (by decide) _ I rfl P.1) ?_
          rintro h1 v3 ⟨h1I, h1E, ⟨h1J, h1t, h1p, h1k⟩, rfl⟩
          refine ⟨_, rfl, ?_⟩
          show pw X d h1 50 61 [some (.ref 42), some (.ref 40), some (.ref 46), some (pw_i x), some (pw_i (pw_rk x))] [] _
          have h1F := E0.tr (h1E.wk (W' := [26, 27, 30, 33, 36]) (by first | rfl | simp))
          have P1 : pw_P 26 27 h1 T := ⟨by rw [h1k 5 (by decide), h1k 6 (by decide)]; exact h1J, by rw [h1k 6 (by decide)]; exact P.2.1, by have := P.2.2; omega⟩
          refine pw_ld E (pc' := 62) (st' := [.ref 42]) rfl (fun _ => rfl) ?_
          obtain ⟨f2l, f2h, -⟩ := pw_obj (c := 26) h1I rfl
          refine pw_call (m' := 53) (As := [.ref 42]) (rest := []) (ls'' := [some (.ref 42)]) (Nat.le_trans (by decide) hd) E rfl (fun _ => pw_iV rfl rfl rfl rfl (pw_cellI f2h rfl)) (rfl : pm_ent 53 = some (1, 1, 5, 0, pmc_53)) rfl rfl (cm_53_26 (pw_dp hd (by decide)) h1I hR) ?_
          rintro u4 w4 ⟨rfl, rfl⟩
          refine ⟨_, rfl, ?_⟩
          show pw X d h1 50 65 [some (.ref 42), some (.ref 40), some (.ref 46), some (pw_i x), some (pw_i (pw_rk x))] [pw_i (pw_tr 26 27 h1)] _
          have ht : 0 ≤ pw_tr 26 27 h1 ∧ pw_tr 26 27 h1 ≤ 4 := by
            unfold pw_tr
            split
            · omega
            · exact pw_rk_le _
          refine pw_ld E (pc' := 66) (st' := [pw_i 2, pw_i (pw_tr 26 27 h1)]) rfl (fun _ => rfl) ?_
          refine pw_if2 E (pc' := 71) rfl (by decide) (by omega) (by omega) (by decide) (by decide) ?_ ?_
          · intro _
            exact K71 h1 x h1I h1F P1 (by omega) (by omega) (by omega)
          · intro _
            refine pw_ld E (pc' := 70) (st' := [pw_i 1]) rfl (fun _ => rfl) ?_
            refine pw_iret E rfl ?_
            exact ⟨h1I, h1F, P1.wk (by omega), ⟨_, rfl, by omega, by omega, Or.inr rfl⟩⟩
      · intro _
        refine pw_ld E (pc' := 41) (st' := [pw_i 1]) rfl (fun _ => rfl) ?_
        refine pw_iret E rfl ?_
        exact ⟨I, E0, P.wk (by omega), ⟨_, rfl, by omega, by omega, Or.inr rfl⟩⟩
    · intro hc2
      change ¬ (s2 = (0 : Int)) at hc2
      refine pw_ld E (pc' := 25) (st' := [.ref 42]) rfl (fun _ => rfl) ?_
      refine pw_ld E (pc' := 26) (st' := [.ref 46, .ref 42]) rfl (fun _ => rfl) ?_
      obtain ⟨k54l, k54h, -⟩ := pw_obj (c := 26) I rfl
      refine pw_call (m' := 54) (As := [.ref 42, .ref 46]) (rest := []) (ls'' := [some (.ref 42), some (.ref 46)]) (Nat.le_trans (by decide) hd) E rfl (fun _ => pw_iV rfl rfl rfl rfl (pw_cellI k54h rfl)) (rfl : pm_ent 54 = some (2, 2, 5, 0, pmc_54)) rfl rfl (cm_54_26 (pw_dp hd (by decide)) I hR P) ?_
      rintro h1 v1 ⟨h1I, h1E, h1P, y, rfl, hya, hyb⟩
      refine ⟨_, rfl, ?_⟩
      show pw X d h1 50 29 [some (.ref 42), some (.ref 40), some (.ref 46), none, none] [pw_i y] _
      refine pw_iret E rfl ?_
      exact ⟨h1I, h1E, h1P.wk (by omega), ⟨_, rfl, by omega, by omega, Or.inl (by omega)⟩⟩
  · intro hc1
    change ¬ (s1 = (0 : Int)) at hc1
    refine pw_ld E (pc' := 10) (st' := [.ref 42]) rfl (fun _ => rfl) ?_
    refine pw_ld E (pc' := 11) (st' := [.ref 46, .ref 42]) rfl (fun _ => rfl) ?_
    obtain ⟨k51l, k51h, -⟩ := pw_obj (c := 26) I rfl
    refine pw_call (m' := 51) (As := [.ref 42, .ref 46]) (rest := []) (ls'' := [some (.ref 42), some (.ref 46)]) (Nat.le_trans (by decide) hd) E rfl (fun _ => pw_iV rfl rfl rfl rfl (pw_cellI k51h rfl)) (rfl : pm_ent 51 = some (2, 2, 5, 0, pmc_51)) rfl rfl (cm_51_26 (pw_dp hd (by decide)) I hR P) ?_
    rintro h1 v1 ⟨h1I, h1E, h1P, y, rfl, hya, hyb⟩
    refine ⟨_, rfl, ?_⟩
    show pw X d h1 50 14 [some (.ref 42), some (.ref 40), some (.ref 46), none, none] [pw_i y] _
    refine pw_iret E rfl ?_
    exact ⟨h1I, h1E, h1P.wk (by omega), ⟨_, rfl, by omega, by omega, Or.inl (by omega)⟩⟩
set_option maxHeartbeats 4000000 in
theorem cm_50_28 {X : List (Nat × List Value)} {d : Nat} {h : pm_H} (hd : 4 ≤ d) (I : pw_I h) (hX : pw_Xk X) (hR : pw_Xr X) {T : Int} (P : pw_P 28 29 h T) : pw X d h 50 0 [some (.ref 44), some (.ref 40), some (.ref 46), none, none] [] (fun h' v => pw_I h' ∧ pw_E [28, 29, 30, 33, 36] h h' ∧ pw_P 28 29 h' (T + 1) ∧ ∃ a : Int, v = .inl (some (pw_i a)) ∧ 0 ≤ a ∧ a ≤ 1 ∧ (pw_g h 24 4 ≠ 4 ∨ a = 1)) := by
  have E : pm_ent 50 = some (3, 5, 5, 0, pmc_50) := rfl
  have E0 : pw_E [28, 29, 30, 33, 36] h h := pw_E.rf _ _
  have K71 : ∀ (h0 : pm_H) (x : Int), pw_I h0 → pw_E [28, 29, 30, 33, 36] h h0 → pw_P 28 29 h0 T → 1 ≤ x → x ≤ 7 → pw_g h 24 4 ≠ 4 → pw X d h0 50 71 [some (.ref 44), some (.ref 40), some (.ref 46), some (pw_i x), some (pw_i (pw_rk x))] [] (fun h' v => pw_I h' ∧ pw_E [28, 29, 30, 33, 36] h h' ∧ pw_P 28 29 h' (T + 1) ∧ ∃ a : Int, v = .inl (some (pw_i a)) ∧ 0 ≤ a ∧ a ≤ 1 ∧ (pw_g h 24 4 ≠ 4 ∨ a = 1)) := by
    intro h0 x I0 F0 P0 x1 x7 hk4
    have r1 := pw_rk1 x1 (by omega)
    have r4 := (pw_rk_le x).2
    refine pw_ld E (pc' := 72) (st' := [.ref 44]) rfl (fun _ => rfl) ?_
    refine pw_ld E (pc' := 74) (st' := [pw_i (pw_rk x), .ref 44]) rfl (fun _ => rfl) ?_
    refine pw_ld E (pc' := 75) (st' := [.ref 46, pw_i (pw_rk x), .ref 44]) rfl (fun _ => rfl) ?_
    obtain ⟨f1l, f1h, -⟩ := pw_obj (c := 28) I0 rfl
    refine pw_call (m' := 52) (As := [.ref 44, pw_i (pw_rk x), .ref 46]) (rest := []) (ls'' := [some (.ref 44), some (pw_i (pw_rk x)), some (.ref 46)]) (Nat.le_trans (by decide) hd) E rfl (fun _ => pw_iV rfl rfl rfl rfl (pw_cellI f1h rfl)) (rfl : pm_ent 52 = some (3, 3, 5, 4, pmc_52)) rfl rfl (cm_52_28 (pw_dp hd (by decide)) hR (pw_rk x) r1 r4 _ I0 rfl P0.1) ?_
    rintro h1 v3 ⟨h1I, h1E, ⟨h1J, h1t, h1p, h1k⟩, rfl⟩
    refine ⟨_, rfl, ?_⟩
    show pw X d h1 50 78 [some (.ref 44), some (.ref 40), some (.ref 46), some (pw_i x), some (pw_i (pw_rk x))] [] _
    have h1F := F0.tr (h1E.wk (W' := [28, 29, 30, 33, 36]) (by first | rfl | simp))
    refine pw_ld E (pc' := 79) (st' := [.ref 44]) rfl (fun _ => rfl) ?_
    refine pw_ld E (pc' := 80) (st' := [pw_i x, .ref 44]) rfl (fun _ => rfl) ?_
    obtain ⟨f2l, f2h, -⟩ := pw_obj (c := 28) h1I rfl
    refine pw_call (m' := 48) (As := [.ref 44, pw_i x]) (rest := []) (ls'' := [some (.ref 44), some (pw_i x)]) (Nat.le_trans (by decide) hd) E rfl (fun _ => pw_iV rfl rfl rfl rfl (pw_cellI f2h rfl)) (rfl : pm_ent 48 = some (2, 2, 5, 4, pmc_48)) rfl rfl (cm_48_28 (pw_dp hd (by decide)) h1I x x1 (by omega) h1J (Or.inr h1t) (fun h8 => by omega)) ?_
    rintro h2 v4 ⟨h2I, h2E, ⟨h2J, h2p, h2k⟩, rfl⟩
    refine ⟨_, rfl, ?_⟩
    show pw X d h2 50 83 [some (.ref 44), some (.ref 40), some (.ref 46), some (pw_i x), some (pw_i (pw_rk x))] [] _
    have h2F := h1F.tr (h2E.wk (W' := [28, 29, 30, 33, 36]) (by first | rfl | simp))
    rw [if_neg (by omega), if_neg (by omega)] at h2J
    have q5 : pw_g h2 28 5 = pw_g h0 28 5 := (h2k 5 (by decide)).trans (h1k 5 (by decide))
    have q6 : pw_g h2 28 6 = pw_g h0 28 6 := (h2k 6 (by decide)).trans (h1k 6 (by decide))
    have q1 : pw_g h2 30 1 = pw_g h1 30 1 := pw_Eg (c := 30) h1I h2E rfl rfl 1
    have P2 : pw_P 28 29 h2 (T + 1) := by
      obtain ⟨p1, p2, p3⟩ := P0
      refine ⟨?_, by omega, by omega⟩
      rw [q5, q6]
      simpa using h2J
    refine pw_ld E (pc' := 84) (st' := [.ref 44]) rfl (fun _ => rfl) ?_
    refine pw_ld E (pc' := 85) (st' := [pw_i 2, .ref 44]) rfl (fun _ => rfl) ?_
    refine pw_putI h2I E (c := 28) (k := 7) (pc' := 88) rfl rfl rfl rfl (by decide) (by decide) (by decide) (by decide) rfl rfl ?_
    intro h3I h3E
    generalize h3w : pw_w h2 28 7 (pw_i 2) = h3 at h3I h3E ⊢
    have h3F := h2F.tr (h3E.wk (W' := [28, 29, 30, 33, 36]) (by first | rfl | simp))
    have hn3 : ∀ c' k', ¬ (28 = c' ∧ 7 = k') → pw_g h3 c' k' = pw_g h2 c' k' := fun c' k' hn => by rw [← h3w]; exact pw_g_ne hn
    refine pw_ld E (pc' := 89) (st' := [pw_i 0]) rfl (fun _ => rfl) ?_
    refine pw_iret E rfl ?_
    exact ⟨h3I, h3F, pw_Pof P2 (hn3 _ _ (by decide)) (hn3 _ _ (by decide)) (hn3 _ _ (by decide)) (fun j => hn3 _ _ (by omega)) (hn3 _ _ (by decide)), ⟨_, rfl, by omega, by omega, Or.inl hk4⟩⟩
  refine pw_ld E (pc' := 1) (st' := [.ref 40]) rfl (fun _ => rfl) ?_
  refine pw_bip E (pc' := 3) rfl rfl (by decide) ?_
  obtain ⟨g59l, g59h, -⟩ := pw_obj (c := 24) I rfl
  refine pw_call (m' := 109) (As := [.ref 40, pw_i 59]) (rest := []) (ls'' := [some (.ref 40), some (pw_i 59)]) (Nat.le_trans (by decide) hd) E rfl (fun _ => pw_iV rfl rfl rfl rfl (pw_cellI g59h rfl)) (rfl : pm_ent 109 = some (2, 2, 9, 1, pmc_109)) rfl rfl (cm_109_24 (pw_dp hd (by decide)) I 59 (by decide) (by decide)) ?_
  rintro u59 w59 ⟨rfl, s1, rfl, hs1a, hs1b, hs1r⟩
  refine ⟨_, rfl, ?_⟩
  show pw X d h 50 6 [some (.ref 44), some (.ref 40), some (.ref 46), none, none] [pw_i s1] _
  change pw_g h 24 4 = 3 ∨ s1 = 0 at hs1r
  refine pw_if E (pc' := 15) rfl (by decide) (by omega) (by omega) ?_ ?_
  · intro hc1
    change s1 = (0 : Int) at hc1
    refine pw_ld E (pc' := 16) (st' := [.ref 40]) rfl (fun _ => rfl) ?_
    refine pw_bip E (pc' := 18) rfl rfl (by decide) ?_
    obtain ⟨g41l, g41h, -⟩ := pw_obj (c := 24) I rfl
    refine pw_call (m' := 109) (As := [.ref 40, pw_i 41]) (rest := []) (ls'' := [some (.ref 40), some (pw_i 41)]) (Nat.le_trans (by decide) hd) E rfl (fun _ => pw_iV rfl rfl rfl rfl (pw_cellI g41h rfl)) (rfl : pm_ent 109 = some (2, 2, 9, 1, pmc_109)) rfl rfl (cm_109_24 (pw_dp hd (by decide)) I 41 (by decide) (by decide)) ?_
    rintro u41 w41 ⟨rfl, s2, rfl, hs2a, hs2b, hs2r⟩
    refine ⟨_, rfl, ?_⟩
    show pw X d h 50 21 [some (.ref 44), some (.ref 40), some (.ref 46), none, none] [pw_i s2] _
    change pw_g h 24 4 = 3 ∨ s2 = 0 at hs2r
    refine pw_if E (pc' := 30) rfl (by decide) (by omega) (by omega) ?_ ?_
    · intro hc2
      change s2 = (0 : Int) at hc2
      refine pw_ld E (pc' := 31) (st' := [.ref 40]) rfl (fun _ => rfl) ?_
      refine pw_call (m' := 55) (As := [.ref 40]) (rest := []) (ls'' := [some (.ref 40), none]) (Nat.le_trans (by decide) hd) E rfl (fun _ => pw_iS rfl rfl rfl) (rfl : pm_ent 55 = some (1, 2, 5, 0, pmc_55)) rfl rfl (cm_55_24 (pw_dp hd (by decide)) I hX) ?_
      rintro u3 w3 ⟨rfl, x, rfl, hxa, hxb, hxr, hxe⟩
      refine ⟨_, rfl, ?_⟩
      show pw X d h 50 34 [some (.ref 44), some (.ref 40), some (.ref 46), none, none] [pw_i x] _
      refine pw_istn E (pc' := 35) (ls' := [some (.ref 44), some (.ref 40), some (.ref 46), some (pw_i x), none]) rfl rfl rfl rfl ?_
      refine pw_ld E (pc' := 36) (st' := [pw_i x]) rfl (fun _ => rfl) ?_
      refine pw_ld E (pc' := 37) (st' := [pw_i (-1), pw_i x]) rfl (fun _ => rfl) ?_
      refine pw_if2 E (pc' := 42) rfl (by decide) (by omega) (by omega) (by decide) (by decide) ?_ ?_
      · intro hc3
        change x ≠ (-1 : Int) at hc3
        refine pw_ld E (pc' := 45) (st' := [.ref 3]) rfl (fun _ => rfl) ?_
        refine pw_ld E (pc' := 46) (st' := [pw_i x, .ref 3]) rfl (fun _ => rfl) ?_
        refine pw_xaldR E (pc' := 47) rfl hR (by omega) (by omega) rfl ?_
        refine pw_ist E (pc' := 49) (ls' := [some (.ref 44), some (.ref 40), some (.ref 46), some (pw_i x), some (pw_i (pw_rk x))]) rfl rfl rfl rfl ?_
        have r1 := pw_rk1 (x := x) (by omega) (by omega)
        have r4 := (pw_rk_le x).2
        refine pw_ld E (pc' := 51) (st' := [pw_i (pw_rk x)]) rfl (fun _ => rfl) ?_
        refine pw_ld E (pc' := 52) (st' := [pw_i 2, pw_i (pw_rk x)]) rfl (fun _ => rfl) ?_
        refine pw_if2 E (pc' := 71) rfl (by decide) (by omega) (by omega) (by decide) (by decide) ?_ ?_
        · intro _
          exact K71 h x I E0 P (by omega) (by omega) (by omega)
        · intro _
          refine pw_ld E (pc' := 56) (st' := [.ref 44]) rfl (fun _ => rfl) ?_
          refine pw_ld E (pc' := 57) (st' := [pw_i 3, .ref 44]) rfl (fun _ => rfl) ?_
          refine pw_ld E (pc' := 58) (st' := [.ref 46, pw_i 3, .ref 44]) rfl (fun _ => rfl) ?_
          obtain ⟨f1l, f1h, -⟩ := pw_obj (c := 28) I rfl
          refine pw_call (m' := 52) (As := [.ref 44, pw_i 3, .ref 46]) (rest := []) (ls'' := [some (.ref 44), some (pw_i 3), some (.ref 46)]) (Nat.le_trans (by decide) hd) E rfl (fun _ => pw_iV rfl rfl rfl rfl (pw_cellI f1h rfl)) (rfl : pm_ent 52 = some (3, 3, 5, 4, pmc_52)) rfl rfl (cm_52_28 (pw_dp hd (by decide)) hR 3 (by decide) (by decide) _ I rfl P.1) ?_
          rintro h1 v3 ⟨h1I, h1E, ⟨h1J, h1t, h1p, h1k⟩, rfl⟩
          refine ⟨_, rfl, ?_⟩
          show pw X d h1 50 61 [some (.ref 44), some (.ref 40), some (.ref 46), some (pw_i x), some (pw_i (pw_rk x))] [] _
          have h1F := E0.tr (h1E.wk (W' := [28, 29, 30, 33, 36]) (by first | rfl | simp))
          have P1 : pw_P 28 29 h1 T := ⟨by rw [h1k 5 (by decide), h1k 6 (by decide)]; exact h1J, by rw [h1k 6 (by decide)]; exact P.2.1, by have := P.2.2; omega⟩
          refine pw_ld E (pc' := 62) (st' := [.ref 44]) rfl (fun _ => rfl) ?_
          obtain ⟨f2l, f2h, -⟩ := pw_obj (c := 28) h1I rfl
          refine pw_call (m' := 53) (As := [.ref 44]) (rest := []) (ls'' := [some (.ref 44)]) (Nat.le_trans (by decide) hd) E rfl (fun _ => pw_iV rfl rfl rfl rfl (pw_cellI f2h rfl)) (rfl : pm_ent 53 = some (1, 1, 5, 0, pmc_53)) rfl rfl (cm_53_28 (pw_dp hd (by decide)) h1I hR) ?_
          rintro u4 w4 ⟨rfl, rfl⟩
          refine ⟨_, rfl, ?_⟩
          show pw X d h1 50 65 [some (.ref 44), some (.ref 40), some (.ref 46), some (pw_i x), some (pw_i (pw_rk x))] [pw_i (pw_tr 28 29 h1)] _
          have ht : 0 ≤ pw_tr 28 29 h1 ∧ pw_tr 28 29 h1 ≤ 4 := by
            unfold pw_tr
            split
            · omega
            · exact pw_rk_le _
          refine pw_ld E (pc' := 66) (st' := [pw_i 2, pw_i (pw_tr 28 29 h1)]) rfl (fun _ => rfl) ?_
          refine pw_if2 E (pc' := 71) rfl (by decide) (by omega) (by omega) (by decide) (by decide) ?_ ?_
          · intro _
            exact K71 h1 x h1I h1F P1 (by omega) (by omega) (by omega)
          · intro _
            refine pw_ld E (pc' := 70) (st' := [pw_i 1]) rfl (fun _ => rfl) ?_
            refine pw_iret E rfl ?_
            exact ⟨h1I, h1F, P1.wk (by omega), ⟨_, rfl, by omega, by omega, Or.inr rfl⟩⟩
      · intro _
        refine pw_ld E (pc' := 41) (st' := [pw_i 1]) rfl (fun _ => rfl) ?_
        refine pw_iret E rfl ?_
        exact ⟨I, E0, P.wk (by omega), ⟨_, rfl, by omega, by omega, Or.inr rfl⟩⟩
    · intro hc2
      change ¬ (s2 = (0 : Int)) at hc2
      refine pw_ld E (pc' := 25) (st' := [.ref 44]) rfl (fun _ => rfl) ?_
      refine pw_ld E (pc' := 26) (st' := [.ref 46, .ref 44]) rfl (fun _ => rfl) ?_
      obtain ⟨k54l, k54h, -⟩ := pw_obj (c := 28) I rfl
      refine pw_call (m' := 54) (As := [.ref 44, .ref 46]) (rest := []) (ls'' := [some (.ref 44), some (.ref 46)]) (Nat.le_trans (by decide) hd) E rfl (fun _ => pw_iV rfl rfl rfl rfl (pw_cellI k54h rfl)) (rfl : pm_ent 54 = some (2, 2, 5, 0, pmc_54)) rfl rfl (cm_54_28 (pw_dp hd (by decide)) I hR P) ?_
      rintro h1 v1 ⟨h1I, h1E, h1P, y, rfl, hya, hyb⟩
      refine ⟨_, rfl, ?_⟩
      show pw X d h1 50 29 [some (.ref 44), some (.ref 40), some (.ref 46), none, none] [pw_i y] _
      refine pw_iret E rfl ?_
      exact ⟨h1I, h1E, h1P.wk (by omega), ⟨_, rfl, by omega, by omega, Or.inl (by omega)⟩⟩
  · intro hc1
    change ¬ (s1 = (0 : Int)) at hc1
    refine pw_ld E (pc' := 10) (st' := [.ref 44]) rfl (fun _ => rfl) ?_
    refine pw_ld E (pc' := 11) (st' := [.ref 46, .ref 44]) rfl (fun _ => rfl) ?_
    obtain ⟨k51l, k51h, -⟩ := pw_obj (c := 28) I rfl
    refine pw_call (m' := 51) (As := [.ref 44, .ref 46]) (rest := []) (ls'' := [some (.ref 44), some (.ref 46)]) (Nat.le_trans (by decide) hd) E rfl (fun _ => pw_iV rfl rfl rfl rfl (pw_cellI k51h rfl)) (rfl : pm_ent 51 = some (2, 2, 5, 0, pmc_51)) rfl rfl (cm_51_28 (pw_dp hd (by decide)) I hR P) ?_
    rintro h1 v1 ⟨h1I, h1E, h1P, y, rfl, hya, hyb⟩
    refine ⟨_, rfl, ?_⟩
    show pw X d h1 50 14 [some (.ref 44), some (.ref 40), some (.ref 46), none, none] [pw_i y] _
    refine pw_iret E rfl ?_
    exact ⟨h1I, h1E, h1P.wk (by omega), ⟨_, rfl, by omega, by omega, Or.inl (by omega)⟩⟩
end
