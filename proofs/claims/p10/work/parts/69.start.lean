/-! the heap behind both constructors: the kernel runs them, and looks at the table -/
noncomputable def pw_isi (v : Value) : Bool := match v with
  | .int _ => true
  | _ => false
noncomputable def pw_vkb (h : pm_H) (sp : pw_F) (v : Value) : Bool := match v with
  | .int x => Nat.beq sp.1 0 && (decide (sp.2.1 ≤ x.toInt) && decide (x.toInt ≤ sp.2.2))
  | .long x => Nat.beq sp.1 1 || (Nat.beq sp.1 4 && (decide (sp.2.1 ≤ x.toInt) && (decide (x.toInt ≤ sp.2.2) && (decide (-4611686018427387904 ≤ sp.2.1) && decide (sp.2.2 ≤ 4611686018427387904)))))
  | .ref a => (Nat.beq sp.1 2 && Nat.beq a sp.2.1.toNat) || (Nat.beq sp.1 3 && (Nat.ble 16 a && (match pm_nth h (a - 16) with
    | some (.inl q) => Nat.beq q.1 0 && (Nat.ble (pm_len q.2) 1000 && pm_all pw_isi q.2)
    | _ => false)))
  | _ => false
noncomputable def pw_veb (t : Nat) (lo hi : Int) (j : Nat) (v : Value) : Bool := match v with
  | .int x => Nat.blt t 3 && (decide (lo ≤ x.toInt) && decide (x.toInt ≤ hi))
  | .long _ => Nat.beq t 3
  | .ref a => Nat.ble 5 t && Nat.beq a (lo + hi * j).toNat
  | _ => false
noncomputable def pw_veL (t : Nat) (lo hi : Int) (l : List Value) : Nat → Bool := List.rec (fun _ => true) (fun v _ ih j => cond (pw_veb t lo hi j v) (ih (j + 1)) false) l
noncomputable def pw_vkL (h : pm_H) (l : List Value) : List pw_F → Bool := List.rec (fun sps => List.rec true (fun _ _ _ => false) sps) (fun v _ ih sps => List.rec false (fun sp r _ => cond (pw_vkb h sp v) (ih r) false) sps) l
noncomputable def pw_okb (h : pm_H) (s : pw_S) (q : pm_C) : Bool := match s, q with
  | .inl z, .inl y => Nat.beq y.1 z.1 && (Nat.beq (pm_len y.2) z.2.1 && pw_veL z.1 z.2.2.1 z.2.2.2 y.2 0)
  | .inr z, .inr y => Nat.beq y.1 z.1 && pw_vkL h y.2 z.2
  | _, _ => false
noncomputable def pw_Tb (h : pm_H) (T : List pw_S) : List pm_C → Bool := List.rec (fun _ => true) (fun s _ ih l => List.rec false (fun q r _ => cond (pw_okb h s q) (ih r) false) l) T
noncomputable def pw_Ib (h : pm_H) : Bool := pw_Tb h pw_T h && pm_scH h
theorem pw_veL_ok {t : Nat} {lo hi : Int} : ∀ (l : List Value) (i : Nat), pw_veL t lo hi l i = true → ∀ (j : Nat) (v : Value), l[j]? = some v → pw_veb t lo hi (i + j) v = true
  | [], i, _, j, v, hv => by simp at hv
  | a :: l, i, h, j, v, hv => by
    have h : cond (pw_veb t lo hi i a) (pw_veL t lo hi l (i + 1)) false = true := h
    cases hb : pw_veb t lo hi i a with
    | false => rw [hb] at h; cases h
    | true =>
      rw [hb, cond_true] at h
      cases j with
      | zero => cases hv; exact hb
      | succ j =>
        have := pw_veL_ok l (i + 1) h j v (by simpa using hv)
        rw [show i + (j + 1) = i + 1 + j by omega]
        exact this
theorem pw_vkL_ok {h : pm_H} : ∀ (l : List Value) (sps : List pw_F), pw_vkL h l sps = true → l.length = sps.length ∧ ∀ (k : Nat) (sp : pw_F) (v : Value), sps[k]? = some sp → l[k]? = some v → pw_vkb h sp v = true
  | [], [], _ => ⟨rfl, fun k sp v h1 h2 => by simp at h2⟩
  | [], _ :: _, hr => by cases hr
  | _ :: _, [], hr => by cases hr
  | a :: l, sp0 :: sps, hr => by
    have hr : cond (pw_vkb h sp0 a) (pw_vkL h l sps) false = true := hr
    cases hb : pw_vkb h sp0 a with
    | false => rw [hb] at hr; cases hr
    | true =>
      rw [hb, cond_true] at hr
      obtain ⟨e1, e2⟩ := pw_vkL_ok l sps hr
      refine ⟨by simp [e1], fun k sp v h1 h2 => ?_⟩
      cases k with
      | zero => cases h1; cases h2; exact hb
      | succ k => exact e2 k sp v (by simpa using h1) (by simpa using h2)
theorem pw_isi_ok {v : Value} (h : pw_isi v = true) : ∃ x : Int32, v = .int x := by
  cases v with
  | int x => exact ⟨x, rfl⟩
  | _ => cases h
theorem pw_int_i (x : Int32) : Value.int x = pw_i x.toInt ∧ -2147483648 ≤ x.toInt ∧ x.toInt ≤ 2147483647 := by
  refine ⟨by unfold pw_i; rw [Int32.ofInt_toInt], by have := x.le_toInt; omega, by have := x.toInt_lt; omega⟩
theorem pw_vkb_ok {h : pm_H} {sp : pw_F} {v : Value} (hb : pw_vkb h sp v = true) : pw_vk h sp v := by
  obtain ⟨k, lo, hi⟩ := sp
  cases v with
  | int x =>
    have hb : (Nat.beq k 0 && (decide (lo ≤ x.toInt) && decide (x.toInt ≤ hi))) = true := hb
    rw [Bool.and_eq_true, Bool.and_eq_true, decide_eq_true_eq, decide_eq_true_eq] at hb
    have hk := Nat.eq_of_beq_eq_true hb.1
    subst hk
    obtain ⟨e1, e2, e3⟩ := pw_int_i x
    exact ⟨x.toInt, e1, hb.2.1, hb.2.2, e2, e3⟩
  | long x =>
    have hb : (Nat.beq k 1 || (Nat.beq k 4 && (decide (lo ≤ x.toInt) && (decide (x.toInt ≤ hi) && (decide (-4611686018427387904 ≤ lo) && decide (hi ≤ 4611686018427387904)))))) = true := hb
    rw [Bool.or_eq_true] at hb
    rcases hb with hb | hb
    · have hk := Nat.eq_of_beq_eq_true hb
      subst hk
      exact ⟨x, rfl⟩
    · simp only [Bool.and_eq_true, decide_eq_true_eq] at hb
      have hk := Nat.eq_of_beq_eq_true hb.1
      subst hk
      refine ⟨x.toInt, ?_, hb.2.1, hb.2.2.1, by omega, by omega⟩
      unfold pw_l
      rw [Int64.ofInt_toInt]
  | ref a =>
    have hc : ((Nat.beq k 2 && Nat.beq a lo.toNat) || (Nat.beq k 3 && (Nat.ble 16 a && (match pm_nth h (a - 16) with
      | some (.inl q) => Nat.beq q.1 0 && (Nat.ble (pm_len q.2) 1000 && pm_all pw_isi q.2)
      | _ => false)))) = true := hb
    clear hb
    rw [Bool.or_eq_true] at hc
    rcases hc with hb | hb
    · rw [Bool.and_eq_true] at hb
      have hk := Nat.eq_of_beq_eq_true hb.1
      subst hk
      show Value.ref a = .ref lo.toNat
      rw [Nat.eq_of_beq_eq_true hb.2]
    · rw [Bool.and_eq_true, Bool.and_eq_true] at hb
      obtain ⟨hk0, h16, hm⟩ := hb
      have hk := Nat.eq_of_beq_eq_true hk0
      subst hk
      have h16 := Nat.le_of_ble_eq_true h16
      split at hm
      · rename_i q hq
        rw [pm_nth_eq] at hq
        simp only [Bool.and_eq_true] at hm
        obtain ⟨b1, b2, b3⟩ := hm
        rw [pm_len_eq] at b2
        rw [pm_all_eq, List.all_eq_true] at b3
        obtain ⟨q1, q2⟩ := q
        have b1 : q1 = 0 := Nat.eq_of_beq_eq_true b1
        subst b1
        refine ⟨a - 16, q2, congrArg Value.ref (Nat.add_sub_cancel' (n := a) (m := 16) h16).symm, hq, Nat.le_of_ble_eq_true b2, fun j v hv => pw_isi_ok (b3 v (List.mem_of_getElem? hv))⟩
      · cases hm
  | _ => cases hb
theorem pw_veb_ok {t : Nat} {lo hi : Int} {j : Nat} {v : Value} (hb : pw_veb t lo hi j v = true) : pw_ve t lo hi j v := by
  cases v with
  | int x =>
    have hb : (Nat.blt t 3 && (decide (lo ≤ x.toInt) && decide (x.toInt ≤ hi))) = true := hb
    rw [Bool.and_eq_true, Bool.and_eq_true, decide_eq_true_eq, decide_eq_true_eq] at hb
    have ht := pm_blt hb.1
    obtain ⟨e1, e2, e3⟩ := pw_int_i x
    match t, ht with
    | 0, _ => exact ⟨x.toInt, e1, hb.2.1, hb.2.2, e2, e3⟩
    | 1, _ => exact ⟨x.toInt, e1, hb.2.1, hb.2.2, e2, e3⟩
    | 2, _ => exact ⟨x.toInt, e1, hb.2.1, hb.2.2, e2, e3⟩
  | long x =>
    have hb : Nat.beq t 3 = true := hb
    have ht := Nat.eq_of_beq_eq_true hb
    subst ht
    exact ⟨x, rfl⟩
  | ref a =>
    have hb : (Nat.ble 5 t && Nat.beq a (lo + hi * j).toNat) = true := hb
    rw [Bool.and_eq_true] at hb
    have ht := Nat.le_of_ble_eq_true hb.1
    have ha := Nat.eq_of_beq_eq_true hb.2
    obtain ⟨t, rfl⟩ : ∃ u, t = u + 5 := ⟨t - 5, by omega⟩
    show Value.ref a = .ref (lo + hi * j).toNat
    rw [ha]
  | _ => cases hb
theorem pw_okb_ok {h : pm_H} {s : pw_S} {q : pm_C} (hb : pw_okb h s q = true) : pw_ok h s q := by
  match s, q, hb with
  | .inl (t, n, lo, hi), .inl (t', l), hb =>
    have hb : (Nat.beq t' t && (Nat.beq (pm_len l) n && pw_veL t lo hi l 0)) = true := hb
    rw [Bool.and_eq_true, Bool.and_eq_true, pm_len_eq] at hb
    refine ⟨Nat.eq_of_beq_eq_true hb.1, Nat.eq_of_beq_eq_true hb.2.1, fun j v hv => pw_veb_ok ?_⟩
    have := pw_veL_ok l 0 hb.2.2 j v hv
    rw [Nat.zero_add] at this
    exact this
  | .inr (ci, sps), .inr (cj, fs), hb =>
    have hb : (Nat.beq cj ci && pw_vkL h fs sps) = true := hb
    rw [Bool.and_eq_true] at hb
    obtain ⟨e1, e2⟩ := pw_vkL_ok fs sps hb.2
    exact ⟨Nat.eq_of_beq_eq_true hb.1, e1, fun k sp v g1 g2 => pw_vkb_ok (e2 k sp v g1 g2)⟩
  | .inl _, .inr _, hb => cases hb
  | .inr _, .inl _, hb => cases hb
theorem pw_Tb_ok {h : pm_H} : ∀ (T : List pw_S) (l : List pm_C), pw_Tb h T l = true → ∀ (c : Nat) (s : pw_S), T[c]? = some s → ∃ q, l[c]? = some q ∧ pw_ok h s q
  | [], _, _, c, s, hs => by simp at hs
  | _ :: _, [], hb, _, _, _ => by cases hb
  | s0 :: T, q0 :: l, hb, c, s, hs => by
    have hb : cond (pw_okb h s0 q0) (pw_Tb h T l) false = true := hb
    cases hz : pw_okb h s0 q0 with
    | false => rw [hz] at hb; cases hb
    | true =>
      rw [hz, cond_true] at hb
      cases c with
      | zero => cases hs; exact ⟨q0, rfl, pw_okb_ok hz⟩
      | succ c =>
        obtain ⟨q, h1, h2⟩ := pw_Tb_ok T l hb c s (by simpa using hs)
        exact ⟨q, by simpa using h1, h2⟩
theorem pw_Ib_ok {h : pm_H} (hb : pw_Ib h = true) : pw_I h := by
  have hb : (pw_Tb h pw_T h && pm_scH h) = true := hb
  rw [Bool.and_eq_true] at hb
  exact ⟨fun c s hs => pw_Tb_ok pw_T h hb.1 c s hs, hb.2⟩
/-- what is there at the start, the script's place shut -/
def pw_X0 : List (Nat × List Value) := (99, []) :: (pm_ext []).tail
theorem pw_X0_le (xs : List Int32) : pm_leX pw_X0 (pm_ext xs) := by
  refine ⟨fun a ha => ?_, rfl⟩
  cases a with
  | zero => exact absurd rfl ha
  | succ a => rfl
theorem pw_Xk0 : ∀ xs, pw_Xk (pm_ext xs) := by
  intro xs
  have key : ∀ (l : List Value) (lo hi : Int), l.all (fun v => match v with
      | .int x => decide (lo ≤ x.toInt) && decide (x.toInt ≤ hi)
      | _ => false) = true → pw_xr l lo hi := by
    intro l lo hi hl j v hv
    have := List.all_eq_true.mp hl v (List.mem_of_getElem? hv)
    cases v with
    | int x =>
      rw [Bool.and_eq_true, decide_eq_true_eq, decide_eq_true_eq] at this
      exact ⟨x.toInt, (pw_int_i x).1, this.1, this.2⟩
    | _ => cases this
  have ints : ∀ l : List Value, l.all pw_isi = true → pw_ints l := fun l hl j v hv => pw_isi_ok (List.all_eq_true.mp hl v (List.mem_of_getElem? hv))
  refine ⟨⟨_, rfl, rfl, key _ _ _ (by decide +kernel)⟩, ⟨_, rfl, rfl, key _ _ _ (by decide +kernel)⟩, ⟨_, rfl, rfl, key _ _ _ (by decide +kernel)⟩, fun p h1 h2 => ?_⟩
  match p, h1, h2 with
  | 4, _, _ => exact ⟨_, rfl, by decide, ints _ (by decide +kernel)⟩
  | 5, _, _ => exact ⟨_, rfl, by decide, ints _ (by decide +kernel)⟩
  | 6, _, _ => exact ⟨_, rfl, by decide, ints _ (by decide +kernel)⟩
  | 7, _, _ => exact ⟨_, rfl, by decide, ints _ (by decide +kernel)⟩
  | 8, _, _ => exact ⟨_, rfl, by decide, ints _ (by decide +kernel)⟩
  | 9, _, _ => exact ⟨_, rfl, by decide, ints _ (by decide +kernel)⟩
  | 10, _, _ => exact ⟨_, rfl, by decide, ints _ (by decide +kernel)⟩
  | 11, _, _ => exact ⟨_, rfl, by decide, ints _ (by decide +kernel)⟩
  | p + 12, _, h2 => omega
noncomputable def pw_tpl (ci : Nat) : List Value := match pm_nth pw_X0 (16 + ci) with
  | some q => q.2
  | none => []
noncomputable def pw_st : Bool := match pm_x pw_X0 20000 49 [.inr (11, pw_tpl 11)] 118 0 (pm_lay [.ref 16] 2) [] with
  | some (h1, .inl none) => Nat.beq (pm_len h1) 125 && (match pm_x pw_X0 20000 49 (h1 ++ [.inr (12, pw_tpl 12)]) 200 0 (pm_lay [.ref 141] 2) [] with
    | some (h2, .inl none) => Nat.beq (pm_len h2) 169 && pw_Ib (h2 ++ [.inl (3, [.long 0])])
    | _ => false)
  | _ => false
set_option maxRecDepth 100000 in
theorem pw_st_ok : pw_st = true := by decide +kernel
