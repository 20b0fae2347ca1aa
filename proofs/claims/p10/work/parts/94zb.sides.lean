/-! the sides, exactly (printed by wip/tool/msides.py) -/
/-- how many of a side, and the sum of their changes -/
def pv_N (sd : Nat → Int) (s : Int) : Nat → Int
  | 0 => 0
  | k + 1 => pv_N sd s k + (if sd k = s then 1 else 0)
def pv_S (sd ch : Nat → Int) (s : Int) : Nat → Int
  | 0 => 0
  | k + 1 => pv_S sd ch s k + (if sd k = s then ch k else 0)
theorem pv_Ns {sd : Nat → Int} {s k : Int} (hk : 0 ≤ k) : (sd k.toNat = s → pv_N sd s (k + 1).toNat = pv_N sd s k.toNat + 1) ∧ (¬ (sd k.toNat = s) → pv_N sd s (k + 1).toNat = pv_N sd s k.toNat) := by
  rw [show (k + 1).toNat = k.toNat + 1 by omega]
  have e : pv_N sd s (k.toNat + 1) = pv_N sd s k.toNat + (if sd k.toNat = s then 1 else 0) := rfl
  rw [e]
  exact ⟨fun q => by rw [if_pos q], fun q => by rw [if_neg q]; omega⟩
theorem pv_Ss {sd ch : Nat → Int} {s k : Int} (hk : 0 ≤ k) : (sd k.toNat = s → pv_S sd ch s (k + 1).toNat = pv_S sd ch s k.toNat + ch k.toNat) ∧ (¬ (sd k.toNat = s) → pv_S sd ch s (k + 1).toNat = pv_S sd ch s k.toNat) := by
  rw [show (k + 1).toNat = k.toNat + 1 by omega]
  have e : pv_S sd ch s (k.toNat + 1) = pv_S sd ch s k.toNat + (if sd k.toNat = s then ch k.toNat else 0) := rfl
  rw [e]
  exact ⟨fun q => by rw [if_pos q], fun q => by rw [if_neg q]; omega⟩
theorem pv_NB {sd : Nat → Int} {s : Int} (n : Nat) : 0 ≤ pv_N sd s n ∧ pv_N sd s n ≤ n := by
  induction n with
  | zero => exact ⟨Int.le_refl _, Int.le_refl _⟩
  | succ n ih =>
    have e : pv_N sd s (n + 1) = pv_N sd s n + (if sd n = s then 1 else 0) := rfl
    rw [e]
    split <;> omega
theorem pv_SB {sd ch : Nat → Int} {s : Int} (n : Nat) (hb : ∀ k : Nat, k < n → sd k = s → -2000 ≤ ch k ∧ ch k ≤ 2000) : -2000 * (n : Int) ≤ pv_S sd ch s n ∧ pv_S sd ch s n ≤ 2000 * (n : Int) := by
  induction n with
  | zero => exact ⟨Int.le_refl _, Int.le_refl _⟩
  | succ n ih =>
    have e : pv_S sd ch s (n + 1) = pv_S sd ch s n + (if sd n = s then ch n else 0) := rfl
    have i := ih (fun k hk => hb k (by omega))
    have b := hb n (Nat.lt_succ_self n)
    rw [e]
    split
    · have := b (by assumption); omega
    · omega
theorem pv_cg {sd sd' ch ch' : Nat → Int} {s : Int} : ∀ n : Nat, (∀ k : Nat, k < n → sd k = sd' k ∧ (sd k = s → ch k = ch' k)) → pv_N sd s n = pv_N sd' s n ∧ pv_S sd ch s n = pv_S sd' ch' s n := by
  intro n
  induction n with
  | zero => intro _; exact ⟨rfl, rfl⟩
  | succ n ih =>
    intro H
    obtain ⟨i1, i2⟩ := ih (fun k hk => H k (Nat.lt_succ_of_lt hk))
    obtain ⟨h1, h2⟩ := H n (Nat.lt_succ_self n)
    refine ⟨?_, ?_⟩
    · show pv_N sd s n + (if sd n = s then 1 else 0) = pv_N sd' s n + (if sd' n = s then 1 else 0)
      rw [i1, h1]
    · show pv_S sd ch s n + (if sd n = s then ch n else 0) = pv_S sd' ch' s n + (if sd' n = s then ch' n else 0)
      rw [i2, ← h1]
      by_cases hq : sd n = s
      · rw [h2 hq]
      · rw [if_neg hq, if_neg hq]
theorem pv_stp0 {sd ch : Nat → Int} {k : Int} (hk : 0 ≤ k) (hs : sd k.toNat = 0) : pv_N sd 0 (k + 1).toNat = pv_N sd 0 k.toNat + 1 ∧ pv_N sd 1 (k + 1).toNat = pv_N sd 1 k.toNat ∧ pv_S sd ch 0 (k + 1).toNat = pv_S sd ch 0 k.toNat + ch k.toNat ∧ pv_S sd ch 1 (k + 1).toNat = pv_S sd ch 1 k.toNat := ⟨(pv_Ns hk).1 hs, (pv_Ns hk).2 (by omega), (pv_Ss hk).1 hs, (pv_Ss hk).2 (by omega)⟩
theorem pv_stp1 {sd ch : Nat → Int} {k : Int} (hk : 0 ≤ k) (hs : sd k.toNat = 1) : pv_N sd 0 (k + 1).toNat = pv_N sd 0 k.toNat ∧ pv_N sd 1 (k + 1).toNat = pv_N sd 1 k.toNat + 1 ∧ pv_S sd ch 0 (k + 1).toNat = pv_S sd ch 0 k.toNat ∧ pv_S sd ch 1 (k + 1).toNat = pv_S sd ch 1 k.toNat + ch k.toNat := ⟨(pv_Ns hk).2 (by omega), (pv_Ns hk).1 hs, (pv_Ss hk).2 (by omega), (pv_Ss hk).1 hs⟩
theorem pv_stpm {sd ch : Nat → Int} {k : Int} (hk : 0 ≤ k) (hs : sd k.toNat = -1) : pv_N sd 0 (k + 1).toNat = pv_N sd 0 k.toNat ∧ pv_N sd 1 (k + 1).toNat = pv_N sd 1 k.toNat ∧ pv_S sd ch 0 (k + 1).toNat = pv_S sd ch 0 k.toNat ∧ pv_S sd ch 1 (k + 1).toNat = pv_S sd ch 1 k.toNat := ⟨(pv_Ns hk).2 (by omega), (pv_Ns hk).2 (by omega), (pv_Ss hk).2 (by omega), (pv_Ss hk).2 (by omega)⟩
/-- the difference of the means, as a fraction -/
def pv_U (sd ch : Nat → Int) : Int := pv_S sd ch 0 24 * pv_N sd 1 24 - pv_S sd ch 1 24 * pv_N sd 0 24
def pv_D (sd : Nat → Int) : Int := pv_N sd 0 24 * pv_N sd 1 24
def pv_OK (sd : Nat → Int) : Prop := 1 ≤ pv_N sd 0 24 ∧ 1 ≤ pv_N sd 1 24
theorem pv_Ucg {sd sd' ch ch' : Nat → Int} (H : ∀ k : Nat, k < 24 → sd k = sd' k ∧ (sd k ≠ -1 → ch k = ch' k)) : pv_U sd ch = pv_U sd' ch' ∧ pv_D sd = pv_D sd' ∧ (pv_OK sd ↔ pv_OK sd') ∧ pv_N sd 0 24 = pv_N sd' 0 24 ∧ pv_N sd 1 24 = pv_N sd' 1 24 := by
  obtain ⟨a1, a2⟩ := pv_cg (sd := sd) (sd' := sd') (ch := ch) (ch' := ch') (s := 0) 24 (fun k hk => ⟨(H k hk).1, fun e => (H k hk).2 (by omega)⟩)
  obtain ⟨b1, b2⟩ := pv_cg (sd := sd) (sd' := sd') (ch := ch) (ch' := ch') (s := 1) 24 (fun k hk => ⟨(H k hk).1, fun e => (H k hk).2 (by omega)⟩)
  unfold pv_U pv_D pv_OK
  rw [a1, a2, b1, b2]
  exact ⟨rfl, rfl, Iff.rfl, rfl, rfl⟩
/-- the changes of those on a side are small -/
def pv_Bd (h : pm_H) : Prop := ∀ k : Nat, k < 24 → pw_g h 17 k ≠ -1 → -2000 ≤ pw_g h 18 k ∧ pw_g h 18 k ≤ 2000
/-- the sides are filled up to n -/
def pv_FL (g : pm_H) (sd ch : Nat → Int) (n : Int) : Prop := ∀ k : Nat, k < 24 → ((k : Int) < n → pw_g g 17 k = sd k ∧ (sd k ≠ -1 → pw_g g 18 k = ch k)) ∧ (n ≤ (k : Int) → pw_g g 17 k = -1)
theorem pv_FL.z {g : pm_H} {sd ch : Nat → Int} (H : ∀ j : Nat, j < 24 → pw_g g 17 j = -1) : pv_FL g sd ch 0 := fun k hk => ⟨fun q => absurd q (by omega), fun _ => H k hk⟩
theorem pv_FL.no {g : pm_H} {sd ch : Nat → Int} {n : Int} (H : pv_FL g sd ch n) (h0 : 0 ≤ n) (hs : sd n.toNat = -1) : pv_FL g sd ch (n + 1) := by
  intro k hk
  refine ⟨fun q => ?_, fun q => (H k hk).2 (by omega)⟩
  rcases (by omega : (k : Int) < n ∨ k = n.toNat) with e | e
  · exact (H k hk).1 e
  · have h1 := (H k hk).2 (by omega)
    rw [e] at h1 ⊢
    exact ⟨h1.trans hs.symm, fun z => absurd hs z⟩
theorem pv_FL.yes {g g' : pm_H} {sd ch : Nat → Int} {n s c : Int} (H : pv_FL g sd ch n) (h0 : 0 ≤ n) (u1 : pw_up g g' 17 n s) (u2 : pw_up g g' 18 n c) (hs : sd n.toNat = s) (hc : ch n.toNat = c) : pv_FL g' sd ch (n + 1) := by
  intro k hk
  rcases (by omega : k = n.toNat ∨ k ≠ n.toNat) with e | e
  · rw [e, u1.1, u2.1]
    exact ⟨fun _ => ⟨hs.symm, fun _ => hc.symm⟩, fun q => absurd q (by omega)⟩
  · rw [u1.2 k e, u2.2 k e]
    exact ⟨fun q => (H k hk).1 (by omega), fun q => (H k hk).2 (by omega)⟩
/-- one left out -/
def pv_lo (sd : Nat → Int) (wo : Int) (k : Nat) : Int := if (k : Int) = wo then -1 else sd k
theorem pv_lo_no {sd : Nat → Int} : pv_lo sd (-1) = sd := funext (fun k => if_neg (by omega))
theorem pv_FL.lo {g g' : pm_H} {sd ch : Nat → Int} {wo : Int} (H : pv_FL g sd ch 24) (h0 : 0 ≤ wo) (u1 : pw_up g g' 17 wo (-1)) (u2 : ∀ j : Nat, pw_g g' 18 j = pw_g g 18 j) : pv_FL g' (pv_lo sd wo) ch 24 := by
  intro k hk
  refine ⟨fun _ => ?_, fun q => absurd q (by omega)⟩
  unfold pv_lo
  rcases (by omega : k = wo.toNat ∨ k ≠ wo.toNat) with e | e
  · rw [if_pos (by omega), e, u1.1]
    exact ⟨rfl, fun z => absurd rfl z⟩
  · rw [if_neg (by omega), u1.2 k e, u2 k]
    exact (H k hk).1 (by omega)
theorem pv_FL.eq {g : pm_H} {sd ch : Nat → Int} (H : pv_FL g sd ch 24) : pv_U (pw_g g 17) (pw_g g 18) = pv_U sd ch ∧ pv_D (pw_g g 17) = pv_D sd ∧ (pv_OK (pw_g g 17) ↔ pv_OK sd) ∧ pv_N (pw_g g 17) 0 24 = pv_N sd 0 24 ∧ pv_N (pw_g g 17) 1 24 = pv_N sd 1 24 := pv_Ucg (fun k hk => by
  obtain ⟨a, b⟩ := (H k hk).1 (by omega)
  exact ⟨a, fun q => b (by rw [← a]; exact q)⟩)
theorem pv_FL.bd {g : pm_H} {sd ch : Nat → Int} (H : pv_FL g sd ch 24) (hb : ∀ k : Nat, k < 24 → -2000 ≤ ch k ∧ ch k ≤ 2000) : pv_Bd g := by
  intro k hk hn
  obtain ⟨a, b⟩ := (H k hk).1 (by omega)
  rw [b (by rw [← a]; exact hn)]
  exact hb k hk
theorem pv_fill {h : pm_H} {c n j : Nat} {b : Int} (hc : c < h.length) (hj : j < n) (h1 : -2147483648 ≤ b) (h2 : b ≤ 2147483647) : pw_g (h.set c (.inl (0, List.replicate n (pw_i b)))) c j = b := by
  unfold pw_g pw_at
  rw [List.getElem?_set_self hc]
  show pw_iv ((List.replicate n (pw_i b))[j]?) = b
  rw [List.getElem?_replicate, if_pos hj]
  exact pw_toInt h1 h2
theorem pv_cl {h : pm_H} {c : Nat} {s : pw_S} (I : pw_I h) (hs : pw_T[c]? = some s) : c < h.length := by
  obtain ⟨q, h1, -⟩ := I.1 c s hs
  exact (List.getElem?_eq_some_iff.mp h1).1
theorem pv_hcB {v t : Int} (h1 : v ≤ 9999) (h2 : 0 ≤ t) (h3 : t ≤ 10) : 0 ≤ pw_hc v t ∧ pw_hc v t ≤ 2000 := by
  unfold pw_hc
  have := pw_mulB (a := max 0 v % 100) (b := t) (A := 99) (B := 10) (by omega) (by omega) h2 h3
  omega
/-- the sides by calls, of the class -/
def pv_sdc (h : pm_H) (b e : Int) (k : Nat) : Int := if pw_g h 2 k = 1 ∧ pw_g h 11 ((k : Int) * 12 + b).toNat ≠ -2 ∧ pw_g h 11 ((k : Int) * 12 + e).toNat ≠ -2 then pw_g h 4 k else -1
def pv_chc (h : pm_H) (b e : Int) (k : Nat) : Int := pw_hc (pw_g h 11 ((k : Int) * 12 + e).toNat) (pw_g h 0 6) - pw_hc (pw_g h 11 ((k : Int) * 12 + b).toNat) (pw_g h 0 6)
theorem pv_sdcI {h : pm_H} {b e k : Int} (hk : 0 ≤ k) : ((pw_g h 2 k.toNat = 1 ∧ pw_g h 11 (k * 12 + b).toNat ≠ -2 ∧ pw_g h 11 (k * 12 + e).toNat ≠ -2) → pv_sdc h b e k.toNat = pw_g h 4 k.toNat) ∧ (¬ (pw_g h 2 k.toNat = 1 ∧ pw_g h 11 (k * 12 + b).toNat ≠ -2 ∧ pw_g h 11 (k * 12 + e).toNat ≠ -2) → pv_sdc h b e k.toNat = -1) := by
  unfold pv_sdc
  rw [show ((k.toNat : Nat) : Int) = k by omega]
  exact ⟨fun q => if_pos q, fun q => if_neg q⟩
theorem pv_chcI {h : pm_H} {b e k : Int} (hk : 0 ≤ k) : pv_chc h b e k.toNat = pw_hc (pw_g h 11 (k * 12 + e).toNat) (pw_g h 0 6) - pw_hc (pw_g h 11 (k * 12 + b).toNat) (pw_g h 0 6) := by
  unfold pv_chc
  rw [show ((k.toNat : Nat) : Int) = k by omega]
theorem pv_chcB {h : pm_H} {b e : Int} (I : pw_I h) (hb0 : 0 ≤ b) (hb1 : b ≤ 11) (he0 : 0 ≤ e) (he1 : e ≤ 11) : ∀ k : Nat, k < 24 → -2000 ≤ pv_chc h b e k ∧ pv_chc h b e k ≤ 2000 := by
  intro k hk
  unfold pv_chc
  have t := pw_gI (c := 0) (k := 6) I rfl rfl
  have v1 := pw_gA (c := 11) (j := (k : Int) * 12 + b) I rfl (by decide) (by omega) (by omega)
  have v2 := pw_gA (c := 11) (j := (k : Int) * 12 + e) I rfl (by decide) (by omega) (by omega)
  have w1 := pv_hcB (v := pw_g h 11 ((k : Int) * 12 + b).toNat) (t := pw_g h 0 6) (by omega) (by omega) (by omega)
  have w2 := pv_hcB (v := pw_g h 11 ((k : Int) * 12 + e).toNat) (t := pw_g h 0 6) (by omega) (by omega) (by omega)
  omega
/-- a part of a fraction in lowest terms -/
def pv_LW (U D wt : Int) : Int := if wt = 0 then Int.tdiv U (pw_gd U D) else Int.tdiv D (pw_gd U D)
theorem pv_LW0 {U D wt : Int} (h : wt = 0) : pv_LW U D wt = Int.tdiv U (pw_gd U D) := if_pos h
theorem pv_LW1 {U D wt : Int} (h : wt ≠ 0) : pv_LW U D wt = Int.tdiv D (pw_gd U D) := if_neg h

set_option maxHeartbeats 4000000 in
theorem cm_84_s {X : List (Nat × List Value)} {d : Nat} {h : pm_H} (hd : 1 ≤ d) (I : pw_I h) (sd : Int) (hsd1 : (-2147483648) ≤ sd) (hsd2 : sd ≤ 2147483647) : pw X d h 84 0 [some (.ref 32), some (pw_i sd), none, none] [] (fun h' v => h = h' ∧ ∃ a : Int, v = .inl (some (pw_i a)) ∧ 0 ≤ a ∧ a ≤ 24 ∧ (a = pv_N (pw_g h 17) sd 24)) := by
  have E : pm_ent 84 = some (2, 4, 8, 0, pmc_84) := rfl
  refine pw_ld E (pc' := 1) (st' := [pw_i 0]) rfl (fun _ => rfl) ?_
  refine pw_istn E (pc' := 2) (ls' := [some (.ref 32), some (pw_i sd), some (pw_i 0), none]) rfl rfl rfl rfl ?_
  refine pw_ld E (pc' := 3) (st' := [pw_i 0]) rfl (fun _ => rfl) ?_
  refine pw_istn E (pc' := 4) (ls' := [some (.ref 32), some (pw_i sd), some (pw_i 0), some (pw_i 0)]) rfl rfl rfl rfl ?_
  have L4 : ∀ (n4 : Nat) (k4_2 : Int) (k4_3 : Int), 0 ≤ k4_2 → k4_2 ≤ 24 → 0 ≤ k4_3 → k4_3 ≤ 24 → k4_2 ≤ k4_3 → k4_2 = pv_N (pw_g h 17) sd (k4_3).toNat → (24 - k4_3).toNat = n4 → pw X d h 84 4 [some (.ref 32), some (pw_i sd), some (pw_i k4_2), some (pw_i k4_3)] [] (fun h' v => h = h' ∧ ∃ a : Int, v = .inl (some (pw_i a)) ∧ 0 ≤ a ∧ a ≤ 24 ∧ (a = pv_N (pw_g h 17) sd 24)) := by
    intro n4
    induction n4 using Nat.strongRecOn with
    | ind n4 ih4 =>
      intro k4_2 k4_3 k4_2a k4_2b k4_3a k4_3b hx4_0 hx4_1 hm4
      refine pw_ld E (pc' := 5) (st' := [pw_i k4_3]) rfl (fun _ => rfl) ?_
      refine pw_bip E (pc' := 7) rfl rfl (by decide) ?_
      refine pw_if2 E (pc' := 34) rfl (by decide) (by omega) (by omega) (by decide) (by decide) ?_ ?_
      · intro hc1
        have hc1 : (24 : Int) ≤ k4_3 := hc1
        rw [show (k4_3).toNat = 24 by omega] at hx4_1
        refine pw_ld E (pc' := 35) (st' := [pw_i k4_2]) rfl (fun _ => rfl) ?_
        refine pw_iret E rfl ?_
        exact ⟨rfl, ⟨_, rfl, by omega, by omega, by omega⟩⟩
      · intro hc2
        have hc2 : ¬ ((24 : Int) ≤ k4_3) := hc2
        have o1 := pv_Ns (sd := pw_g h 17) (s := sd) (k := k4_3) (by omega)
        refine pw_ld E (pc' := 11) (st' := [pw_i k4_2]) rfl (fun _ => rfl) ?_
        refine pw_ld E (pc' := 12) (st' := [.ref 32, pw_i k4_2]) rfl (fun _ => rfl) ?_
        refine pw_getR (b := 33) I E (c := 16) (k := 0) (pc' := 15) rfl rfl rfl rfl rfl rfl rfl ?_
        refine pw_ld E (pc' := 16) (st' := [pw_i k4_3, .ref 33, pw_i k4_2]) rfl (fun _ => rfl) ?_
        refine pw_ald I E (c := 17) (pc' := 17) rfl rfl rfl (by decide) rfl (by decide) (by omega) (by omega) rfl (fun hf3a hf3b hf3c hf3d => ?_)
        refine pw_ld E (pc' := 18) (st' := [pw_i sd, pw_i (pw_g h 17 (k4_3.toNat)), pw_i k4_2]) rfl (fun _ => rfl) ?_
        refine pw_if2 E (pc' := 25) rfl (by decide) (by omega) (by omega) (by omega) (by omega) ?_ ?_
        · intro hc4
          have hc4 : pw_g h 17 (k4_3.toNat) ≠ sd := hc4
          refine pw_ld E (pc' := 26) (st' := [pw_i 0, pw_i k4_2]) rfl (fun _ => rfl) ?_
          refine pw_add E (pc' := 27) rfl rfl ?_
          refine pw_istn E (pc' := 28) (ls' := [some (.ref 32), some (pw_i sd), some (pw_i (k4_2 + 0)), some (pw_i k4_3)]) rfl rfl rfl rfl ?_
          refine pw_inc E (pc' := 31) (ls' := [some (.ref 32), some (pw_i sd), some (pw_i (k4_2 + 0)), some (pw_i (k4_3 + 1))]) rfl rfl rfl rfl ?_
          refine pw_goto E (pc' := 4) rfl (by decide) ?_
          exact ih4 _ (by omega) (k4_2 + 0) (k4_3 + 1)  (by omega) (by omega) (by omega) (by omega) (by omega) (by omega) rfl
        · intro hc5
          have hc5 : ¬ (pw_g h 17 (k4_3.toNat) ≠ sd) := hc5
          refine pw_ld E (pc' := 22) (st' := [pw_i 1, pw_i k4_2]) rfl (fun _ => rfl) ?_
          refine pw_goto E (pc' := 26) rfl (by decide) ?_
          refine pw_add E (pc' := 27) rfl rfl ?_
          refine pw_istn E (pc' := 28) (ls' := [some (.ref 32), some (pw_i sd), some (pw_i (k4_2 + 1)), some (pw_i k4_3)]) rfl rfl rfl rfl ?_
          refine pw_inc E (pc' := 31) (ls' := [some (.ref 32), some (pw_i sd), some (pw_i (k4_2 + 1)), some (pw_i (k4_3 + 1))]) rfl rfl rfl rfl ?_
          refine pw_goto E (pc' := 4) rfl (by decide) ?_
          exact ih4 _ (by omega) (k4_2 + 1) (k4_3 + 1)  (by omega) (by omega) (by omega) (by omega) (by omega) (by omega) rfl
  exact L4 _ (0) (0)  (by omega) (by omega) (by omega) (by omega) (by omega) rfl rfl
set_option maxHeartbeats 4000000 in
theorem cm_85_s {X : List (Nat × List Value)} {d : Nat} {h : pm_H} (hd : 1 ≤ d) (I : pw_I h) (sd : Int) (hsd1 : 0 ≤ sd) (hsd2 : sd ≤ 1) (hp0 : pv_Bd h) : pw X d h 85 0 [some (.ref 32), some (pw_i sd), none, none] [] (fun h' v => h = h' ∧ ∃ a : Int, v = .inl (some (pw_i a)) ∧ (-48000) ≤ a ∧ a ≤ 48000 ∧ (a = pv_S (pw_g h 17) (pw_g h 18) sd 24)) := by
  have E : pm_ent 85 = some (2, 4, 8, 0, pmc_85) := rfl
  refine pw_ld E (pc' := 1) (st' := [pw_i 0]) rfl (fun _ => rfl) ?_
  refine pw_istn E (pc' := 2) (ls' := [some (.ref 32), some (pw_i sd), some (pw_i 0), none]) rfl rfl rfl rfl ?_
  refine pw_ld E (pc' := 3) (st' := [pw_i 0]) rfl (fun _ => rfl) ?_
  refine pw_istn E (pc' := 4) (ls' := [some (.ref 32), some (pw_i sd), some (pw_i 0), some (pw_i 0)]) rfl rfl rfl rfl ?_
  have L4 : ∀ (n4 : Nat) (k4_2 : Int) (k4_3 : Int), (-48000) ≤ k4_2 → k4_2 ≤ 48000 → 0 ≤ k4_3 → k4_3 ≤ 24 → (-2000) * k4_3 ≤ k4_2 → k4_2 ≤ 2000 * k4_3 → k4_2 = pv_S (pw_g h 17) (pw_g h 18) sd (k4_3).toNat → (24 - k4_3).toNat = n4 → pw X d h 85 4 [some (.ref 32), some (pw_i sd), some (pw_i k4_2), some (pw_i k4_3)] [] (fun h' v => h = h' ∧ ∃ a : Int, v = .inl (some (pw_i a)) ∧ (-48000) ≤ a ∧ a ≤ 48000 ∧ (a = pv_S (pw_g h 17) (pw_g h 18) sd 24)) := by
    intro n4
    induction n4 using Nat.strongRecOn with
    | ind n4 ih4 =>
      intro k4_2 k4_3 k4_2a k4_2b k4_3a k4_3b hx4_0 hx4_1 hx4_2 hm4
      refine pw_ld E (pc' := 5) (st' := [pw_i k4_3]) rfl (fun _ => rfl) ?_
      refine pw_bip E (pc' := 7) rfl rfl (by decide) ?_
      refine pw_if2 E (pc' := 39) rfl (by decide) (by omega) (by omega) (by decide) (by decide) ?_ ?_
      · intro hc1
        have hc1 : (24 : Int) ≤ k4_3 := hc1
        rw [show (k4_3).toNat = 24 by omega] at hx4_2
        refine pw_ld E (pc' := 40) (st' := [pw_i k4_2]) rfl (fun _ => rfl) ?_
        refine pw_iret E rfl ?_
        exact ⟨rfl, ⟨_, rfl, by omega, by omega, by omega⟩⟩
      · intro hc2
        have hc2 : ¬ ((24 : Int) ≤ k4_3) := hc2
        have o1 := pv_Ss (sd := pw_g h 17) (ch := pw_g h 18) (s := sd) (k := k4_3) (by omega)
        refine pw_ld E (pc' := 11) (st' := [pw_i k4_2]) rfl (fun _ => rfl) ?_
        refine pw_ld E (pc' := 12) (st' := [.ref 32, pw_i k4_2]) rfl (fun _ => rfl) ?_
        refine pw_getR (b := 33) I E (c := 16) (k := 0) (pc' := 15) rfl rfl rfl rfl rfl rfl rfl ?_
        refine pw_ld E (pc' := 16) (st' := [pw_i k4_3, .ref 33, pw_i k4_2]) rfl (fun _ => rfl) ?_
        refine pw_ald I E (c := 17) (pc' := 17) rfl rfl rfl (by decide) rfl (by decide) (by omega) (by omega) rfl (fun hf3a hf3b hf3c hf3d => ?_)
        refine pw_ld E (pc' := 18) (st' := [pw_i sd, pw_i (pw_g h 17 (k4_3.toNat)), pw_i k4_2]) rfl (fun _ => rfl) ?_
        refine pw_if2 E (pc' := 30) rfl (by decide) (by omega) (by omega) (by omega) (by omega) ?_ ?_
        · intro hc4
          have hc4 : pw_g h 17 (k4_3.toNat) ≠ sd := hc4
          refine pw_ld E (pc' := 31) (st' := [pw_i 0, pw_i k4_2]) rfl (fun _ => rfl) ?_
          refine pw_add E (pc' := 32) rfl rfl ?_
          refine pw_istn E (pc' := 33) (ls' := [some (.ref 32), some (pw_i sd), some (pw_i (k4_2 + 0)), some (pw_i k4_3)]) rfl rfl rfl rfl ?_
          refine pw_inc E (pc' := 36) (ls' := [some (.ref 32), some (pw_i sd), some (pw_i (k4_2 + 0)), some (pw_i (k4_3 + 1))]) rfl rfl rfl rfl ?_
          refine pw_goto E (pc' := 4) rfl (by decide) ?_
          exact ih4 _ (by omega) (k4_2 + 0) (k4_3 + 1)  (by omega) (by omega) (by omega) (by omega) (by omega) (by omega) (by omega) rfl
        · intro hc5
          have hc5 : ¬ (pw_g h 17 (k4_3.toNat) ≠ sd) := hc5
          have o2 := hp0 (k4_3).toNat (by omega) (by omega)
          refine pw_ld E (pc' := 22) (st' := [.ref 32, pw_i k4_2]) rfl (fun _ => rfl) ?_
          refine pw_getR (b := 34) I E (c := 16) (k := 1) (pc' := 25) rfl rfl rfl rfl rfl rfl rfl ?_
          refine pw_ld E (pc' := 26) (st' := [pw_i k4_3, .ref 34, pw_i k4_2]) rfl (fun _ => rfl) ?_
          refine pw_ald I E (c := 18) (pc' := 27) rfl rfl rfl (by decide) rfl (by decide) (by omega) (by omega) rfl (fun hf6a hf6b hf6c hf6d => ?_)
          refine pw_goto E (pc' := 31) rfl (by decide) ?_
          refine pw_add E (pc' := 32) rfl rfl ?_
          refine pw_istn E (pc' := 33) (ls' := [some (.ref 32), some (pw_i sd), some (pw_i (k4_2 + (pw_g h 18 (k4_3.toNat)))), some (pw_i k4_3)]) rfl rfl rfl rfl ?_
          refine pw_inc E (pc' := 36) (ls' := [some (.ref 32), some (pw_i sd), some (pw_i (k4_2 + (pw_g h 18 (k4_3.toNat)))), some (pw_i (k4_3 + 1))]) rfl rfl rfl rfl ?_
          refine pw_goto E (pc' := 4) rfl (by decide) ?_
          exact ih4 _ (by omega) (k4_2 + (pw_g h 18 (k4_3.toNat))) (k4_3 + 1)  (by omega) (by omega) (by omega) (by omega) (by omega) (by omega) (by omega) rfl
  exact L4 _ (0) (0)  (by omega) (by omega) (by omega) (by omega) (by omega) (by omega) rfl rfl
set_option maxHeartbeats 4000000 in
theorem cm_81_s {X : List (Nat × List Value)} {d : Nat} {h : pm_H} (hd : 1 ≤ d) (I : pw_I h)  : pw X d h 81 0 [some (.ref 32)] [] (fun h' v => pw_I h' ∧ pw_E [17] h h' ∧ (∀ j : Nat, j < 24 → pw_g h' 17 j = -1) ∧ (v = .inl none)) := by
  have E : pm_ent 81 = some (1, 1, 8, 4, pmc_81) := rfl
  have E0 : pw_E [17] h h := pw_E.rf _ _
  refine pw_ld E (pc' := 1) (st' := [.ref 32]) rfl (fun _ => rfl) ?_
  refine pw_getR (b := 33) I E (c := 16) (k := 0) (pc' := 4) rfl rfl rfl rfl rfl rfl rfl ?_
  refine pw_ld E (pc' := 5) (st' := [pw_i ((-1)), .ref 33]) rfl (fun _ => rfl) ?_
  refine pw_fill I E (c := 17) rfl rfl rfl (by decide) (by omega) (by omega) (by omega) (by omega) rfl rfl ?_
  intro h1I h1E
  generalize hfl : h.set 17 (.inl (0, List.replicate 24 (pw_i ((-1))))) = h1 at h1I h1E ⊢
  have h1F := E0.tr (h1E.wk (W' := [17]) (by first | rfl | simp))
  refine pw_vret E rfl ?_
  exact ⟨h1I, h1F, (fun j hj => by rw [← hfl]; exact pv_fill (pv_cl I (c := 17) rfl) hj (by decide) (by decide)), rfl⟩
set_option maxHeartbeats 4000000 in
theorem cm_82_s {X : List (Nat × List Value)} {d : Nat} {h : pm_H} (hd : 1 ≤ d) (I : pw_I h) (k : Int) (hk1 : 0 ≤ k) (hk2 : k ≤ 23) (sd : Int) (hsd1 : (-1) ≤ sd) (hsd2 : sd ≤ 1) (ch : Int) (hch1 : (-2147483648) ≤ ch) (hch2 : ch ≤ 2147483647) : pw X d h 82 0 [some (.ref 32), some (pw_i k), some (pw_i sd), some (pw_i ch)] [] (fun h' v => pw_I h' ∧ pw_E [17, 18] h h' ∧ (pw_up h h' 17 (k) (sd) ∧ pw_up h h' 18 (k) (ch)) ∧ (v = .inl none)) := by
  have E : pm_ent 82 = some (4, 4, 8, 4, pmc_82) := rfl
  have E0 : pw_E [17, 18] h h := pw_E.rf _ _
  refine pw_ld E (pc' := 1) (st' := [.ref 32]) rfl (fun _ => rfl) ?_
  refine pw_getR (b := 33) I E (c := 16) (k := 0) (pc' := 4) rfl rfl rfl rfl rfl rfl rfl ?_
  refine pw_ld E (pc' := 5) (st' := [pw_i k, .ref 33]) rfl (fun _ => rfl) ?_
  refine pw_ld E (pc' := 6) (st' := [pw_i sd, pw_i k, .ref 33]) rfl (fun _ => rfl) ?_
  refine pw_ast0 I E (c := 17) (pc' := 7) rfl rfl rfl (by decide) rfl (by decide) (by omega) (by omega) rfl (by omega) (by omega) (by omega) (by omega) rfl ?_
  intro h1I h1E
  generalize h1w : pw_w h 17 (k.toNat) (pw_i sd) = h1 at h1I h1E ⊢
  have h1F := E0.tr (h1E.wk (W' := [17, 18]) (by first | rfl | simp))
  refine pw_ld E (pc' := 8) (st' := [.ref 32]) rfl (fun _ => rfl) ?_
  refine pw_getR (b := 34) h1I E (c := 16) (k := 1) (pc' := 11) rfl rfl rfl rfl rfl rfl rfl ?_
  refine pw_ld E (pc' := 12) (st' := [pw_i k, .ref 34]) rfl (fun _ => rfl) ?_
  refine pw_ld E (pc' := 13) (st' := [pw_i ch, pw_i k, .ref 34]) rfl (fun _ => rfl) ?_
  refine pw_ast0 h1I E (c := 18) (pc' := 14) rfl rfl rfl (by decide) rfl (by decide) (by omega) (by omega) rfl (by omega) (by omega) (by omega) (by omega) rfl ?_
  intro h2I h2E
  generalize h2w : pw_w h1 18 (k.toNat) (pw_i ch) = h2 at h2I h2E ⊢
  have h2F := h1F.tr (h2E.wk (W' := [17, 18]) (by first | rfl | simp))
  refine pw_vret E rfl ?_
  have hl4 : ∀ j : Nat, pw_g h2 17 j = pw_g h1 17 j := fun j => (by rw [← h2w]; exact pw_g_ne (by omega) : pw_g h2 17 j = pw_g h1 17 j)
  have hl5 : ∀ j : Nat, pw_g h 17 j = pw_g h 17 j := fun j => rfl
  have hu3a : pw_g h1 17 (k.toNat) = sd := by rw [← h1w]; exact pw_g_eqA I rfl (by omega) (by omega) (by omega)
  have hu3b : ∀ j : Nat, j ≠ k.toNat → pw_g h1 17 j = pw_g h 17 j := fun j hj => by rw [← h1w]; exact pw_g_ne (fun q => hj q.2.symm)
  have hl7 : ∀ j : Nat, pw_g h2 18 j = pw_g h2 18 j := fun j => rfl
  have hl8 : ∀ j : Nat, pw_g h1 18 j = pw_g h 18 j := fun j => (by rw [← h1w]; exact pw_g_ne (by omega) : pw_g h1 18 j = pw_g h 18 j)
  have hu6a : pw_g h2 18 (k.toNat) = ch := by rw [← h2w]; exact pw_g_eqA h1I rfl (by omega) (by omega) (by omega)
  have hu6b : ∀ j : Nat, j ≠ k.toNat → pw_g h2 18 j = pw_g h1 18 j := fun j hj => by rw [← h2w]; exact pw_g_ne (fun q => hj q.2.symm)
  exact ⟨h2I, h2F, ⟨⟨(hl4 _).trans hu3a, fun j hj => (hl4 j).trans ((hu3b j hj).trans (hl5 j))⟩, ⟨(hl7 _).trans hu6a, fun j hj => (hl7 j).trans ((hu6b j hj).trans (hl8 j))⟩⟩, rfl⟩
set_option maxHeartbeats 4000000 in
theorem cm_93_s {X : List (Nat × List Value)} {d : Nat} {h : pm_H} (hd : 1 ≤ d) (I : pw_I h) (k : Int) (hk1 : 0 ≤ k) (hk2 : k ≤ 23) : pw X d h 93 0 [some (.ref 32), some (pw_i k)] [] (fun h' v => pw_I h' ∧ pw_E [17] h h' ∧ (pw_up h h' 17 (k) (-1)) ∧ (v = .inl none)) := by
  have E : pm_ent 93 = some (2, 2, 8, 4, pmc_93) := rfl
  have E0 : pw_E [17] h h := pw_E.rf _ _
  refine pw_ld E (pc' := 1) (st' := [.ref 32]) rfl (fun _ => rfl) ?_
  refine pw_getR (b := 33) I E (c := 16) (k := 0) (pc' := 4) rfl rfl rfl rfl rfl rfl rfl ?_
  refine pw_ld E (pc' := 5) (st' := [pw_i k, .ref 33]) rfl (fun _ => rfl) ?_
  refine pw_ld E (pc' := 6) (st' := [pw_i ((-1)), pw_i k, .ref 33]) rfl (fun _ => rfl) ?_
  refine pw_ast0 I E (c := 17) (pc' := 7) rfl rfl rfl (by decide) rfl (by decide) (by omega) (by omega) rfl (by omega) (by omega) (by omega) (by omega) rfl ?_
  intro h1I h1E
  generalize h1w : pw_w h 17 (k.toNat) (pw_i ((-1))) = h1 at h1I h1E ⊢
  have h1F := E0.tr (h1E.wk (W' := [17]) (by first | rfl | simp))
  refine pw_vret E rfl ?_
  have hl3 : ∀ j : Nat, pw_g h1 17 j = pw_g h1 17 j := fun j => rfl
  have hl4 : ∀ j : Nat, pw_g h 17 j = pw_g h 17 j := fun j => rfl
  have hu2a : pw_g h1 17 (k.toNat) = (-1) := by rw [← h1w]; exact pw_g_eqA I rfl (by omega) (by omega) (by omega)
  have hu2b : ∀ j : Nat, j ≠ k.toNat → pw_g h1 17 j = pw_g h 17 j := fun j hj => by rw [← h1w]; exact pw_g_ne (fun q => hj q.2.symm)
  exact ⟨h1I, h1F, ⟨(hl3 _).trans hu2a, fun j hj => (hl3 j).trans ((hu2b j hj).trans (hl4 j))⟩, rfl⟩
set_option maxHeartbeats 4000000 in
theorem cm_83_22s {X : List (Nat × List Value)} {d : Nat} {h : pm_H} (hd : 3 ≤ d) (I : pw_I h) (hp0 : pv_Bd h) : pw X d h 83 0 [some (.ref 32), some (.ref 38), none, none, none, none] [] (fun h' v => pw_I h' ∧ pw_E [22] h h' ∧ ∃ a : Int, v = .inl (some (pw_i a)) ∧ 0 ≤ a ∧ a ≤ 1 ∧ ((a = 0 ∧ ¬ pv_OK (pw_g h 17)) ∨ (a = 1 ∧ pv_OK (pw_g h 17) ∧ pw_gm h' 22 0 = Int.tdiv (pv_U (pw_g h 17) (pw_g h 18)) (pw_gd (pv_U (pw_g h 17) (pw_g h 18)) (pv_D (pw_g h 17))) ∧ pw_gm h' 22 1 = Int.tdiv (pv_D (pw_g h 17)) (pw_gd (pv_U (pw_g h 17) (pw_g h 18)) (pv_D (pw_g h 17)))))) := by
  have E : pm_ent 83 = some (2, 6, 8, 1, pmc_83) := rfl
  have E0 : pw_E [22] h h := pw_E.rf _ _
  have hB := hp0
  refine pw_ld E (pc' := 1) (st' := [.ref 32]) rfl (fun _ => rfl) ?_
  refine pw_ld E (pc' := 2) (st' := [pw_i 0, .ref 32]) rfl (fun _ => rfl) ?_
  obtain ⟨f1l, f1h, -⟩ := pw_obj (c := 16) I rfl
  refine pw_call (m' := 84) (As := [.ref 32, pw_i 0]) (rest := []) (ls'' := [some (.ref 32), some (pw_i 0), none, none]) (by omega) E rfl (fun _ => pw_iV rfl rfl rfl rfl (pw_cellI f1h rfl)) (rfl : pm_ent 84 = some (2, 4, 8, 0, pmc_84)) rfl rfl (cm_84_s (by omega) I (0) (by omega) (by omega)) ?_
  rintro u3 v2 ⟨rfl, x4, rfl, hx4a, hx4b, hx4r⟩
  refine ⟨_, rfl, ?_⟩
  show pw X d h 83 5 [some (.ref 32), some (.ref 38), none, none, none, none] [pw_i x4] _
  have hx4r : x4 = pv_N (pw_g h 17) 0 24 := hx4r
  refine pw_i2l E (pc' := 6) rfl rfl (by omega) (by omega) ?_
  refine pw_lstn E (pc' := 7) (ls' := [some (.ref 32), some (.ref 38), some (.long (Int64.ofInt x4)), none, none, none]) rfl rfl rfl rfl ?_
  refine pw_ld E (pc' := 8) (st' := [.ref 32]) rfl (fun _ => rfl) ?_
  refine pw_ld E (pc' := 9) (st' := [pw_i 1, .ref 32]) rfl (fun _ => rfl) ?_
  obtain ⟨f5l, f5h, -⟩ := pw_obj (c := 16) I rfl
  refine pw_call (m' := 84) (As := [.ref 32, pw_i 1]) (rest := []) (ls'' := [some (.ref 32), some (pw_i 1), none, none]) (by omega) E rfl (fun _ => pw_iV rfl rfl rfl rfl (pw_cellI f5h rfl)) (rfl : pm_ent 84 = some (2, 4, 8, 0, pmc_84)) rfl rfl (cm_84_s (by omega) I (1) (by omega) (by omega)) ?_
  rintro u7 v6 ⟨rfl, x8, rfl, hx8a, hx8b, hx8r⟩
  refine ⟨_, rfl, ?_⟩
  show pw X d h 83 12 [some (.ref 32), some (.ref 38), some (.long (Int64.ofInt x4)), none, none, none] [pw_i x8] _
  have hx8r : x8 = pv_N (pw_g h 17) 1 24 := hx8r
  refine pw_i2l E (pc' := 13) rfl rfl (by omega) (by omega) ?_
  refine pw_lst E (pc' := 15) (ls' := [some (.ref 32), some (.ref 38), some (.long (Int64.ofInt x4)), none, some (.long (Int64.ofInt x8)), none]) rfl rfl rfl rfl ?_
  refine pw_ld E (pc' := 16) (st' := [.long (Int64.ofInt x4)]) rfl (fun _ => rfl) ?_
  refine pw_ld E (pc' := 17) (st' := [.long (Int64.ofInt 0), .long (Int64.ofInt x4)]) rfl (fun _ => rfl) ?_
  refine pw_lcmpC E (pc' := 18) rfl rfl (by omega) (by omega) (by omega) (by omega) (fun c9 hc9 => ?_)
  refine pw_if E (pc' := 28) rfl (by decide) (by omega) (by omega) ?_ ?_
  · intro hc10
    have hc10 : c9 = (0 : Int) := hc10
    refine pw_ld E (pc' := 29) (st' := [pw_i 0]) rfl (fun _ => rfl) ?_
    refine pw_zret E rfl (by omega) ?_
    exact ⟨I, E0, ⟨_, rfl, by omega, by omega, Or.inl ⟨rfl, fun q => by have q1 := q.1; have q2 := q.2; omega⟩⟩⟩
  · intro hc11
    have hc11 : ¬ (c9 = (0 : Int)) := hc11
    refine pw_ld E (pc' := 23) (st' := [.long (Int64.ofInt x8)]) rfl (fun _ => rfl) ?_
    refine pw_ld E (pc' := 24) (st' := [.long (Int64.ofInt 0), .long (Int64.ofInt x8)]) rfl (fun _ => rfl) ?_
    refine pw_lcmpC E (pc' := 25) rfl rfl (by omega) (by omega) (by omega) (by omega) (fun c12 hc12 => ?_)
    refine pw_if E (pc' := 30) rfl (by decide) (by omega) (by omega) ?_ ?_
    · intro hc13
      have hc13 : c12 ≠ (0 : Int) := hc13
      refine pw_ld E (pc' := 31) (st' := [.ref 38]) rfl (fun _ => rfl) ?_
      refine pw_ld E (pc' := 32) (st' := [.ref 32, .ref 38]) rfl (fun _ => rfl) ?_
      refine pw_ld E (pc' := 33) (st' := [pw_i 0, .ref 32, .ref 38]) rfl (fun _ => rfl) ?_
      obtain ⟨f14l, f14h, -⟩ := pw_obj (c := 16) I rfl
      refine pw_call (m' := 85) (As := [.ref 32, pw_i 0]) (rest := [.ref 38]) (ls'' := [some (.ref 32), some (pw_i 0), none, none]) (by omega) E rfl (fun _ => pw_iV rfl rfl rfl rfl (pw_cellI f14h rfl)) (rfl : pm_ent 85 = some (2, 4, 8, 0, pmc_85)) rfl rfl (cm_85_s (by omega) I (0) (by omega) (by omega) hB) ?_
      rintro u16 v15 ⟨rfl, x17, rfl, hx17a, hx17b, hx17r⟩
      refine ⟨_, rfl, ?_⟩
      show pw X d h 83 36 [some (.ref 32), some (.ref 38), some (.long (Int64.ofInt x4)), none, some (.long (Int64.ofInt x8)), none] [pw_i x17, .ref 38] _
      have hx17r : x17 = pv_S (pw_g h 17) (pw_g h 18) 0 24 := hx17r
      refine pw_i2l E (pc' := 37) rfl rfl (by omega) (by omega) ?_
      refine pw_ld E (pc' := 39) (st' := [.long (Int64.ofInt x8), .long (Int64.ofInt x17), .ref 38]) rfl (fun _ => rfl) ?_
      have hm18 := pw_mulS (a := x17) (b := x8) (A := 48000) (B := 24) (by omega) (by omega) (by omega) (by omega)
      refine pw_lmul E (pc' := 40) rfl rfl ?_
      refine pw_ld E (pc' := 41) (st' := [.ref 32, .long (Int64.ofInt (x17 * x8)), .ref 38]) rfl (fun _ => rfl) ?_
      refine pw_ld E (pc' := 42) (st' := [pw_i 1, .ref 32, .long (Int64.ofInt (x17 * x8)), .ref 38]) rfl (fun _ => rfl) ?_
      obtain ⟨f19l, f19h, -⟩ := pw_obj (c := 16) I rfl
      refine pw_call (m' := 85) (As := [.ref 32, pw_i 1]) (rest := [.long (Int64.ofInt (x17 * x8)), .ref 38]) (ls'' := [some (.ref 32), some (pw_i 1), none, none]) (by omega) E rfl (fun _ => pw_iV rfl rfl rfl rfl (pw_cellI f19h rfl)) (rfl : pm_ent 85 = some (2, 4, 8, 0, pmc_85)) rfl rfl (cm_85_s (by omega) I (1) (by omega) (by omega) hB) ?_
      rintro u21 v20 ⟨rfl, x22, rfl, hx22a, hx22b, hx22r⟩
      refine ⟨_, rfl, ?_⟩
      show pw X d h 83 45 [some (.ref 32), some (.ref 38), some (.long (Int64.ofInt x4)), none, some (.long (Int64.ofInt x8)), none] [pw_i x22, .long (Int64.ofInt (x17 * x8)), .ref 38] _
      have hx22r : x22 = pv_S (pw_g h 17) (pw_g h 18) 1 24 := hx22r
      refine pw_i2l E (pc' := 46) rfl rfl (by omega) (by omega) ?_
      refine pw_ld E (pc' := 47) (st' := [.long (Int64.ofInt x4), .long (Int64.ofInt x22), .long (Int64.ofInt (x17 * x8)), .ref 38]) rfl (fun _ => rfl) ?_
      have hm23 := pw_mulS (a := x22) (b := x4) (A := 48000) (B := 24) (by omega) (by omega) (by omega) (by omega)
      refine pw_lmul E (pc' := 48) rfl rfl ?_
      refine pw_lsub E (pc' := 49) rfl rfl ?_
      refine pw_ld E (pc' := 50) (st' := [.long (Int64.ofInt x4), .long (Int64.ofInt ((x17 * x8) - (x22 * x4))), .ref 38]) rfl (fun _ => rfl) ?_
      refine pw_ld E (pc' := 52) (st' := [.long (Int64.ofInt x8), .long (Int64.ofInt x4), .long (Int64.ofInt ((x17 * x8) - (x22 * x4))), .ref 38]) rfl (fun _ => rfl) ?_
      have hm24 := pw_mulB (a := x4) (b := x8) (A := 24) (B := 24) (by omega) (by omega) (by omega) (by omega)
      refine pw_lmul E (pc' := 53) rfl rfl ?_
      obtain ⟨f25l, f25h, -⟩ := pw_obj (c := 22) I rfl
      refine pw_call (m' := 6) (As := [.ref 38, .long (Int64.ofInt ((x17 * x8) - (x22 * x4))), .long (Int64.ofInt (x4 * x8))]) (rest := []) (ls'' := [some (.ref 38), some (.long (Int64.ofInt ((x17 * x8) - (x22 * x4)))), none, some (.long (Int64.ofInt (x4 * x8))), none, none, none]) (by omega) E rfl (fun _ => pw_iV rfl rfl rfl rfl (pw_cellI f25h rfl)) (rfl : pm_ent 6 = some (3, 7, 1, 4, pmc_6)) rfl rfl (cm_6_22g (by omega) I ((x17 * x8) - (x22 * x4)) (by omega) (by omega) (x4 * x8) (by omega) (by omega)) ?_
      rintro h26 v27 ⟨h26I, h26E, hqfr, rfl⟩
      refine ⟨_, rfl, ?_⟩
      have h26F := E0.tr (h26E.wk (W' := [22]) (by first | rfl | simp))
      show pw X d h26 83 56 [some (.ref 32), some (.ref 38), some (.long (Int64.ofInt x4)), none, some (.long (Int64.ofInt x8)), none] [] _
      refine pw_ld E (pc' := 57) (st' := [pw_i 1]) rfl (fun _ => rfl) ?_
      refine pw_zret E rfl (by omega) ?_
      have eU : pv_U (pw_g h 17) (pw_g h 18) = x17 * x8 - x22 * x4 := by unfold pv_U; rw [← hx4r, ← hx8r, ← hx17r, ← hx22r]
      have eD : pv_D (pw_g h 17) = x4 * x8 := by unfold pv_D; rw [← hx4r, ← hx8r]
      exact ⟨h26I, h26F, ⟨_, rfl, by omega, by omega, Or.inr ⟨rfl, ⟨by omega, by omega⟩, by rw [eU, eD]; exact hqfr.1, by rw [eU, eD]; exact hqfr.2⟩⟩⟩
    · intro hc28
      have hc28 : ¬ (c12 ≠ (0 : Int)) := hc28
      refine pw_ld E (pc' := 29) (st' := [pw_i 0]) rfl (fun _ => rfl) ?_
      refine pw_zret E rfl (by omega) ?_
      exact ⟨I, E0, ⟨_, rfl, by omega, by omega, Or.inl ⟨rfl, fun q => by have q1 := q.1; have q2 := q.2; omega⟩⟩⟩
set_option maxHeartbeats 4000000 in
theorem cm_83_23s {X : List (Nat × List Value)} {d : Nat} {h : pm_H} (hd : 3 ≤ d) (I : pw_I h) (hp0 : pv_Bd h) : pw X d h 83 0 [some (.ref 32), some (.ref 39), none, none, none, none] [] (fun h' v => pw_I h' ∧ pw_E [23] h h' ∧ ∃ a : Int, v = .inl (some (pw_i a)) ∧ 0 ≤ a ∧ a ≤ 1 ∧ ((a = 0 ∧ ¬ pv_OK (pw_g h 17)) ∨ (a = 1 ∧ pv_OK (pw_g h 17) ∧ pw_gm h' 23 0 = Int.tdiv (pv_U (pw_g h 17) (pw_g h 18)) (pw_gd (pv_U (pw_g h 17) (pw_g h 18)) (pv_D (pw_g h 17))) ∧ pw_gm h' 23 1 = Int.tdiv (pv_D (pw_g h 17)) (pw_gd (pv_U (pw_g h 17) (pw_g h 18)) (pv_D (pw_g h 17)))))) := by
  have E : pm_ent 83 = some (2, 6, 8, 1, pmc_83) := rfl
  have E0 : pw_E [23] h h := pw_E.rf _ _
  have hB := hp0
  refine pw_ld E (pc' := 1) (st' := [.ref 32]) rfl (fun _ => rfl) ?_
  refine pw_ld E (pc' := 2) (st' := [pw_i 0, .ref 32]) rfl (fun _ => rfl) ?_
  obtain ⟨f1l, f1h, -⟩ := pw_obj (c := 16) I rfl
  refine pw_call (m' := 84) (As := [.ref 32, pw_i 0]) (rest := []) (ls'' := [some (.ref 32), some (pw_i 0), none, none]) (by omega) E rfl (fun _ => pw_iV rfl rfl rfl rfl (pw_cellI f1h rfl)) (rfl : pm_ent 84 = some (2, 4, 8, 0, pmc_84)) rfl rfl (cm_84_s (by omega) I (0) (by omega) (by omega)) ?_
  rintro u3 v2 ⟨rfl, x4, rfl, hx4a, hx4b, hx4r⟩
  refine ⟨_, rfl, ?_⟩
  show pw X d h 83 5 [some (.ref 32), some (.ref 39), none, none, none, none] [pw_i x4] _
  have hx4r : x4 = pv_N (pw_g h 17) 0 24 := hx4r
  refine pw_i2l E (pc' := 6) rfl rfl (by omega) (by omega) ?_
  refine pw_lstn E (pc' := 7) (ls' := [some (.ref 32), some (.ref 39), some (.long (Int64.ofInt x4)), none, none, none]) rfl rfl rfl rfl ?_
  refine pw_ld E (pc' := 8) (st' := [.ref 32]) rfl (fun _ => rfl) ?_
  refine pw_ld E (pc' := 9) (st' := [pw_i 1, .ref 32]) rfl (fun _ => rfl) ?_
  obtain ⟨f5l, f5h, -⟩ := pw_obj (c := 16) I rfl
  refine pw_call (m' := 84) (As := [.ref 32, pw_i 1]) (rest := []) (ls'' := [some (.ref 32), some (pw_i 1), none, none]) (by omega) E rfl (fun _ => pw_iV rfl rfl rfl rfl (pw_cellI f5h rfl)) (rfl : pm_ent 84 = some (2, 4, 8, 0, pmc_84)) rfl rfl (cm_84_s (by omega) I (1) (by omega) (by omega)) ?_
  rintro u7 v6 ⟨rfl, x8, rfl, hx8a, hx8b, hx8r⟩
  refine ⟨_, rfl, ?_⟩
  show pw X d h 83 12 [some (.ref 32), some (.ref 39), some (.long (Int64.ofInt x4)), none, none, none] [pw_i x8] _
  have hx8r : x8 = pv_N (pw_g h 17) 1 24 := hx8r
  refine pw_i2l E (pc' := 13) rfl rfl (by omega) (by omega) ?_
  refine pw_lst E (pc' := 15) (ls' := [some (.ref 32), some (.ref 39), some (.long (Int64.ofInt x4)), none, some (.long (Int64.ofInt x8)), none]) rfl rfl rfl rfl ?_
  refine pw_ld E (pc' := 16) (st' := [.long (Int64.ofInt x4)]) rfl (fun _ => rfl) ?_
  refine pw_ld E (pc' := 17) (st' := [.long (Int64.ofInt 0), .long (Int64.ofInt x4)]) rfl (fun _ => rfl) ?_
  refine pw_lcmpC E (pc' := 18) rfl rfl (by omega) (by omega) (by omega) (by omega) (fun c9 hc9 => ?_)
  refine pw_if E (pc' := 28) rfl (by decide) (by omega) (by omega) ?_ ?_
  · intro hc10
    have hc10 : c9 = (0 : Int) := hc10
    refine pw_ld E (pc' := 29) (st' := [pw_i 0]) rfl (fun _ => rfl) ?_
    refine pw_zret E rfl (by omega) ?_
    exact ⟨I, E0, ⟨_, rfl, by omega, by omega, Or.inl ⟨rfl, fun q => by have q1 := q.1; have q2 := q.2; omega⟩⟩⟩
  · intro hc11
    have hc11 : ¬ (c9 = (0 : Int)) := hc11
    refine pw_ld E (pc' := 23) (st' := [.long (Int64.ofInt x8)]) rfl (fun _ => rfl) ?_
    refine pw_ld E (pc' := 24) (st' := [.long (Int64.ofInt 0), .long (Int64.ofInt x8)]) rfl (fun _ => rfl) ?_
    refine pw_lcmpC E (pc' := 25) rfl rfl (by omega) (by omega) (by omega) (by omega) (fun c12 hc12 => ?_)
    refine pw_if E (pc' := 30) rfl (by decide) (by omega) (by omega) ?_ ?_
    · intro hc13
      have hc13 : c12 ≠ (0 : Int) := hc13
      refine pw_ld E (pc' := 31) (st' := [.ref 39]) rfl (fun _ => rfl) ?_
      refine pw_ld E (pc' := 32) (st' := [.ref 32, .ref 39]) rfl (fun _ => rfl) ?_
      refine pw_ld E (pc' := 33) (st' := [pw_i 0, .ref 32, .ref 39]) rfl (fun _ => rfl) ?_
      obtain ⟨f14l, f14h, -⟩ := pw_obj (c := 16) I rfl
      refine pw_call (m' := 85) (As := [.ref 32, pw_i 0]) (rest := [.ref 39]) (ls'' := [some (.ref 32), some (pw_i 0), none, none]) (by omega) E rfl (fun _ => pw_iV rfl rfl rfl rfl (pw_cellI f14h rfl)) (rfl : pm_ent 85 = some (2, 4, 8, 0, pmc_85)) rfl rfl (cm_85_s (by omega) I (0) (by omega) (by omega) hB) ?_
      rintro u16 v15 ⟨rfl, x17, rfl, hx17a, hx17b, hx17r⟩
      refine ⟨_, rfl, ?_⟩
      show pw X d h 83 36 [some (.ref 32), some (.ref 39), some (.long (Int64.ofInt x4)), none, some (.long (Int64.ofInt x8)), none] [pw_i x17, .ref 39] _
      have hx17r : x17 = pv_S (pw_g h 17) (pw_g h 18) 0 24 := hx17r
      refine pw_i2l E (pc' := 37) rfl rfl (by omega) (by omega) ?_
      refine pw_ld E (pc' := 39) (st' := [.long (Int64.ofInt x8), .long (Int64.ofInt x17), .ref 39]) rfl (fun _ => rfl) ?_
      have hm18 := pw_mulS (a := x17) (b := x8) (A := 48000) (B := 24) (by omega) (by omega) (by omega) (by omega)
      refine pw_lmul E (pc' := 40) rfl rfl ?_
      refine pw_ld E (pc' := 41) (st' := [.ref 32, .long (Int64.ofInt (x17 * x8)), .ref 39]) rfl (fun _ => rfl) ?_
      refine pw_ld E (pc' := 42) (st' := [pw_i 1, .ref 32, .long (Int64.ofInt (x17 * x8)), .ref 39]) rfl (fun _ => rfl) ?_
      obtain ⟨f19l, f19h, -⟩ := pw_obj (c := 16) I rfl
      refine pw_call (m' := 85) (As := [.ref 32, pw_i 1]) (rest := [.long (Int64.ofInt (x17 * x8)), .ref 39]) (ls'' := [some (.ref 32), some (pw_i 1), none, none]) (by omega) E rfl (fun _ => pw_iV rfl rfl rfl rfl (pw_cellI f19h rfl)) (rfl : pm_ent 85 = some (2, 4, 8, 0, pmc_85)) rfl rfl (cm_85_s (by omega) I (1) (by omega) (by omega) hB) ?_
      rintro u21 v20 ⟨rfl, x22, rfl, hx22a, hx22b, hx22r⟩
      refine ⟨_, rfl, ?_⟩
      show pw X d h 83 45 [some (.ref 32), some (.ref 39), some (.long (Int64.ofInt x4)), none, some (.long (Int64.ofInt x8)), none] [pw_i x22, .long (Int64.ofInt (x17 * x8)), .ref 39] _
      have hx22r : x22 = pv_S (pw_g h 17) (pw_g h 18) 1 24 := hx22r
      refine pw_i2l E (pc' := 46) rfl rfl (by omega) (by omega) ?_
      refine pw_ld E (pc' := 47) (st' := [.long (Int64.ofInt x4), .long (Int64.ofInt x22), .long (Int64.ofInt (x17 * x8)), .ref 39]) rfl (fun _ => rfl) ?_
      have hm23 := pw_mulS (a := x22) (b := x4) (A := 48000) (B := 24) (by omega) (by omega) (by omega) (by omega)
      refine pw_lmul E (pc' := 48) rfl rfl ?_
      refine pw_lsub E (pc' := 49) rfl rfl ?_
      refine pw_ld E (pc' := 50) (st' := [.long (Int64.ofInt x4), .long (Int64.ofInt ((x17 * x8) - (x22 * x4))), .ref 39]) rfl (fun _ => rfl) ?_
      refine pw_ld E (pc' := 52) (st' := [.long (Int64.ofInt x8), .long (Int64.ofInt x4), .long (Int64.ofInt ((x17 * x8) - (x22 * x4))), .ref 39]) rfl (fun _ => rfl) ?_
      have hm24 := pw_mulB (a := x4) (b := x8) (A := 24) (B := 24) (by omega) (by omega) (by omega) (by omega)
      refine pw_lmul E (pc' := 53) rfl rfl ?_
      obtain ⟨f25l, f25h, -⟩ := pw_obj (c := 23) I rfl
      refine pw_call (m' := 6) (As := [.ref 39, .long (Int64.ofInt ((x17 * x8) - (x22 * x4))), .long (Int64.ofInt (x4 * x8))]) (rest := []) (ls'' := [some (.ref 39), some (.long (Int64.ofInt ((x17 * x8) - (x22 * x4)))), none, some (.long (Int64.ofInt (x4 * x8))), none, none, none]) (by omega) E rfl (fun _ => pw_iV rfl rfl rfl rfl (pw_cellI f25h rfl)) (rfl : pm_ent 6 = some (3, 7, 1, 4, pmc_6)) rfl rfl (cm_6_23g (by omega) I ((x17 * x8) - (x22 * x4)) (by omega) (by omega) (x4 * x8) (by omega) (by omega)) ?_
      rintro h26 v27 ⟨h26I, h26E, hqfr, rfl⟩
      refine ⟨_, rfl, ?_⟩
      have h26F := E0.tr (h26E.wk (W' := [23]) (by first | rfl | simp))
      show pw X d h26 83 56 [some (.ref 32), some (.ref 39), some (.long (Int64.ofInt x4)), none, some (.long (Int64.ofInt x8)), none] [] _
      refine pw_ld E (pc' := 57) (st' := [pw_i 1]) rfl (fun _ => rfl) ?_
      refine pw_zret E rfl (by omega) ?_
      have eU : pv_U (pw_g h 17) (pw_g h 18) = x17 * x8 - x22 * x4 := by unfold pv_U; rw [← hx4r, ← hx8r, ← hx17r, ← hx22r]
      have eD : pv_D (pw_g h 17) = x4 * x8 := by unfold pv_D; rw [← hx4r, ← hx8r]
      exact ⟨h26I, h26F, ⟨_, rfl, by omega, by omega, Or.inr ⟨rfl, ⟨by omega, by omega⟩, by rw [eU, eD]; exact hqfr.1, by rw [eU, eD]; exact hqfr.2⟩⟩⟩
    · intro hc28
      have hc28 : ¬ (c12 ≠ (0 : Int)) := hc28
      refine pw_ld E (pc' := 29) (st' := [pw_i 0]) rfl (fun _ => rfl) ?_
      refine pw_zret E rfl (by omega) ?_
      exact ⟨I, E0, ⟨_, rfl, by omega, by omega, Or.inl ⟨rfl, fun q => by have q1 := q.1; have q2 := q.2; omega⟩⟩⟩
set_option maxHeartbeats 4000000 in
theorem cm_23_10s {X : List (Nat × List Value)} {d : Nat} {h : pm_H} (hd : 2 ≤ d) (I : pw_I h) (k : Int) (hk1 : 0 ≤ k) (hk2 : k ≤ 23) (b : Int) (hb1 : 0 ≤ b) (hb2 : b ≤ 11) (e : Int) (he1 : 0 ≤ e) (he2 : e ≤ 11) : pw X d h 23 0 [some (.ref 26), some (pw_i k), some (pw_i b), some (pw_i e)] [] (fun h' v => h = h' ∧ ∃ a : Int, v = .inl (some (pw_i a)) ∧ 0 ≤ a ∧ a ≤ 1 ∧ ((a = 1 ∧ pw_g h 11 (k * 12 + b).toNat ≠ -2 ∧ pw_g h 11 (k * 12 + e).toNat ≠ -2) ∨ (a = 0 ∧ ¬ (pw_g h 11 (k * 12 + b).toNat ≠ -2 ∧ pw_g h 11 (k * 12 + e).toNat ≠ -2)))) := by
  have E : pm_ent 23 = some (4, 4, 2, 1, pmc_23) := rfl
  refine pw_ld E (pc' := 1) (st' := [.ref 26]) rfl (fun _ => rfl) ?_
  refine pw_ld E (pc' := 2) (st' := [pw_i k, .ref 26]) rfl (fun _ => rfl) ?_
  refine pw_ld E (pc' := 3) (st' := [pw_i b, pw_i k, .ref 26]) rfl (fun _ => rfl) ?_
  obtain ⟨f1l, f1h, -⟩ := pw_obj (c := 10) I rfl
  refine pw_call (m' := 19) (As := [.ref 26, pw_i k, pw_i b]) (rest := []) (ls'' := [some (.ref 26), some (pw_i k), some (pw_i b)]) (by omega) E rfl (fun _ => pw_iV rfl rfl rfl rfl (pw_cellI f1h rfl)) (rfl : pm_ent 19 = some (3, 3, 2, 1, pmc_19)) rfl rfl (cm_19_10h (by omega) I (k) (by omega) (by omega) (b) (by omega) (by omega)) ?_
  rintro u3 v2 ⟨rfl, x4, rfl, hx4a, hx4b, hx4r⟩
  refine ⟨_, rfl, ?_⟩
  show pw X d h 23 6 [some (.ref 26), some (pw_i k), some (pw_i b), some (pw_i e)] [pw_i x4] _
  have hx4r : (x4 = 1 ∧ pw_g h 11 (k * 12 + b).toNat = -2) ∨ (x4 = 0 ∧ pw_g h 11 (k * 12 + b).toNat ≠ -2) := hx4r
  rcases (by omega : x4 = 1 ∨ x4 = 0) with hb5 | hb5
  · have hb5 : x4 = 1 := by omega
    refine pw_if E (pc' := 22) rfl (by decide) (by omega) (by omega) ?_ ?_
    · intro hc6
      have hc6 : x4 ≠ (0 : Int) := hc6
      refine pw_ld E (pc' := 23) (st' := [pw_i 0]) rfl (fun _ => rfl) ?_
      refine pw_zret E rfl (by omega) ?_
      exact ⟨rfl, ⟨_, rfl, by omega, by omega, by omega⟩⟩
    · intro hc7
      have hc7 : ¬ (x4 ≠ (0 : Int)) := hc7
      exfalso; omega
  · have hb8 : x4 = 0 := by omega
    refine pw_if E (pc' := 22) rfl (by decide) (by omega) (by omega) ?_ ?_
    · intro hc9
      have hc9 : x4 ≠ (0 : Int) := hc9
      exfalso; omega
    · intro hc10
      have hc10 : ¬ (x4 ≠ (0 : Int)) := hc10
      refine pw_ld E (pc' := 10) (st' := [.ref 26]) rfl (fun _ => rfl) ?_
      refine pw_ld E (pc' := 11) (st' := [pw_i k, .ref 26]) rfl (fun _ => rfl) ?_
      refine pw_ld E (pc' := 12) (st' := [pw_i e, pw_i k, .ref 26]) rfl (fun _ => rfl) ?_
      obtain ⟨f11l, f11h, -⟩ := pw_obj (c := 10) I rfl
      refine pw_call (m' := 19) (As := [.ref 26, pw_i k, pw_i e]) (rest := []) (ls'' := [some (.ref 26), some (pw_i k), some (pw_i e)]) (by omega) E rfl (fun _ => pw_iV rfl rfl rfl rfl (pw_cellI f11h rfl)) (rfl : pm_ent 19 = some (3, 3, 2, 1, pmc_19)) rfl rfl (cm_19_10h (by omega) I (k) (by omega) (by omega) (e) (by omega) (by omega)) ?_
      rintro u13 v12 ⟨rfl, x14, rfl, hx14a, hx14b, hx14r⟩
      refine ⟨_, rfl, ?_⟩
      show pw X d h 23 15 [some (.ref 26), some (pw_i k), some (pw_i b), some (pw_i e)] [pw_i x14] _
      have hx14r : (x14 = 1 ∧ pw_g h 11 (k * 12 + e).toNat = -2) ∨ (x14 = 0 ∧ pw_g h 11 (k * 12 + e).toNat ≠ -2) := hx14r
      rcases (by omega : x14 = 1 ∨ x14 = 0) with hb15 | hb15
      · have hb15 : x14 = 1 := by omega
        refine pw_if E (pc' := 22) rfl (by decide) (by omega) (by omega) ?_ ?_
        · intro hc16
          have hc16 : x14 ≠ (0 : Int) := hc16
          refine pw_ld E (pc' := 23) (st' := [pw_i 0]) rfl (fun _ => rfl) ?_
          refine pw_zret E rfl (by omega) ?_
          exact ⟨rfl, ⟨_, rfl, by omega, by omega, by omega⟩⟩
        · intro hc17
          have hc17 : ¬ (x14 ≠ (0 : Int)) := hc17
          exfalso; omega
      · have hb18 : x14 = 0 := by omega
        refine pw_if E (pc' := 22) rfl (by decide) (by omega) (by omega) ?_ ?_
        · intro hc19
          have hc19 : x14 ≠ (0 : Int) := hc19
          exfalso; omega
        · intro hc20
          have hc20 : ¬ (x14 ≠ (0 : Int)) := hc20
          refine pw_ld E (pc' := 19) (st' := [pw_i 1]) rfl (fun _ => rfl) ?_
          refine pw_goto E (pc' := 23) rfl (by decide) ?_
          refine pw_zret E rfl (by omega) ?_
          exact ⟨rfl, ⟨_, rfl, by omega, by omega, by omega⟩⟩
set_option maxHeartbeats 4000000 in
theorem cm_24_10s {X : List (Nat × List Value)} {d : Nat} {h : pm_H} (hd : 3 ≤ d) (I : pw_I h) (k : Int) (hk1 : 0 ≤ k) (hk2 : k ≤ 23) (b : Int) (hb1 : 0 ≤ b) (hb2 : b ≤ 11) (e : Int) (he1 : 0 ≤ e) (he2 : e ≤ 11) (t : Int) (ht1 : 0 ≤ t) (ht2 : t ≤ 10) : pw X d h 24 0 [some (.ref 26), some (pw_i k), some (pw_i b), some (pw_i e), some (pw_i t)] [] (fun h' v => h = h' ∧ ∃ a : Int, v = .inl (some (pw_i a)) ∧ (-2000) ≤ a ∧ a ≤ 2000 ∧ (a = pw_hc (pw_g h 11 (k * 12 + e).toNat) t - pw_hc (pw_g h 11 (k * 12 + b).toNat) t)) := by
  have E : pm_ent 24 = some (5, 5, 2, 0, pmc_24) := rfl
  refine pw_ld E (pc' := 1) (st' := [.ref 26]) rfl (fun _ => rfl) ?_
  refine pw_ld E (pc' := 2) (st' := [pw_i k, .ref 26]) rfl (fun _ => rfl) ?_
  refine pw_ld E (pc' := 3) (st' := [pw_i e, pw_i k, .ref 26]) rfl (fun _ => rfl) ?_
  refine pw_ld E (pc' := 5) (st' := [pw_i t, pw_i e, pw_i k, .ref 26]) rfl (fun _ => rfl) ?_
  obtain ⟨f1l, f1h, -⟩ := pw_obj (c := 10) I rfl
  refine pw_call (m' := 20) (As := [.ref 26, pw_i k, pw_i e, pw_i t]) (rest := []) (ls'' := [some (.ref 26), some (pw_i k), some (pw_i e), some (pw_i t)]) (by omega) E rfl (fun _ => pw_iV rfl rfl rfl rfl (pw_cellI f1h rfl)) (rfl : pm_ent 20 = some (4, 4, 2, 0, pmc_20)) rfl rfl (cm_20_10h (by omega) I (k) (by omega) (by omega) (e) (by omega) (by omega) (t) (by omega) (by omega)) ?_
  rintro u3 v2 ⟨rfl, x4, rfl, hx4a, hx4b, hx4r⟩
  refine ⟨_, rfl, ?_⟩
  show pw X d h 24 8 [some (.ref 26), some (pw_i k), some (pw_i b), some (pw_i e), some (pw_i t)] [pw_i x4] _
  have hx4r : x4 = (max 0 (pw_g h 11 (k * 12 + e).toNat) / 100) * 10 + (max 0 (pw_g h 11 (k * 12 + e).toNat) % 100) * t := hx4r
  refine pw_ld E (pc' := 9) (st' := [.ref 26, pw_i x4]) rfl (fun _ => rfl) ?_
  refine pw_ld E (pc' := 10) (st' := [pw_i k, .ref 26, pw_i x4]) rfl (fun _ => rfl) ?_
  refine pw_ld E (pc' := 11) (st' := [pw_i b, pw_i k, .ref 26, pw_i x4]) rfl (fun _ => rfl) ?_
  refine pw_ld E (pc' := 13) (st' := [pw_i t, pw_i b, pw_i k, .ref 26, pw_i x4]) rfl (fun _ => rfl) ?_
  obtain ⟨f5l, f5h, -⟩ := pw_obj (c := 10) I rfl
  refine pw_call (m' := 20) (As := [.ref 26, pw_i k, pw_i b, pw_i t]) (rest := [pw_i x4]) (ls'' := [some (.ref 26), some (pw_i k), some (pw_i b), some (pw_i t)]) (by omega) E rfl (fun _ => pw_iV rfl rfl rfl rfl (pw_cellI f5h rfl)) (rfl : pm_ent 20 = some (4, 4, 2, 0, pmc_20)) rfl rfl (cm_20_10h (by omega) I (k) (by omega) (by omega) (b) (by omega) (by omega) (t) (by omega) (by omega)) ?_
  rintro u7 v6 ⟨rfl, x8, rfl, hx8a, hx8b, hx8r⟩
  refine ⟨_, rfl, ?_⟩
  show pw X d h 24 16 [some (.ref 26), some (pw_i k), some (pw_i b), some (pw_i e), some (pw_i t)] [pw_i x8, pw_i x4] _
  have hx8r : x8 = (max 0 (pw_g h 11 (k * 12 + b).toNat) / 100) * 10 + (max 0 (pw_g h 11 (k * 12 + b).toNat) % 100) * t := hx8r
  refine pw_sub E (pc' := 17) rfl rfl ?_
  refine pw_iret E rfl ?_
  exact ⟨rfl, ⟨_, rfl, by omega, by omega, by rw [hx4r, hx8r]; rfl⟩⟩
set_option maxHeartbeats 4000000 in
theorem cm_23_12s {X : List (Nat × List Value)} {d : Nat} {h : pm_H} (hd : 2 ≤ d) (I : pw_I h) (k : Int) (hk1 : 0 ≤ k) (hk2 : k ≤ 23) (b : Int) (hb1 : 0 ≤ b) (hb2 : b ≤ 11) (e : Int) (he1 : 0 ≤ e) (he2 : e ≤ 11) : pw X d h 23 0 [some (.ref 28), some (pw_i k), some (pw_i b), some (pw_i e)] [] (fun h' v => h = h' ∧ ∃ a : Int, v = .inl (some (pw_i a)) ∧ 0 ≤ a ∧ a ≤ 1 ∧ ((a = 1 ∧ pw_g h 13 (k * 12 + b).toNat ≠ -2 ∧ pw_g h 13 (k * 12 + e).toNat ≠ -2) ∨ (a = 0 ∧ ¬ (pw_g h 13 (k * 12 + b).toNat ≠ -2 ∧ pw_g h 13 (k * 12 + e).toNat ≠ -2)))) := by
  have E : pm_ent 23 = some (4, 4, 2, 1, pmc_23) := rfl
  refine pw_ld E (pc' := 1) (st' := [.ref 28]) rfl (fun _ => rfl) ?_
  refine pw_ld E (pc' := 2) (st' := [pw_i k, .ref 28]) rfl (fun _ => rfl) ?_
  refine pw_ld E (pc' := 3) (st' := [pw_i b, pw_i k, .ref 28]) rfl (fun _ => rfl) ?_
  obtain ⟨f1l, f1h, -⟩ := pw_obj (c := 12) I rfl
  refine pw_call (m' := 19) (As := [.ref 28, pw_i k, pw_i b]) (rest := []) (ls'' := [some (.ref 28), some (pw_i k), some (pw_i b)]) (by omega) E rfl (fun _ => pw_iV rfl rfl rfl rfl (pw_cellI f1h rfl)) (rfl : pm_ent 19 = some (3, 3, 2, 1, pmc_19)) rfl rfl (cm_19_12h (by omega) I (k) (by omega) (by omega) (b) (by omega) (by omega)) ?_
  rintro u3 v2 ⟨rfl, x4, rfl, hx4a, hx4b, hx4r⟩
  refine ⟨_, rfl, ?_⟩
  show pw X d h 23 6 [some (.ref 28), some (pw_i k), some (pw_i b), some (pw_i e)] [pw_i x4] _
  have hx4r : (x4 = 1 ∧ pw_g h 13 (k * 12 + b).toNat = -2) ∨ (x4 = 0 ∧ pw_g h 13 (k * 12 + b).toNat ≠ -2) := hx4r
  rcases (by omega : x4 = 1 ∨ x4 = 0) with hb5 | hb5
  · have hb5 : x4 = 1 := by omega
    refine pw_if E (pc' := 22) rfl (by decide) (by omega) (by omega) ?_ ?_
    · intro hc6
      have hc6 : x4 ≠ (0 : Int) := hc6
      refine pw_ld E (pc' := 23) (st' := [pw_i 0]) rfl (fun _ => rfl) ?_
      refine pw_zret E rfl (by omega) ?_
      exact ⟨rfl, ⟨_, rfl, by omega, by omega, by omega⟩⟩
    · intro hc7
      have hc7 : ¬ (x4 ≠ (0 : Int)) := hc7
      exfalso; omega
  · have hb8 : x4 = 0 := by omega
    refine pw_if E (pc' := 22) rfl (by decide) (by omega) (by omega) ?_ ?_
    · intro hc9
      have hc9 : x4 ≠ (0 : Int) := hc9
      exfalso; omega
    · intro hc10
      have hc10 : ¬ (x4 ≠ (0 : Int)) := hc10
      refine pw_ld E (pc' := 10) (st' := [.ref 28]) rfl (fun _ => rfl) ?_
      refine pw_ld E (pc' := 11) (st' := [pw_i k, .ref 28]) rfl (fun _ => rfl) ?_
      refine pw_ld E (pc' := 12) (st' := [pw_i e, pw_i k, .ref 28]) rfl (fun _ => rfl) ?_
      obtain ⟨f11l, f11h, -⟩ := pw_obj (c := 12) I rfl
      refine pw_call (m' := 19) (As := [.ref 28, pw_i k, pw_i e]) (rest := []) (ls'' := [some (.ref 28), some (pw_i k), some (pw_i e)]) (by omega) E rfl (fun _ => pw_iV rfl rfl rfl rfl (pw_cellI f11h rfl)) (rfl : pm_ent 19 = some (3, 3, 2, 1, pmc_19)) rfl rfl (cm_19_12h (by omega) I (k) (by omega) (by omega) (e) (by omega) (by omega)) ?_
      rintro u13 v12 ⟨rfl, x14, rfl, hx14a, hx14b, hx14r⟩
      refine ⟨_, rfl, ?_⟩
      show pw X d h 23 15 [some (.ref 28), some (pw_i k), some (pw_i b), some (pw_i e)] [pw_i x14] _
      have hx14r : (x14 = 1 ∧ pw_g h 13 (k * 12 + e).toNat = -2) ∨ (x14 = 0 ∧ pw_g h 13 (k * 12 + e).toNat ≠ -2) := hx14r
      rcases (by omega : x14 = 1 ∨ x14 = 0) with hb15 | hb15
      · have hb15 : x14 = 1 := by omega
        refine pw_if E (pc' := 22) rfl (by decide) (by omega) (by omega) ?_ ?_
        · intro hc16
          have hc16 : x14 ≠ (0 : Int) := hc16
          refine pw_ld E (pc' := 23) (st' := [pw_i 0]) rfl (fun _ => rfl) ?_
          refine pw_zret E rfl (by omega) ?_
          exact ⟨rfl, ⟨_, rfl, by omega, by omega, by omega⟩⟩
        · intro hc17
          have hc17 : ¬ (x14 ≠ (0 : Int)) := hc17
          exfalso; omega
      · have hb18 : x14 = 0 := by omega
        refine pw_if E (pc' := 22) rfl (by decide) (by omega) (by omega) ?_ ?_
        · intro hc19
          have hc19 : x14 ≠ (0 : Int) := hc19
          exfalso; omega
        · intro hc20
          have hc20 : ¬ (x14 ≠ (0 : Int)) := hc20
          refine pw_ld E (pc' := 19) (st' := [pw_i 1]) rfl (fun _ => rfl) ?_
          refine pw_goto E (pc' := 23) rfl (by decide) ?_
          refine pw_zret E rfl (by omega) ?_
          exact ⟨rfl, ⟨_, rfl, by omega, by omega, by omega⟩⟩
set_option maxHeartbeats 4000000 in
theorem cm_24_12s {X : List (Nat × List Value)} {d : Nat} {h : pm_H} (hd : 3 ≤ d) (I : pw_I h) (k : Int) (hk1 : 0 ≤ k) (hk2 : k ≤ 23) (b : Int) (hb1 : 0 ≤ b) (hb2 : b ≤ 11) (e : Int) (he1 : 0 ≤ e) (he2 : e ≤ 11) (t : Int) (ht1 : 0 ≤ t) (ht2 : t ≤ 10) : pw X d h 24 0 [some (.ref 28), some (pw_i k), some (pw_i b), some (pw_i e), some (pw_i t)] [] (fun h' v => h = h' ∧ ∃ a : Int, v = .inl (some (pw_i a)) ∧ (-2000) ≤ a ∧ a ≤ 2000 ∧ (a = pw_hc (pw_g h 13 (k * 12 + e).toNat) t - pw_hc (pw_g h 13 (k * 12 + b).toNat) t)) := by
  have E : pm_ent 24 = some (5, 5, 2, 0, pmc_24) := rfl
  refine pw_ld E (pc' := 1) (st' := [.ref 28]) rfl (fun _ => rfl) ?_
  refine pw_ld E (pc' := 2) (st' := [pw_i k, .ref 28]) rfl (fun _ => rfl) ?_
  refine pw_ld E (pc' := 3) (st' := [pw_i e, pw_i k, .ref 28]) rfl (fun _ => rfl) ?_
  refine pw_ld E (pc' := 5) (st' := [pw_i t, pw_i e, pw_i k, .ref 28]) rfl (fun _ => rfl) ?_
  obtain ⟨f1l, f1h, -⟩ := pw_obj (c := 12) I rfl
  refine pw_call (m' := 20) (As := [.ref 28, pw_i k, pw_i e, pw_i t]) (rest := []) (ls'' := [some (.ref 28), some (pw_i k), some (pw_i e), some (pw_i t)]) (by omega) E rfl (fun _ => pw_iV rfl rfl rfl rfl (pw_cellI f1h rfl)) (rfl : pm_ent 20 = some (4, 4, 2, 0, pmc_20)) rfl rfl (cm_20_12h (by omega) I (k) (by omega) (by omega) (e) (by omega) (by omega) (t) (by omega) (by omega)) ?_
  rintro u3 v2 ⟨rfl, x4, rfl, hx4a, hx4b, hx4r⟩
  refine ⟨_, rfl, ?_⟩
  show pw X d h 24 8 [some (.ref 28), some (pw_i k), some (pw_i b), some (pw_i e), some (pw_i t)] [pw_i x4] _
  have hx4r : x4 = (max 0 (pw_g h 13 (k * 12 + e).toNat) / 100) * 10 + (max 0 (pw_g h 13 (k * 12 + e).toNat) % 100) * t := hx4r
  refine pw_ld E (pc' := 9) (st' := [.ref 28, pw_i x4]) rfl (fun _ => rfl) ?_
  refine pw_ld E (pc' := 10) (st' := [pw_i k, .ref 28, pw_i x4]) rfl (fun _ => rfl) ?_
  refine pw_ld E (pc' := 11) (st' := [pw_i b, pw_i k, .ref 28, pw_i x4]) rfl (fun _ => rfl) ?_
  refine pw_ld E (pc' := 13) (st' := [pw_i t, pw_i b, pw_i k, .ref 28, pw_i x4]) rfl (fun _ => rfl) ?_
  obtain ⟨f5l, f5h, -⟩ := pw_obj (c := 12) I rfl
  refine pw_call (m' := 20) (As := [.ref 28, pw_i k, pw_i b, pw_i t]) (rest := [pw_i x4]) (ls'' := [some (.ref 28), some (pw_i k), some (pw_i b), some (pw_i t)]) (by omega) E rfl (fun _ => pw_iV rfl rfl rfl rfl (pw_cellI f5h rfl)) (rfl : pm_ent 20 = some (4, 4, 2, 0, pmc_20)) rfl rfl (cm_20_12h (by omega) I (k) (by omega) (by omega) (b) (by omega) (by omega) (t) (by omega) (by omega)) ?_
  rintro u7 v6 ⟨rfl, x8, rfl, hx8a, hx8b, hx8r⟩
  refine ⟨_, rfl, ?_⟩
  show pw X d h 24 16 [some (.ref 28), some (pw_i k), some (pw_i b), some (pw_i e), some (pw_i t)] [pw_i x8, pw_i x4] _
  have hx8r : x8 = (max 0 (pw_g h 13 (k * 12 + b).toNat) / 100) * 10 + (max 0 (pw_g h 13 (k * 12 + b).toNat) % 100) * t := hx8r
  refine pw_sub E (pc' := 17) rfl rfl ?_
  refine pw_iret E rfl ?_
  exact ⟨rfl, ⟨_, rfl, by omega, by omega, by rw [hx4r, hx8r]; rfl⟩⟩
set_option maxHeartbeats 4000000 in
theorem cm_63_s {X : List (Nat × List Value)} {d : Nat} {h : pm_H} (hd : 1 ≤ d) (I : pw_I h) (k : Int) (hk1 : 0 ≤ k) (hk2 : k ≤ 23) (b : Int) (hb1 : (-2147483648) ≤ b) (hb2 : b ≤ 2147483647) : pw X d h 63 0 [some (.ref 17), some (pw_i k), some (pw_i b)] [] (fun h' v => h = h' ∧ ∃ a : Int, v = .inl (some (pw_i a)) ∧ 0 ≤ a ∧ a ≤ 1 ∧ ((a = 1 ∧ pw_g h 2 k.toNat = 1 ∧ pw_g h 4 k.toNat = b) ∨ (a = 0 ∧ ¬ (pw_g h 2 k.toNat = 1 ∧ pw_g h 4 k.toNat = b)))) := by
  have E : pm_ent 63 = some (3, 3, 6, 1, pmc_63) := rfl
  refine pw_ld E (pc' := 1) (st' := [.ref 17]) rfl (fun _ => rfl) ?_
  refine pw_getR (b := 18) I E (c := 1) (k := 0) (pc' := 4) rfl rfl rfl rfl rfl rfl rfl ?_
  refine pw_ld E (pc' := 5) (st' := [pw_i k, .ref 18]) rfl (fun _ => rfl) ?_
  refine pw_ald I E (c := 2) (pc' := 6) rfl rfl rfl (by decide) rfl (by decide) (by omega) (by omega) rfl (fun hf1a hf1b hf1c hf1d => ?_)
  refine pw_if E (pc' := 23) rfl (by decide) (by omega) (by omega) ?_ ?_
  · intro hc2
    have hc2 : pw_g h 2 (k.toNat) = (0 : Int) := hc2
    refine pw_ld E (pc' := 24) (st' := [pw_i 0]) rfl (fun _ => rfl) ?_
    refine pw_zret E rfl (by omega) ?_
    exact ⟨rfl, ⟨_, rfl, by omega, by omega, by omega⟩⟩
  · intro hc3
    have hc3 : ¬ (pw_g h 2 (k.toNat) = (0 : Int)) := hc3
    refine pw_ld E (pc' := 10) (st' := [.ref 17]) rfl (fun _ => rfl) ?_
    refine pw_getR (b := 20) I E (c := 1) (k := 2) (pc' := 13) rfl rfl rfl rfl rfl rfl rfl ?_
    refine pw_ld E (pc' := 14) (st' := [pw_i k, .ref 20]) rfl (fun _ => rfl) ?_
    refine pw_ald I E (c := 4) (pc' := 15) rfl rfl rfl (by decide) rfl (by decide) (by omega) (by omega) rfl (fun hf4a hf4b hf4c hf4d => ?_)
    refine pw_ld E (pc' := 16) (st' := [pw_i b, pw_i (pw_g h 4 (k.toNat))]) rfl (fun _ => rfl) ?_
    refine pw_if2 E (pc' := 23) rfl (by decide) (by omega) (by omega) (by omega) (by omega) ?_ ?_
    · intro hc5
      have hc5 : pw_g h 4 (k.toNat) ≠ b := hc5
      refine pw_ld E (pc' := 24) (st' := [pw_i 0]) rfl (fun _ => rfl) ?_
      refine pw_zret E rfl (by omega) ?_
      exact ⟨rfl, ⟨_, rfl, by omega, by omega, by omega⟩⟩
    · intro hc6
      have hc6 : ¬ (pw_g h 4 (k.toNat) ≠ b) := hc6
      refine pw_ld E (pc' := 20) (st' := [pw_i 1]) rfl (fun _ => rfl) ?_
      refine pw_goto E (pc' := 24) rfl (by decide) ?_
      refine pw_zret E rfl (by omega) ?_
      exact ⟨rfl, ⟨_, rfl, by omega, by omega, by omega⟩⟩
set_option maxHeartbeats 4000000 in
theorem cm_138_s {X : List (Nat × List Value)} {d : Nat} {h : pm_H} (hd : 4 ≤ d) (I : pw_I h) (b : Int) (hb1 : 0 ≤ b) (hb2 : b ≤ 11) (e : Int) (he1 : 0 ≤ e) (he2 : e ≤ 11) : pw X d h 138 0 [some (.ref 16), some (pw_i b), some (pw_i e), none] [] (fun h' v => pw_I h' ∧ pw_E [17, 18] h h' ∧ (pv_FL h' (pv_sdc h b e) (pv_chc h b e) 24) ∧ (v = .inl none)) := by
  have E : pm_ent 138 = some (3, 4, 11, 4, pmc_138) := rfl
  have E0 : pw_E [17, 18] h h := pw_E.rf _ _
  refine pw_ld E (pc' := 1) (st' := [.ref 16]) rfl (fun _ => rfl) ?_
  refine pw_getR (b := 32) I E (c := 0) (k := 7) (pc' := 4) rfl rfl rfl rfl rfl rfl rfl ?_
  obtain ⟨f1l, f1h, -⟩ := pw_obj (c := 16) I rfl
  refine pw_call (m' := 81) (As := [.ref 32]) (rest := []) (ls'' := [some (.ref 32)]) (by omega) E rfl (fun _ => pw_iV rfl rfl rfl rfl (pw_cellI f1h rfl)) (rfl : pm_ent 81 = some (1, 1, 8, 4, pmc_81)) rfl rfl (cm_81_s (by omega) I ) ?_
  rintro h2 v3 ⟨h2I, h2E, hqclear, rfl⟩
  refine ⟨_, rfl, ?_⟩
  have h2F := E0.tr (h2E.wk (W' := [17, 18]) (by first | rfl | simp))
  show pw X d h2 138 7 [some (.ref 16), some (pw_i b), some (pw_i e), none] [] _
  refine pw_ld E (pc' := 8) (st' := [pw_i 0]) rfl (fun _ => rfl) ?_
  refine pw_istn E (pc' := 9) (ls' := [some (.ref 16), some (pw_i b), some (pw_i e), some (pw_i 0)]) rfl rfl rfl rfl ?_
  have L9 : ∀ (n9 : Nat) (k9_3 : Int) (gh9 : pm_H), pw_I gh9 → pw_E [17, 18] h gh9 → 0 ≤ k9_3 → k9_3 ≤ 24 → pv_FL gh9 (pv_sdc h b e) (pv_chc h b e) k9_3 → (24 - k9_3).toNat = n9 → pw X d gh9 138 9 [some (.ref 16), some (pw_i b), some (pw_i e), some (pw_i k9_3)] [] (fun h' v => pw_I h' ∧ pw_E [17, 18] h h' ∧ (pv_FL h' (pv_sdc h b e) (pv_chc h b e) 24) ∧ (v = .inl none)) := by
    intro n9
    induction n9 using Nat.strongRecOn with
    | ind n9 ih9 =>
      intro k9_3 gh9 I9 E9 k9_3a k9_3b hx9_0 hm9
      refine pw_ld E (pc' := 10) (st' := [pw_i k9_3]) rfl (fun _ => rfl) ?_
      refine pw_bip E (pc' := 12) rfl rfl (by decide) ?_
      refine pw_if2 E (pc' := 75) rfl (by decide) (by omega) (by omega) (by decide) (by decide) ?_ ?_
      · intro hc4
        have hc4 : (24 : Int) ≤ k9_3 := hc4
        refine pw_vret E rfl ?_
        exact ⟨I9, E9, ⟨(by rw [show (24 : Int) = k9_3 by omega]; exact hx9_0), rfl⟩⟩
      · intro hc5
        have hc5 : ¬ ((24 : Int) ≤ k9_3) := hc5
        have o1 := pv_sdcI (h := h) (b := b) (e := e) (k := k9_3) (by omega)
        have q2 : pw_g gh9 2 (k9_3).toNat = pw_g h 2 (k9_3).toNat := pw_Eg (c := 2) I E9 rfl rfl _
        have qb : pw_g gh9 11 (k9_3 * 12 + b).toNat = pw_g h 11 (k9_3 * 12 + b).toNat := pw_Eg (c := 11) I E9 rfl rfl _
        have qe : pw_g gh9 11 (k9_3 * 12 + e).toNat = pw_g h 11 (k9_3 * 12 + e).toNat := pw_Eg (c := 11) I E9 rfl rfl _
        have q4 : pw_g gh9 4 (k9_3).toNat = pw_g h 4 (k9_3).toNat := pw_Eg (c := 4) I E9 rfl rfl _
        have q6 : pw_g gh9 0 6 = pw_g h 0 6 := pw_Eg (c := 0) I E9 rfl rfl _
        refine pw_ld E (pc' := 16) (st' := [.ref 16]) rfl (fun _ => rfl) ?_
        refine pw_getR (b := 17) I9 E (c := 0) (k := 0) (pc' := 19) rfl rfl rfl rfl rfl rfl rfl ?_
        refine pw_ld E (pc' := 20) (st' := [pw_i k9_3, .ref 17]) rfl (fun _ => rfl) ?_
        obtain ⟨f6l, f6h, -⟩ := pw_obj (c := 1) I9 rfl
        refine pw_call (m' := 59) (As := [.ref 17, pw_i k9_3]) (rest := []) (ls'' := [some (.ref 17), some (pw_i k9_3)]) (by omega) E rfl (fun _ => pw_iV rfl rfl rfl rfl (pw_cellI f6h rfl)) (rfl : pm_ent 59 = some (2, 2, 6, 1, pmc_59)) rfl rfl (cm_59 (by omega) I9 (k9_3) (by omega) (by omega)) ?_
        rintro u8 v7 ⟨rfl, x9, rfl, hx9a, hx9b, hx9r⟩
        refine ⟨_, rfl, ?_⟩
        show pw X d gh9 138 23 [some (.ref 16), some (pw_i b), some (pw_i e), some (pw_i k9_3)] [pw_i x9] _
        have hx9r : x9 = pw_g gh9 2 k9_3.toNat := hx9r
        rcases (by omega : x9 = 1 ∨ x9 = 0) with hb10 | hb10
        · have hb10 : x9 = 1 := by omega
          refine pw_if E (pc' := 69) rfl (by decide) (by omega) (by omega) ?_ ?_
          · intro hc11
            have hc11 : x9 = (0 : Int) := hc11
            exfalso; omega
          · intro hc12
            have hc12 : ¬ (x9 = (0 : Int)) := hc12
            refine pw_ld E (pc' := 27) (st' := [.ref 16]) rfl (fun _ => rfl) ?_
            refine pw_getR (b := 26) I9 E (c := 0) (k := 2) (pc' := 30) rfl rfl rfl rfl rfl rfl rfl ?_
            refine pw_ld E (pc' := 31) (st' := [pw_i k9_3, .ref 26]) rfl (fun _ => rfl) ?_
            refine pw_ld E (pc' := 32) (st' := [pw_i b, pw_i k9_3, .ref 26]) rfl (fun _ => rfl) ?_
            refine pw_ld E (pc' := 33) (st' := [pw_i e, pw_i b, pw_i k9_3, .ref 26]) rfl (fun _ => rfl) ?_
            obtain ⟨f13l, f13h, -⟩ := pw_obj (c := 10) I9 rfl
            refine pw_call (m' := 23) (As := [.ref 26, pw_i k9_3, pw_i b, pw_i e]) (rest := []) (ls'' := [some (.ref 26), some (pw_i k9_3), some (pw_i b), some (pw_i e)]) (by omega) E rfl (fun _ => pw_iV rfl rfl rfl rfl (pw_cellI f13h rfl)) (rfl : pm_ent 23 = some (4, 4, 2, 1, pmc_23)) rfl rfl (cm_23_10s (by omega) I9 (k9_3) (by omega) (by omega) (b) (by omega) (by omega) (e) (by omega) (by omega)) ?_
            rintro u15 v14 ⟨rfl, x16, rfl, hx16a, hx16b, hx16r⟩
            refine ⟨_, rfl, ?_⟩
            show pw X d gh9 138 36 [some (.ref 16), some (pw_i b), some (pw_i e), some (pw_i k9_3)] [pw_i x16] _
            have hx16r : (x16 = 1 ∧ pw_g gh9 11 (k9_3 * 12 + b).toNat ≠ -2 ∧ pw_g gh9 11 (k9_3 * 12 + e).toNat ≠ -2) ∨ (x16 = 0 ∧ ¬ (pw_g gh9 11 (k9_3 * 12 + b).toNat ≠ -2 ∧ pw_g gh9 11 (k9_3 * 12 + e).toNat ≠ -2)) := hx16r
            rcases (by omega : x16 = 1 ∨ x16 = 0) with hb17 | hb17
            · have hb17 : x16 = 1 := by omega
              refine pw_if E (pc' := 69) rfl (by decide) (by omega) (by omega) ?_ ?_
              · intro hc18
                have hc18 : x16 = (0 : Int) := hc18
                exfalso; omega
              · intro hc19
                have hc19 : ¬ (x16 = (0 : Int)) := hc19
                refine pw_ld E (pc' := 40) (st' := [.ref 16]) rfl (fun _ => rfl) ?_
                refine pw_getR (b := 32) I9 E (c := 0) (k := 7) (pc' := 43) rfl rfl rfl rfl rfl rfl rfl ?_
                refine pw_ld E (pc' := 44) (st' := [pw_i k9_3, .ref 32]) rfl (fun _ => rfl) ?_
                refine pw_ld E (pc' := 45) (st' := [.ref 16, pw_i k9_3, .ref 32]) rfl (fun _ => rfl) ?_
                refine pw_getR (b := 17) I9 E (c := 0) (k := 0) (pc' := 48) rfl rfl rfl rfl rfl rfl rfl ?_
                refine pw_ld E (pc' := 49) (st' := [pw_i k9_3, .ref 17, pw_i k9_3, .ref 32]) rfl (fun _ => rfl) ?_
                obtain ⟨f20l, f20h, -⟩ := pw_obj (c := 1) I9 rfl
                refine pw_call (m' := 60) (As := [.ref 17, pw_i k9_3]) (rest := [pw_i k9_3, .ref 32]) (ls'' := [some (.ref 17), some (pw_i k9_3)]) (by omega) E rfl (fun _ => pw_iV rfl rfl rfl rfl (pw_cellI f20h rfl)) (rfl : pm_ent 60 = some (2, 2, 6, 0, pmc_60)) rfl rfl (cm_60 (by omega) I9 (k9_3) (by omega) (by omega)) ?_
                rintro u22 v21 ⟨rfl, x23, rfl, hx23a, hx23b, hx23r⟩
                refine ⟨_, rfl, ?_⟩
                show pw X d gh9 138 52 [some (.ref 16), some (pw_i b), some (pw_i e), some (pw_i k9_3)] [pw_i x23, pw_i k9_3, .ref 32] _
                have hx23r : x23 = pw_g gh9 4 k9_3.toNat := hx23r
                refine pw_ld E (pc' := 53) (st' := [.ref 16, pw_i x23, pw_i k9_3, .ref 32]) rfl (fun _ => rfl) ?_
                refine pw_getR (b := 26) I9 E (c := 0) (k := 2) (pc' := 56) rfl rfl rfl rfl rfl rfl rfl ?_
                refine pw_ld E (pc' := 57) (st' := [pw_i k9_3, .ref 26, pw_i x23, pw_i k9_3, .ref 32]) rfl (fun _ => rfl) ?_
                refine pw_ld E (pc' := 58) (st' := [pw_i b, pw_i k9_3, .ref 26, pw_i x23, pw_i k9_3, .ref 32]) rfl (fun _ => rfl) ?_
                refine pw_ld E (pc' := 59) (st' := [pw_i e, pw_i b, pw_i k9_3, .ref 26, pw_i x23, pw_i k9_3, .ref 32]) rfl (fun _ => rfl) ?_
                refine pw_ld E (pc' := 60) (st' := [.ref 16, pw_i e, pw_i b, pw_i k9_3, .ref 26, pw_i x23, pw_i k9_3, .ref 32]) rfl (fun _ => rfl) ?_
                refine pw_getI I9 E (c := 0) (k := 6) (pc' := 63) rfl rfl rfl rfl rfl rfl (fun hf24a hf24b hf24c hf24d => ?_)
                obtain ⟨f25l, f25h, -⟩ := pw_obj (c := 10) I9 rfl
                refine pw_call (m' := 24) (As := [.ref 26, pw_i k9_3, pw_i b, pw_i e, pw_i (pw_g gh9 0 6)]) (rest := [pw_i x23, pw_i k9_3, .ref 32]) (ls'' := [some (.ref 26), some (pw_i k9_3), some (pw_i b), some (pw_i e), some (pw_i (pw_g gh9 0 6))]) (by omega) E rfl (fun _ => pw_iV rfl rfl rfl rfl (pw_cellI f25h rfl)) (rfl : pm_ent 24 = some (5, 5, 2, 0, pmc_24)) rfl rfl (cm_24_10s (by omega) I9 (k9_3) (by omega) (by omega) (b) (by omega) (by omega) (e) (by omega) (by omega) (pw_g gh9 0 6) (by omega) (by omega)) ?_
                rintro u27 v26 ⟨rfl, x28, rfl, hx28a, hx28b, hx28r⟩
                refine ⟨_, rfl, ?_⟩
                show pw X d gh9 138 66 [some (.ref 16), some (pw_i b), some (pw_i e), some (pw_i k9_3)] [pw_i x28, pw_i x23, pw_i k9_3, .ref 32] _
                have hx28r : x28 = pw_hc (pw_g gh9 11 (k9_3 * 12 + e).toNat) (pw_g gh9 0 6) - pw_hc (pw_g gh9 11 (k9_3 * 12 + b).toNat) (pw_g gh9 0 6) := hx28r
                have hch : pv_chc h b e (k9_3).toNat = x28 := by rw [hx28r, qb, qe, q6]; exact pv_chcI (by omega)
                obtain ⟨f29l, f29h, -⟩ := pw_obj (c := 16) I9 rfl
                refine pw_call (m' := 82) (As := [.ref 32, pw_i k9_3, pw_i x23, pw_i x28]) (rest := []) (ls'' := [some (.ref 32), some (pw_i k9_3), some (pw_i x23), some (pw_i x28)]) (by omega) E rfl (fun _ => pw_iV rfl rfl rfl rfl (pw_cellI f29h rfl)) (rfl : pm_ent 82 = some (4, 4, 8, 4, pmc_82)) rfl rfl (cm_82_s (by omega) I9 (k9_3) (by omega) (by omega) (x23) (by omega) (by omega) (x28) (by omega) (by omega)) ?_
                rintro h30 v31 ⟨h30I, h30E, hqput, rfl⟩
                refine ⟨_, rfl, ?_⟩
                have h30F := E9.tr (h30E.wk (W' := [17, 18]) (by first | rfl | simp))
                show pw X d h30 138 69 [some (.ref 16), some (pw_i b), some (pw_i e), some (pw_i k9_3)] [] _
                refine pw_inc E (pc' := 72) (ls' := [some (.ref 16), some (pw_i b), some (pw_i e), some (pw_i (k9_3 + 1))]) rfl rfl rfl rfl ?_
                refine pw_goto E (pc' := 9) rfl (by decide) ?_
                exact ih9 _ (by omega) (k9_3 + 1) h30 h30I h30F (by omega) (by omega) (by first | exact pv_FL.yes hx9_0 (by omega) hqput.1 hqput.2 (by omega) hch | exact pv_FL.no hx9_0 (by omega) (by omega)) rfl
            · have hb32 : x16 = 0 := by omega
              refine pw_if E (pc' := 69) rfl (by decide) (by omega) (by omega) ?_ ?_
              · intro hc33
                have hc33 : x16 = (0 : Int) := hc33
                refine pw_inc E (pc' := 72) (ls' := [some (.ref 16), some (pw_i b), some (pw_i e), some (pw_i (k9_3 + 1))]) rfl rfl rfl rfl ?_
                refine pw_goto E (pc' := 9) rfl (by decide) ?_
                exact ih9 _ (by omega) (k9_3 + 1) gh9 I9 E9 (by omega) (by omega) (by first | exact pv_FL.yes hx9_0 (by omega) hqput.1 hqput.2 (by omega) hch | exact pv_FL.no hx9_0 (by omega) (by omega)) rfl
              · intro hc34
                have hc34 : ¬ (x16 = (0 : Int)) := hc34
                exfalso; omega
        · have hb35 : x9 = 0 := by omega
          refine pw_if E (pc' := 69) rfl (by decide) (by omega) (by omega) ?_ ?_
          · intro hc36
            have hc36 : x9 = (0 : Int) := hc36
            refine pw_inc E (pc' := 72) (ls' := [some (.ref 16), some (pw_i b), some (pw_i e), some (pw_i (k9_3 + 1))]) rfl rfl rfl rfl ?_
            refine pw_goto E (pc' := 9) rfl (by decide) ?_
            exact ih9 _ (by omega) (k9_3 + 1) gh9 I9 E9 (by omega) (by omega) (by first | exact pv_FL.yes hx9_0 (by omega) hqput.1 hqput.2 (by omega) hch | exact pv_FL.no hx9_0 (by omega) (by omega)) rfl
          · intro hc37
            have hc37 : ¬ (x9 = (0 : Int)) := hc37
            exfalso; omega
  exact L9 _ (0) h2 h2I h2F (by omega) (by omega) (pv_FL.z hqclear) rfl
