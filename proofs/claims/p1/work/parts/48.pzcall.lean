/-! the steps of the number machine, against those of the picture machine: switches, ends, calls -/
theorem pz_tgs_get {pc : Nat} : ∀ {offs : List Int} {tg : List Nat}, pz_tgs pc offs = some tg → tg.length = offs.length ∧ ∀ (k t : Nat), tg[k]? = some t → ∃ o : Int, offs[k]? = some o ∧ (pc : Int) + o = .ofNat t
  | [], tg, h => by
    have h : some [] = some tg := h
    cases h
    exact ⟨rfl, fun k t q => by simp at q⟩
  | o :: r, tg, h => by
    unfold pz_tgs at h
    split at h
    · rename_i t l ht hl
      cases h
      obtain ⟨h1, h2⟩ := pz_tgs_get hl
      refine ⟨by rw [List.length_cons, List.length_cons, h1], fun k t' q => ?_⟩
      cases k with
      | zero =>
        have q : some t = some t' := q
        cases q
        exact ⟨o, rfl, ht⟩
      | succ k =>
        have q : l[k]? = some t' := q
        exact h2 k t' q
    · cases h
theorem pz_tsw_eq {pc : Nat} {a : Int32} {lo hi df : Int} {offs : Array Int} {tg : List Nat} {A dt : Nat} (K : Nat → pm_R) (h1 : pz_tgs pc offs.toList = some tg) (hd : (pc : Int) + df = .ofNat dt) (hh : hi = lo + tg.length - 1) (hlo : -2147483648 ≤ lo) (hA : A = (lo + 2147483648).toNat) :
    (A ≤ pz_b a → pz_b a - A < tg.length → ∃ t, tg[pz_b a - A]? = some t ∧ pm_tsw a.toInt lo hi df offs (fun o => pm_to ((pc : Int) + o) K) = K t) ∧ (¬ (A ≤ pz_b a ∧ pz_b a - A < tg.length) → pm_tsw a.toInt lo hi df offs (fun o => pm_to ((pc : Int) + o) K) = K dt) := by
  obtain ⟨l1, l2⟩ := pz_tgs_get h1
  have hx := pz_toInt a
  generalize pz_b a = w at hx
  refine ⟨fun q1 q2 => ?_, fun q => ?_⟩
  · obtain ⟨t, ht⟩ : ∃ t, tg[w - A]? = some t := ⟨_, List.getElem?_eq_getElem q2⟩
    obtain ⟨o, ho, hpo⟩ := l2 _ _ ht
    refine ⟨t, ht, ?_⟩
    unfold pm_tsw
    rw [if_neg (by omega), pm_nth_eq, show (a.toInt - lo).toNat = w - A by omega, ho]
    exact pz_to_eq hpo K
  · unfold pm_tsw
    rw [if_pos (by omega)]
    exact pz_to_eq hd K
def pz_vm (M : pz_M) : Prop := ∃ e, pm_ent M.1 = some e ∧ M.2.1 = e.2.1 ∧ M.2.2.1 = e.2.2.1 ∧ M.2.2.2.1 = e.2.2.2.1 ∧ M.2.2.2.2 = pz_encM e
/-! locals at a method's start -/
theorem pz_geo : ∀ n : Nat, ∃ g : Nat, 2 ^ (72 * n) = 4722366482869645213695 * g + 1 ∧ (Nat.div (Nat.sub (Nat.pow 2 (Nat.mul 72 n)) 1) 4722366482869645213695 = g)
  | 0 => ⟨0, rfl, rfl⟩
  | n + 1 => by
    obtain ⟨g, h1, -⟩ := pz_geo n
    have e : 2 ^ (72 * (n + 1)) = 4722366482869645213695 * (1 + 4722366482869645213696 * g) + 1 := by
      rw [show 72 * (n + 1) = 72 * n + 72 by omega, Nat.pow_add, h1, show (2 : Nat) ^ 72 = 4722366482869645213696 from rfl]
      omega
    refine ⟨_, e, ?_⟩
    have e2 : Nat.pow 2 (Nat.mul 72 (n + 1)) = 2 ^ (72 * (n + 1)) := rfl
    rw [e2, e]
    show (4722366482869645213695 * (1 + 4722366482869645213696 * g) + 1 - 1) / 4722366482869645213695 = _
    rw [Nat.add_sub_cancel, Nat.mul_div_cancel_left _ (by decide)]
theorem pz_rep_succ (e n : Nat) : pz_rp0 e (n + 1) = e + 4722366482869645213696 * pz_rp0 e n := by
  obtain ⟨g, h1, h2⟩ := pz_geo n
  obtain ⟨g', h3, h4⟩ := pz_geo (n + 1)
  have hg : g' = 1 + 4722366482869645213696 * g := by
    rw [show 72 * (n + 1) = 72 * n + 72 by omega, Nat.pow_add, h1, show (2 : Nat) ^ 72 = 4722366482869645213696 from rfl] at h3
    omega
  unfold pz_rp0
  rw [h2, h4, hg]
  show e * (1 + 4722366482869645213696 * g) = e + 4722366482869645213696 * (e * g)
  rw [Nat.mul_add, Nat.mul_one, Nat.mul_left_comm]
theorem pz_rp0_sl {e : Nat} (he : e < 2 ^ 72) : ∀ (n k : Nat), k < n → pz_s0 (pz_rp0 e n) k = e
  | 0, k, h => by omega
  | n + 1, 0, _ => by rw [pz_rep_succ, pz_cons0 he]
  | n + 1, k + 1, h => by rw [pz_rep_succ, pz_cons1 he, pz_rp0_sl he n k (by omega)]
theorem pz_rep_sl {e : Nat} (he : e < 2 ^ 72) (n k : Nat) (h : k < n) : pz_sl (pz_rep e n) k = e := by
  have e1 : pz_rep e n = 4722366482869645213696 * pz_rp0 e n := rfl
  rw [e1, pz_sW, pz_rp0_sl he n k h]
def pz_l0 (V : pz_V) (n L : Nat) : pm_L := (List.range n).map fun k => pz_o V (pz_s0 L k)
theorem pz_l0_eq (V : pz_V) (n L : Nat) : pz_l V n (pz_L0 L) = pz_l0 V n L := by
  have e1 : pz_L0 L = 4722366482869645213696 * L := rfl
  unfold pz_l pz_l0
  rw [e1]
  apply List.map_congr_left
  intro k _
  rw [pz_sW]
theorem pz_l_cons {V : pz_V} {n c L : Nat} (hc : c < 2 ^ 72) : pz_l0 V (n + 1) (c + 4722366482869645213696 * L) = pz_o V c :: pz_l0 V n L := by
  unfold pz_l0
  rw [List.range_succ_eq_map, List.map_cons, List.map_map, pz_cons0 hc]
  congr 1
  apply List.map_congr_left
  intro k _
  show pz_o V (pz_s0 (c + 4722366482869645213696 * L) (k + 1)) = _
  rw [pz_cons1 hc]
theorem pz_okv_t {c : Nat} (h : pz_okv c = true) : c < 2 ^ 72 ∧ c % 8 ≠ 7 := by
  unfold pz_okv at h
  rw [Bool.and_eq_true] at h
  refine ⟨pz_small_lt h.1, fun q => ?_⟩
  have h2 := h.2
  have q : Nat.mod c 8 = 7 := q
  rw [q] at h2
  cases h2
theorem pz_lay_e0 {V : pz_V} : ∀ (As : List Nat) (n : Nat), pz_wd As ≤ n → (∀ c ∈ As, c < 2 ^ 72 ∧ c % 8 ≠ 7) → pz_l0 V n (pz_lay As n) = pm_lay (As.map (pz_v V)) n
  | [], n, _, _ => by
    show pz_l0 V n (pz_non n) = pm_lay [] n
    rw [pm_lay_nil]
    have e : pz_non n = pz_rp0 7 n := rfl
    refine List.eq_replicate_iff.mpr ⟨by unfold pz_l0; rw [List.length_map, List.length_range], fun b hb => ?_⟩
    unfold pz_l0 at hb
    obtain ⟨k, hk, rfl⟩ := List.mem_map.mp hb
    rw [e, pz_rp0_sl (by decide) n k (List.mem_range.mp hk), pz_o7]
  | c :: As, n, hw, ha => by
    obtain ⟨c1, c2⟩ := ha c List.mem_cons_self
    have hw : cond (Nat.beq (Nat.mod c 4) 1) (Nat.succ (Nat.succ (pz_wd As))) (Nat.succ (pz_wd As)) ≤ n := hw
    have e : pz_lay (c :: As) n = cond (Nat.beq (Nat.mod c 4) 1) (c + 4722366482869645213696 * (7 + 4722366482869645213696 * pz_lay As (n - 2))) (c + 4722366482869645213696 * pz_lay As (n - 1)) := rfl
    rw [e, List.map_cons]
    cases hb : Nat.beq (Nat.mod c 4) 1 with
    | true =>
      rw [hb, cond_true] at hw
      have h1 : c % 4 = 1 := Nat.eq_of_beq_eq_true hb
      have hcat : (pz_v V c).category = 2 := by rw [pz_cat, if_pos h1]
      have hw : pz_wd As + 1 + 1 ≤ n := hw
      rw [cond_true, pm_lay_cons2 hcat, ← pz_lay_e0 As (n - 2) (by omega) (fun c hc => ha c (List.mem_cons_of_mem _ hc))]
      obtain ⟨k, rfl⟩ : ∃ k, n = k + 2 := ⟨n - 2, by omega⟩
      rw [show k + 2 - 2 = k by omega, show k + 2 = (k + 1) + 1 from rfl, pz_l_cons c1, pz_l_cons (by decide), pz_o_some c2, pz_o7]
    | false =>
      rw [hb, cond_false] at hw
      have h1 : ¬ c % 4 = 1 := fun q => by
        have q : Nat.mod c 4 = 1 := q
        rw [q] at hb; cases hb
      have hcat : ¬ (pz_v V c).category = 2 := by rw [pz_cat, if_neg h1]; decide
      have hw : pz_wd As + 1 ≤ n := hw
      rw [cond_false, pm_lay_cons1 hcat, ← pz_lay_e0 As (n - 1) (by omega) (fun c hc => ha c (List.mem_cons_of_mem _ hc))]
      obtain ⟨k, rfl⟩ : ∃ k, n = k + 1 := ⟨n - 1, by omega⟩
      rw [show k + 1 - 1 = k by omega, pz_l_cons c1, pz_o_some c2]
theorem pz_lay_eq {V : pz_V} (As : List Nat) (n : Nat) (h1 : pz_wd As ≤ n) (h2 : ∀ c ∈ As, c < 2 ^ 72 ∧ c % 8 ≠ 7) : pz_l V n (pz_L0 (pz_lay As n)) = pm_lay (As.map (pz_v V)) n := by
  rw [pz_l0_eq, pz_lay_e0 As n h1 h2]
theorem pz_eq_T {α : Type} {e : α → α → Bool} (he : ∀ x y, e x y = true → x = y) : ∀ {a b : List α}, pz_eq e a b = true → a = b
  | [], [], _ => rfl
  | [], y :: b, h => by cases h
  | x :: a, [], h => by cases h
  | x :: a, y :: b, h => by
    have h : cond (e x y) (pz_eq e a b) false = true := h
    cases hb : e x y with
    | false => rw [hb] at h; cases h
    | true =>
      rw [hb, cond_true] at h
      rw [he x y hb, pz_eq_T he h]
theorem pz_eqE_T {a b : pz_E} (h : pz_eqE a b = true) : a = b := by
  unfold pz_eqE at h
  rw [Bool.and_eq_true] at h
  have h1 := pz_eq_T (fun x y q => by
    rw [Bool.and_eq_true] at q
    exact Prod.ext (Nat.eq_of_beq_eq_true q.1) (Nat.eq_of_beq_eq_true q.2)) h.1
  have h2 := pz_eq_T (fun x y q => by
    rw [Bool.and_eq_true, Bool.and_eq_true] at q
    refine Prod.ext (Nat.eq_of_beq_eq_true q.1) (Prod.ext (Nat.eq_of_beq_eq_true q.2.1) ?_)
    have q3 := q.2.2
    cases hx : x.2.2 <;> cases hy : y.2.2 <;> rw [hx, hy] at q3 <;> first | rfl | cases q3) h.2
  exact Prod.ext h1 h2
theorem pz_eqs {α : Type} {e : α → α → Bool} {R : α → α → Prop} (he : ∀ x y, e x y = true → R x y) : ∀ {a b : List α}, pz_eq e a b = true → ∀ k : Nat, (a[k]? = none ∧ b[k]? = none) ∨ ∃ x y, a[k]? = some x ∧ b[k]? = some y ∧ R x y
  | [], [], _, k => Or.inl ⟨by simp, by simp⟩
  | [], y :: b, h, k => by cases h
  | x :: a, [], h, k => by cases h
  | x :: a, y :: b, h, k => by
    have h : cond (e x y) (pz_eq e a b) false = true := h
    cases hb : e x y with
    | false => rw [hb] at h; cases h
    | true =>
      rw [hb, cond_true] at h
      cases k with
      | zero => exact Or.inr ⟨x, y, rfl, rfl, he x y hb⟩
      | succ k => exact pz_eqs he h k
theorem pz_c_eq {V : pz_V} {x y : pz_C} (h1 : x.1 = y.1) (h2 : x.2.1 = y.2.1) (h3 : x.2.2 >>> 72 = y.2.2 >>> 72) : pz_c V x = pz_c V y := by
  have hs : ∀ j, pz_sl x.2.2 j = pz_sl y.2.2 j := fun j => by rw [pz_sS, pz_sS, h3]
  unfold pz_c
  rw [h1, h2]
  simp only [hs]
theorem pz_eqH_T {a b : pz_H} (h : pz_eqH a b = true) (V : pz_V) : pz_h V a = pz_h V b := by
  unfold pz_eqH at h
  rw [Bool.and_eq_true] at h
  have h1 := Nat.eq_of_beq_eq_true h.1
  have h2 := pz_eqs (R := fun r s => ∀ k : Nat, (r[k]? = none ∧ s[k]? = none) ∨ ∃ x y, r[k]? = some x ∧ s[k]? = some y ∧ pz_c V x = pz_c V y) (fun r s q => pz_eqs (fun x y q => by
    rw [Bool.and_eq_true, Bool.and_eq_true] at q
    exact pz_c_eq (Nat.eq_of_beq_eq_true q.1) (Nat.eq_of_beq_eq_true q.2.1) (Nat.eq_of_beq_eq_true q.2.2)) q) h.2
  unfold pz_h
  rw [h1]
  apply List.map_congr_left
  intro k _
  rw [pz_at_eq, pz_at_eq]
  rcases h2 (k / 16) with ⟨g1, g2⟩ | ⟨r, s, g1, g2, g3⟩
  · rw [g1, g2]
  · rw [g1, g2]
    show pz_c V ((r[k % 16]?).getD (99, 0, 0)) = pz_c V ((s[k % 16]?).getD (99, 0, 0))
    rcases g3 (k % 16) with ⟨u1, u2⟩ | ⟨x, y, u1, u2, u3⟩
    · rw [u1, u2]
    · rw [u1, u2]
      exact u3
theorem pz_mem_some {n m d : Nat} {As : List Nat} {C : pz_E} {h : pz_H} {os : List pz_O} : ∀ {Z : List pz_Q}, pz_mem (n, Z) m d As C h = some os → ∃ h', (n, m, d, As, C, h', os) ∈ Z ∧ ∀ V, pz_h V h' = pz_h V h
  | [], q => by cases q
  | z :: Z, q => by
    have q : cond (Nat.beq z.2.1 m) (cond (Nat.beq z.1 n && (Nat.beq z.2.2.1 d && (pz_eq Nat.beq z.2.2.2.1 As && (pz_eqE z.2.2.2.2.1 C && pz_eqH z.2.2.2.2.2.1 h)))) (some z.2.2.2.2.2.2) (pz_mem (n, Z) m d As C h)) (pz_mem (n, Z) m d As C h) = some os := q
    rcases pz_c2 q with ⟨h1, q1⟩ | ⟨-, q1⟩
    · rcases pz_c2 q1 with ⟨h2, q2⟩ | ⟨-, q2⟩
      · simp only [Bool.and_eq_true] at h2
        obtain ⟨a0, a1, a2, a3, a4⟩ := h2
        have e0 := Nat.eq_of_beq_eq_true a0
        have e1 := Nat.eq_of_beq_eq_true h1
        have e2 := Nat.eq_of_beq_eq_true a1
        have e3 := pz_eq_T (fun x y q => Nat.eq_of_beq_eq_true q) a2
        have e4 := pz_eqE_T a3
        have e6 := Option.some.inj q2
        obtain ⟨z0, z1, z2, z3, z4, z5, z6⟩ := z
        dsimp only at e0 e1 e2 e3 e4 e6 a4
        subst e0; subst e1; subst e2; subst e3; subst e4; subst e6
        exact ⟨z5, List.mem_cons_self, fun V => pz_eqH_T a4 V⟩
      · obtain ⟨h', g1, g2⟩ := pz_mem_some q2
        exact ⟨h', List.mem_cons_of_mem _ g1, g2⟩
    · obtain ⟨h', g1, g2⟩ := pz_mem_some q1
      exact ⟨h', List.mem_cons_of_mem _ g1, g2⟩
/-- a call that is known ahead: so it goes, with the steps that it names -/
def pz_QS (V : pz_V) (q : pz_Q) (x : pm_I) : Prop := pz_k V q.2.2.2.2.1 → ∃ e, pm_ent q.2.1 = some e ∧ (pm_lay (q.2.2.2.1.map (pz_v V)) e.2.1).length = e.2.1 ∧ pz_T V q.2.2.2.2.2.2 (x q.2.2.1 (pz_h V q.2.2.2.2.2.1) q.2.1 0 (pm_lay (q.2.2.2.1.map (pz_v V)) e.2.1) [])
def pz_ZS (V : pz_V) (Z : pz_Z) (x : pm_I) : Prop := ∀ q ∈ Z.2, q.1 = Z.1 → pz_QS V q x
/-- what the picture machine does with a call's end -/
noncomputable def pz_aft (x : pm_I) (d : Nat) (m pc : Nat) (ls : pm_L) (rest : List Value) (hnd : Bool) (r : pm_R) : pm_R := match r with
      | some (h', .inl v) => pm_fn (pc + 3) fun q => x d h' m q ls (v.toList ++ rest)
      | some (h', .inr _) => cond hnd (some (h', .inl (some (.int 1)))) none
      | none => none
theorem pz_call_eq {x : pm_I} {d' : Nat} {h : pm_H} {m pc : Nat} {ls : pm_L} {m' : Nat} {As rest : List Value} {hnd : Bool} {e : pm_M} (he : pm_ent m' = some e) (hl : (pm_lay As e.2.1).length = e.2.1) : pm_call x (d' + 1) h m pc ls m' As rest hnd = pz_aft x (d' + 1) m pc ls rest hnd (x d' h m' 0 (pm_lay As e.2.1) []) := by
  unfold pm_call pz_aft
  dsimp only
  rw [he]
  dsimp only
  rw [pm_len_eq, hl, pz_beq_t, cond_true]
  rfl
theorem pz_r0 (V : pz_V) : pz_r V 0 = .inl none := rfl
theorem pz_r1 (V : pz_V) : pz_r V 1 = .inr () := rfl
theorem pz_r2 (V : pz_V) {r : Nat} (h0 : r ≠ 0) (h1 : r ≠ 1) : pz_r V r = .inl (some (pz_v V (r - 2))) := by
  unfold pz_r
  rw [if_neg h0, if_neg h1]
theorem pz_bk_T {V : pz_V} {ih : pz_J} {x : pm_I} {d : Nat} {M : pz_M} {pc L : Nat} {rest : List Nat} {hnd : Bool} {o : pz_O} {u : List pz_O} (hK : pz_S V ih x d M) (e0 : pz_bk ih d M pc L rest hnd o = some u) (hk : pz_k V o.1) : pz_T V u (pz_aft x d M.1 pc (pz_l V M.2.1 L) (rest.map (pz_v V)) hnd (some (pz_h V o.2.1, pz_r V o.2.2))) := by
  obtain ⟨C, h, r⟩ := o
  have e1 : cond (Nat.beq r 0) (pz_nx ih C d h M pc 3 L rest) (cond (Nat.beq r 1) (cond hnd (some [(C, h, 10)]) none) (pm_fn (Nat.sub r 2) fun v => pz_nx ih C d h M pc 3 L (v :: rest))) = some u := e0
  have hk : pz_k V C := hk
  show pz_T V u (pz_aft x d M.1 pc (pz_l V M.2.1 L) (rest.map (pz_v V)) hnd (some (pz_h V h, pz_r V r)))
  rcases pz_c2 e1 with ⟨h0, e3⟩ | ⟨h0, e3⟩
  · have h0 := Nat.eq_of_beq_eq_true h0
    rw [pz_nx_eq] at e3
    rw [h0, pz_r0]
    show pz_T V u (pm_fn (pc + 3) fun q => x d (pz_h V h) M.1 q (pz_l V M.2.1 L) (rest.map (pz_v V)))
    rw [pm_fn_eq]
    exact hK _ _ _ _ _ _ hk e3
  · have n0 : r ≠ 0 := fun q => by rw [q] at h0; cases h0
    rcases pz_c2 e3 with ⟨h1, e4⟩ | ⟨h1, e4⟩
    · have h1 := Nat.eq_of_beq_eq_true h1
      rw [h1, pz_r1]
      show pz_T V u (cond hnd (some (pz_h V h, .inl (some (.int 1)))) none)
      obtain ⟨q1, q2⟩ := pz_ct e4
      cases q2
      rw [q1]
      refine ⟨_, List.mem_cons_self, hk, ?_⟩
      show some _ = some (pz_h V h, pz_r V 10)
      rw [pz_r2 V (by decide) (by decide), show (10 - 2 : Nat) = 8 * 1 from rfl, pz_vi]
      rfl
    · have n1 : r ≠ 1 := fun q => by rw [q] at h1; cases h1
      rw [pm_fn_eq, pz_nx_eq] at e4
      rw [pz_r2 V n0 n1]
      show pz_T V u (pm_fn (pc + 3) fun q => x d (pz_h V h) M.1 q (pz_l V M.2.1 L) (pz_v V (r - 2) :: rest.map (pz_v V)))
      rw [pm_fn_eq]
      exact hK _ _ _ _ _ _ hk e4
theorem pz_fold_T {V : pz_V} {ih : pz_J} {x : pm_I} {d : Nat} {M : pz_M} {pc L : Nat} {rest : List Nat} {hnd : Bool} {res : pm_R} (hK : pz_S V ih x d M) : ∀ {os0 os : List pz_O}, pz_fold ih d M pc L rest hnd os0 = some os → pz_T V os0 res → pz_T V os (pz_aft x d M.1 pc (pz_l V M.2.1 L) (rest.map (pz_v V)) hnd res)
  | [], os, h, hT => by
    obtain ⟨o, ho, -⟩ := hT
    cases ho
  | [o], os, h, hT => by
    have h : pz_bk ih d M pc L rest hnd o = some os := h
    obtain ⟨o', ho, hk, hres⟩ := hT
    rcases List.mem_cons.mp ho with rfl | ho
    · subst hres
      exact pz_bk_T hK h hk
    · cases ho
  | o :: o2 :: t, os, h, hT => by
    have h : pz_app (pz_bk ih d M pc L rest hnd o) (pz_fold ih d M pc L rest hnd (o2 :: t)) = some os := h
    obtain ⟨u, w, e1, e2, rfl⟩ := pz_app_some h
    obtain ⟨o', ho, hk, hres⟩ := hT
    rcases List.mem_cons.mp ho with rfl | ho
    · refine pz_T.mono ?_ fun o ho => List.mem_append_left _ ho
      subst hres
      exact pz_bk_T hK e1 hk
    · exact (pz_fold_T hK e2 ⟨o', ho, hk, hres⟩).mono fun o ho => List.mem_append_right _ ho
theorem pz_call_T {V : pz_V} {Z : pz_Z} {ih : pz_J} {x : pm_I} {C : pz_E} {d : Nat} {h : pz_H} {M : pz_M} {pc L m' : Nat} {As rest : List Nat} {hnd : Bool} {os : List pz_O} (hI : ∀ d' M', pz_vm M' → pz_S V ih x d' M') (hZ : pz_ZS V Z x) (hMt : ∀ m' M', pm_get pz_mt m' = some M' → pz_vm M' ∧ M'.1 = m') (hK : pz_S V ih x d M) (hC : pz_k V C)
    (hr : pz_call Z ih C d h M pc L m' As rest hnd = some os) : pz_T V os (pm_call x d (pz_h V h) M.1 pc (pz_l V M.2.1 L) m' (As.map (pz_v V)) (rest.map (pz_v V)) hnd) := by
  cases d with
  | zero => cases hr
  | succ d' =>
    unfold pz_call at hr
    cases hm : pz_mem Z m' d' As C h with
    | some os0 =>
      have hr : (Option.rec (Option.rec none (fun M' => cond (Nat.ble (pz_wd As) M'.2.1 && pm_all pz_okv As) (pm_fn (pz_L0 (pz_lay As M'.2.1)) fun L' => Option.rec none (fun os => pz_fold ih (d' + 1) M pc L rest hnd os) (ih C d' h M' 0 L' [])) none) (pm_get pz_mt m')) (fun os => pz_fold ih (d' + 1) M pc L rest hnd os) (pz_mem Z m' d' As C h) : pz_R) = some os := hr
      rw [hm] at hr
      obtain ⟨h', hm1, hm2⟩ := pz_mem_some hm
      have hz := hZ _ hm1 rfl hC
      obtain ⟨e, q1, q2, q3⟩ := hz
      have q3 : pz_T V os0 (x d' (pz_h V h') m' 0 (pm_lay (As.map (pz_v V)) e.2.1) []) := q3
      rw [hm2 V] at q3
      rw [pz_call_eq q1 q2]
      exact pz_fold_T hK hr q3
    | none =>
      have hr : (Option.rec (Option.rec none (fun M' => cond (Nat.ble (pz_wd As) M'.2.1 && pm_all pz_okv As) (pm_fn (pz_L0 (pz_lay As M'.2.1)) fun L' => Option.rec none (fun os => pz_fold ih (d' + 1) M pc L rest hnd os) (ih C d' h M' 0 L' [])) none) (pm_get pz_mt m')) (fun os => pz_fold ih (d' + 1) M pc L rest hnd os) (pz_mem Z m' d' As C h) : pz_R) = some os := hr
      rw [hm] at hr
      cases hg : pm_get pz_mt m' with
      | none => rw [hg] at hr; cases hr
      | some M' =>
        rw [hg] at hr
        obtain ⟨hv, hmm⟩ := hMt _ _ hg
        obtain ⟨hb, hr1⟩ := pz_ct hr
        rw [Bool.and_eq_true] at hb
        have hw := Nat.le_of_ble_eq_true hb.1
        have ha := hb.2
        rw [pm_all_eq, List.all_eq_true] at ha
        rw [pm_fn_eq] at hr1
        cases ho : ih C d' h M' 0 (pz_L0 (pz_lay As M'.2.1)) [] with
        | none => rw [ho] at hr1; cases hr1
        | some os0 =>
          rw [ho] at hr1
          have h1 := hI d' M' hv _ _ _ _ _ _ hC ho
          rw [pz_lay_eq As _ hw (fun c hc => pz_okv_t (ha c hc)), hmm] at h1
          obtain ⟨e, q1, q2, -⟩ := hv
          rw [hmm] at q1
          rw [q2] at h1
          have q3 : (pm_lay (As.map (pz_v V)) e.2.1).length = e.2.1 := by
            rw [← q2, ← pz_lay_eq As _ hw (fun c hc => pz_okv_t (ha c hc)), pz_l_len]
          rw [pz_call_eq q1 q3]
          exact pz_fold_T hK hr1 h1
theorem pz_pop_T {f : Nat → Value} {K : List Nat → List Nat → pz_R} {os : List pz_O} : ∀ (n : Nat) (st acc : List Nat), pz_pop n st acc K = some os → ∃ As rest, pm_pop n (st.map f) (acc.map f) = some (As.map f, rest.map f) ∧ K As rest = some os
  | 0, st, acc, h => ⟨acc, st, rfl, h⟩
  | n + 1, [], acc, h => by
    have h : (none : pz_R) = some os := h
    cases h
  | n + 1, v :: st, acc, h => pz_pop_T n st (v :: acc) h
theorem pz_wd_eq (V : pz_V) : ∀ l : List Nat, (List.rec 0 (fun v _ ih => v.category + ih) (l.map (pz_v V)) : Nat) = pz_wd l
  | [] => rfl
  | c :: l => by
    show (pz_v V c).category + (List.rec 0 (fun v _ ih => v.category + ih) (l.map (pz_v V)) : Nat) = cond (Nat.beq (Nat.mod c 4) 1) (Nat.succ (Nat.succ (pz_wd l))) (Nat.succ (pz_wd l))
    rw [pz_wd_eq V l, pz_cat]
    by_cases h : c % 4 = 1
    · have h2 : Nat.mod c 4 = 1 := h
      rw [if_pos h, h2]
      show 2 + pz_wd l = pz_wd l + 1 + 1
      omega
    · rw [if_neg h, show Nat.beq (Nat.mod c 4) 1 = false from pz_beq_f h]
      show 1 + pz_wd l = pz_wd l + 1
      omega
theorem pz_cat8 {V : pz_V} {l : List Nat} (h : Nat.ble (pz_wd l) 8 = true) : pm_cat8 (l.map (pz_v V)) = true := by
  unfold pm_cat8
  rw [pz_wd_eq]
  exact h
theorem pz_scs_T {f : Nat → Bool} : ∀ {k : Nat}, pz_scs f k = true → ∀ j, j < k → f j = true
  | 0, _, j, hj => by omega
  | k + 1, h, j, hj => by
    have h : cond (f k) (pz_scs f k) false = true := h
    cases hb : f k with
    | false => rw [hb] at h; cases h
    | true =>
      rw [hb, cond_true] at h
      by_cases hjk : j = k
      · rw [hjk]; exact hb
      · exact pz_scs_T h j (by omega)
theorem pz_scv_T {V : pz_V} {n c : Nat} (h : pz_scv n c = true) : pm_scv n (pz_v V c) = true := by
  unfold pz_scv at h
  rcases pz_c2 h with ⟨h2, h3⟩ | ⟨h2, -⟩
  · have h2 : c % 8 = 2 := Nat.eq_of_beq_eq_true h2
    rw [pz_v2 h2]
    exact h3
  · have n2 : c % 8 ≠ 2 := fun q => by
      have q : Nat.mod c 8 = 2 := q
      rw [q] at h2; cases h2
    unfold pz_v
    split
    · rfl
    · split
      · rfl
      · first
          | (rw [if_neg n2]; split; rfl; split <;> rfl)
          | (split; rfl; split <;> rfl)
theorem pz_scc_T {V : pz_V} {n : Nat} {q : pz_C} (h : pz_scc n q = true) : pm_scc n (pz_c V q) = true := by
  obtain ⟨t, m, P⟩ := q
  unfold pz_scc at h
  rcases pz_c2 h with ⟨h5, -⟩ | ⟨h5, h⟩
  · have h5 : t < 5 := pm_blt h5
    rw [pz_c_arr (by omega)]
    show cond (Nat.blt t 5) true _ = true
    rw [pz_blt_t h5]; rfl
  · have n5 : ¬ t < 5 := fun q => by rw [show Nat.blt t 5 = true from pz_blt_t q] at h5; cases h5
    rcases pz_c2 h with ⟨h9, h1⟩ | ⟨h9, h1⟩
    · have h9 : t < 99 := pm_blt h9
      rw [pz_c_arr h9]
      show cond (Nat.blt t 5) true (pm_all (pm_scv n) ((List.range m).map fun j => pz_e V t (pz_sl P j))) = true
      rw [pz_blt_f n5, cond_false, pm_all_eq, List.all_eq_true]
      intro v hv
      obtain ⟨j, hj, rfl⟩ := List.mem_map.mp hv
      have h2 := Nat.le_of_ble_eq_true (pz_scs_T h1 j (List.mem_range.mp hj))
      have h2 : pz_sl P j ≤ n := h2
      unfold pz_e
      rw [if_neg (by omega), if_neg n5]
      split
      · rfl
      · exact pz_blt_t (by omega)
    · rcases pz_c2 h1 with ⟨-, h2⟩ | ⟨h2, h3⟩
      · cases h2
      · have n9 : ¬ t < 99 := fun q => by rw [show Nat.blt t 99 = true from pz_blt_t q] at h9; cases h9
        have n99 : t ≠ 99 := fun q => by subst q; cases h2
        rw [show t = 100 + (t - 100) by omega, pz_c_obj]
        show pm_all (pm_scv n) ((List.range m).map fun j => pz_v V (pz_sl P j)) = true
        rw [pm_all_eq, List.all_eq_true]
        intro v hv
        obtain ⟨j, hj, rfl⟩ := List.mem_map.mp hv
        exact pz_scv_T (pz_scs_T h3 j (List.mem_range.mp hj))
theorem pz_scH_T {V : pz_V} {h : pz_H} (hs : pz_scH h = true) : pm_scH (pz_h V h) = true := by
  unfold pm_scH
  rw [pm_all_eq, List.all_eq_true, pm_len_eq, pz_h_len]
  intro c hc
  unfold pz_h at hc
  obtain ⟨k, hk, rfl⟩ := List.mem_map.mp hc
  have h1 := pz_scs_T hs k (List.mem_range.mp hk)
  cases hq : pz_at h.2 k with
  | none => rw [hq] at h1; cases h1
  | some q =>
    rw [hq] at h1
    exact pz_scc_T h1
