/-! switches, ends, calls, what is called by its meaning -/
section PzE
variable {V : pz_V} {ih : pz_J} {x : pm_I} {C : pz_E} {d : Nat} {h : pz_H} {M : pz_M} {pc len L own S : Nat} {st : List Nat} {os : List pz_O} {X : List (Nat × List Value)} {Z : pz_Z}
theorem pz_tTsw {df lo hi : Int} {offs : Array Int} {tg : List Nat} {A dt : Nat} (hK : pz_S V ih x d M) (hC : pz_k V C) (h1 : pz_tgs pc offs.toList = some tg) (hd : (pc : Int) + df = .ofNat dt) (hh : hi = lo + tg.length - 1) (hlo : -2147483648 ≤ lo) (hA : A = (lo + 2147483648).toNat) (hr : pz_gTsw A dt tg ih C d h M pc len L st = some os) : pz_T V os (pm_sTsw df lo hi offs (x d (pz_h V h) M.1) pc len (pz_l V M.2.1 L) (st.map (pz_v V))) := by
  unfold pz_gTsw at hr
  obtain ⟨w, r, e1, hr1⟩ := pz_p1_some hr
  clear hr
  subst e1
  have fin : ∀ (a : Int32) (C' : pz_E) (os' : List pz_O), pz_k V C' → pz_v V w = .int a → (A ≤ pz_b a → pz_b a - A < tg.length → ∀ t, tg[pz_b a - A]? = some t → ih C' d h M t L r = some os') → (¬ (A ≤ pz_b a ∧ pz_b a - A < tg.length) → ih C' d h M dt L r = some os') → pz_T V os' (pm_sTsw df lo hi offs (x d (pz_h V h) M.1) pc len (pz_l V M.2.1 L) ((w :: r).map (pz_v V))) := by
    intro a C' os' hC' hw g1 g2
    rw [List.map_cons, hw]
    show pz_T V os' (pm_tsw a.toInt lo hi df offs fun o => pm_to ((pc : Int) + o) fun t => x d (pz_h V h) M.1 t (pz_l V M.2.1 L) (r.map (pz_v V)))
    obtain ⟨k1, k2⟩ := pz_tsw_eq (a := a) (fun t => x d (pz_h V h) M.1 t (pz_l V M.2.1 L) (r.map (pz_v V))) h1 hd hh hlo hA
    by_cases hin : A ≤ pz_b a ∧ pz_b a - A < tg.length
    · obtain ⟨t, ht, hk⟩ := k1 hin.1 hin.2
      rw [hk]
      exact hK _ _ _ _ _ _ hC' (g1 hin.1 hin.2 t ht)
    · rw [k2 hin]
      exact hK _ _ _ _ _ _ hC' (g2 hin)
  rcases pz_c2 hr1 with ⟨h0, hr2⟩ | ⟨-, hr2⟩
  · have h0 : w % 8 = 0 := Nat.eq_of_beq_eq_true h0
    have eb : pz_bi (Nat.div w 8) = pz_b (Int32.ofNat (w / 8)) := (pz_b_of _).symm
    rw [pm_fn_eq, eb, pm_len_eq] at hr2
    refine fin (Int32.ofNat (w / 8)) C os hC (pz_v0 h0) (fun g1 g2 t ht => ?_) (fun g => ?_)
    · rw [Nat.ble_eq_true_of_le g1, show Nat.blt (Nat.sub (pz_b (Int32.ofNat (w / 8))) A) tg.length = true from pz_blt_t g2, Bool.and_self, cond_true] at hr2
      unfold pz_jmp at hr2
      rw [pm_nth_eq, show tg[Nat.sub (pz_b (Int32.ofNat (w / 8))) A]? = some t from ht] at hr2
      exact hr2
    · have hb : (Nat.ble A (pz_b (Int32.ofNat (w / 8))) && Nat.blt (Nat.sub (pz_b (Int32.ofNat (w / 8))) A) tg.length) = false := by
        cases hz : (Nat.ble A (pz_b (Int32.ofNat (w / 8))) && Nat.blt (Nat.sub (pz_b (Int32.ofNat (w / 8))) A) tg.length) with
        | false => rfl
        | true =>
          rw [Bool.and_eq_true] at hz
          exact absurd ⟨Nat.le_of_ble_eq_true hz.1, pm_blt hz.2⟩ g
      rw [hb, cond_false] at hr2
      exact hr2
  · obtain ⟨hb, hr3⟩ := pz_ct hr2
    simp only [Bool.and_eq_true] at hb
    obtain ⟨b1, b2, b3, b4⟩ := hb
    have b1 : w % 8 = 4 := Nat.eq_of_beq_eq_true b1
    have b2 : w / 8 < 16 := pm_blt b2
    have b3 : 0 < A := pm_blt b3
    obtain ⟨l, u, e, hr4⟩ := pz_ib_some hr3
    have e : C.1[w / 8]? = some (l, u) := e
    obtain ⟨k1, k2⟩ := hC.1 _ _ _ e
    have hwv : pz_v V w = .int (V.1 (w / 8)) := by rw [pz_v4 b1, pz_zi_off V b2]
    obtain ⟨o1, o2, q1, q2, rfl⟩ := pz_app_some hr4
    obtain ⟨o3, o4, q3, q4, rfl⟩ := pz_app_some q2
    rw [pm_len_eq] at q3 q4
    rw [pz_mn_eq] at q1
    rw [pz_mx_eq] at q3
    by_cases hin : A ≤ pz_b (V.1 (w / 8)) ∧ pz_b (V.1 (w / 8)) - A < tg.length
    · refine pz_T.mono ?_ fun o ho => List.mem_append_right _ (List.mem_append_right _ ho)
      refine pz_enum_T _ _ (pz_b (V.1 (w / 8))) q4 hin.1 (by omega) fun os' h' => ?_
      have h' : cond (Nat.ble l (pz_b (V.1 (w / 8))) && Nat.ble (pz_b (V.1 (w / 8))) u) (pm_fn (pz_b (V.1 (w / 8))) fun v => pz_jmp tg (Nat.sub v A) fun t => ih (pz_sC C (w / 8) v v) d h M t L r) (some []) = some os' := h'
      rw [Nat.ble_eq_true_of_le k1, Nat.ble_eq_true_of_le k2, Bool.and_self, cond_true, pm_fn_eq] at h'
      refine fin _ (pz_sC C (w / 8) (pz_b (V.1 (w / 8))) (pz_b (V.1 (w / 8)))) os' (hC.put (Nat.le_refl _) (Nat.le_refl _)) hwv (fun g1 g2 t ht => ?_) (fun g => absurd hin g)
      unfold pz_jmp at h'
      rw [pm_nth_eq, show tg[Nat.sub (pz_b (V.1 (w / 8))) A]? = some t from ht] at h'
      exact h'
    · by_cases hlt : pz_b (V.1 (w / 8)) < A
      · refine pz_T.mono ?_ fun o ho => List.mem_append_left _ ho
        refine pz_pt_T hC q1 k1 (by show pz_b (V.1 (w / 8)) ≤ min u (A - 1); omega) fun C' os' g1 g2 => ?_
        exact fin _ C' os' g1 hwv (fun z1 z2 => absurd ⟨z1, z2⟩ hin) (fun _ => g2)
      · refine pz_T.mono ?_ fun o ho => List.mem_append_right _ (List.mem_append_left _ ho)
        refine pz_pt_T hC q3 (by show max l (A + tg.length) ≤ pz_b (V.1 (w / 8)); omega) k2 fun C' os' g1 g2 => ?_
        exact fin _ C' os' g1 hwv (fun z1 z2 => absurd ⟨z1, z2⟩ hin) (fun _ => g2)
theorem pz_tRet {lo hi : Nat} (hhi : hi < 4) (hM : pz_vm M) (hC : pz_k V C) (hr : pz_gRet lo hi ih C d h M pc len L st = some os) : pz_T V os (pm_gRet lo hi x d (pz_h V h) M.1 own pc len (pz_l V M.2.1 L) (st.map (pz_v V))) := by
  unfold pz_gRet at hr
  obtain ⟨v, r, e1, hr1⟩ := pz_p1_some hr
  clear hr
  subst e1
  cases r with
  | cons a r => cases hr1
  | nil =>
    obtain ⟨hb, hr2⟩ := pz_ct (show cond (Nat.ble lo M.2.2.2.1 && (Nat.ble M.2.2.2.1 hi && pz_fit M.2.2.2.1 v)) (some [(C, h, Nat.add 2 v)]) none = some os from hr1)
    simp only [Bool.and_eq_true] at hb
    obtain ⟨b1, b2, b3⟩ := hb
    cases hr2
    obtain ⟨e, q1, q2, q3, q4, q5⟩ := hM
    rw [q4] at b1 b2 b3
    have b2' := Nat.le_of_ble_eq_true b2
    refine ⟨_, List.mem_cons_self, hC, ?_⟩
    show pm_gRet lo hi x d (pz_h V h) M.1 own pc len (pz_l V M.2.1 L) [pz_v V v] = some (pz_h V h, pz_r V (2 + v))
    unfold pm_gRet
    dsimp only
    rw [q1]
    dsimp only
    rw [b1, cond_true, b2, cond_true, pz_fit_ok (by omega) b3, cond_true, pz_r2 V (by omega) (by omega), show 2 + v - 2 = v by omega]
theorem pz_tRtv (hM : pz_vm M) (hC : pz_k V C) (hr : pz_gRtv ih C d h M pc len L st = some os) : pz_T V os (pm_gRtv x d (pz_h V h) M.1 own pc len (pz_l V M.2.1 L) (st.map (pz_v V))) := by
  unfold pz_gRtv at hr
  cases st with
  | cons a r => cases hr
  | nil =>
    obtain ⟨hb, hr2⟩ := pz_ct (show cond (Nat.beq M.2.2.2.1 4) (some [(C, h, 0)]) none = some os from hr)
    cases hr2
    obtain ⟨e, q1, q2, q3, q4, q5⟩ := hM
    rw [q4] at hb
    refine ⟨_, List.mem_cons_self, hC, ?_⟩
    show pm_gRtv x d (pz_h V h) M.1 own pc len (pz_l V M.2.1 L) [] = some (pz_h V h, .inl none)
    unfold pm_gRtv
    dsimp only
    rw [q1]
    dsimp only
    rw [hb, cond_true]
theorem pz_tThr {ix a b c : Nat} (hl : pm_get (pm_lnk own) ix = some (13, a, b, c)) (hC : pz_k V C) (hr : pz_gThr ih C d h M pc len L st = some os) : pz_T V os (pm_gNew X ix x d (pz_h V h) M.1 own pc len (pz_l V M.2.1 L) (st.map (pz_v V))) := by
  unfold pz_gThr at hr
  cases st with
  | cons a r => cases hr
  | nil =>
    obtain ⟨hb, hr2⟩ := pz_ct (show cond (pz_scH h) (some [(C, h, 1)]) none = some os from hr)
    cases hr2
    refine ⟨_, List.mem_cons_self, hC, ?_⟩
    show pm_gNew X ix x d (pz_h V h) M.1 own pc len (pz_l V M.2.1 L) [] = some (pz_h V h, .inr ())
    unfold pm_gNew
    rw [hl]
    show (cond (pm_scH (pz_h V h) && Nat.beq (pm_len ([] : List Value)) 0) (some (pz_h V h, .inr ())) none : pm_R) = _
    rw [pz_scH_T hb]
    rfl
theorem pz_pop_nil {n : Nat} {K : List Nat → List Nat → pz_R} (hr : pz_pop n st [] K = some os) : ∃ As rest, pm_pop n (st.map (pz_v V)) [] = some (As.map (pz_v V), rest.map (pz_v V)) ∧ K As rest = some os := pz_pop_T n st [] hr
/-- the picture machine's call, its link known -/
theorem pz_inv {how ix kind m' na ci : Nat} {As rest : List Value} {sv : List Value} {ls : pm_L} {H : pm_H} {m : Nat} (hl : pm_get (pm_lnk own) ix = some (kind, m', na, ci)) (h12 : kind ≠ 12) (hp : pm_pop na sv [] = some (As, rest)) (h8 : pm_cat8 rest = true) :
    pm_gInv X how ix x d H m own pc 3 ls sv = cond (Nat.beq kind how) (pm_gC how x d H m own pc ls m' ci As rest) (cond (Nat.beq kind 14 && (Nat.beq how 2 && Nat.beq own 13)) (cond (pm_all (pm_scl (16 + pm_len H)) ls && pm_all (pm_scv (16 + pm_len H)) rest) (pm_call x d H m pc ls m' As rest false) none) none) := by
  unfold pm_gInv
  rw [hl]
  dsimp only
  rw [pz_beq_f h12, cond_false, hp]
  dsimp only
  rw [h8, cond_true]
theorem pz_tInv {ix m' na ci : Nat} (hI : ∀ d' M', pz_vm M' → pz_S V ih x d' M') (hZ : pz_ZS V Z x) (hMt : ∀ m' M', pm_get pz_mt m' = some M' → pz_vm M' ∧ M'.1 = m') (hK : pz_S V ih x d M) (hC : pz_k V C) (hl : pm_get (pm_lnk own) ix = some (2, m', na, ci)) (hr : pz_gInv Z m' na ih C d h M pc len L st = some os) : pz_T V os (pm_gInv X 2 ix x d (pz_h V h) M.1 own pc 3 (pz_l V M.2.1 L) (st.map (pz_v V))) := by
  unfold pz_gInv at hr
  obtain ⟨As, rest, hp, hr1⟩ := pz_pop_nil (V := V) hr
  obtain ⟨h8, hr2⟩ := pz_ct hr1
  rw [pz_inv hl (by decide) hp (pz_cat8 h8), pz_beq_t, cond_true]
  exact pz_call_T hI hZ hMt hK hC hr2
theorem pz_tInvS {ix m' na ci : Nat} (hI : ∀ d' M', pz_vm M' → pz_S V ih x d' M') (hZ : pz_ZS V Z x) (hMt : ∀ m' M', pm_get pz_mt m' = some M' → pz_vm M' ∧ M'.1 = m') (hK : pz_S V ih x d M) (hC : pz_k V C) (hl : pm_get (pm_lnk own) ix = some (3, m', na, ci)) (hr : pz_gInvS Z m' na ih C d h M pc len L st = some os) : pz_T V os (pm_gInv X 3 ix x d (pz_h V h) M.1 own pc 3 (pz_l V M.2.1 L) (st.map (pz_v V))) := by
  unfold pz_gInvS at hr
  obtain ⟨As, rest, hp, hr1⟩ := pz_pop_nil (V := V) hr
  obtain ⟨h8, hr2⟩ := pz_ct hr1
  obtain ⟨c, r, e1, hr3⟩ := pz_p1_some hr2
  subst e1
  obtain ⟨hc, hr4⟩ := pz_ct hr3
  have hc : c % 8 = 2 := Nat.eq_of_beq_eq_true hc
  have hT := pz_call_T hI hZ hMt hK hC hr4
  rw [pz_inv hl (by decide) hp (pz_cat8 h8), pz_beq_t, cond_true]
  rw [List.map_cons, pz_v2 hc] at hT ⊢
  exact hT
theorem pz_tInvV {ix m' na ci : Nat} (hI : ∀ d' M', pz_vm M' → pz_S V ih x d' M') (hZ : pz_ZS V Z x) (hMt : ∀ m' M', pm_get pz_mt m' = some M' → pz_vm M' ∧ M'.1 = m') (hK : pz_S V ih x d M) (hC : pz_k V C) (hl : pm_get (pm_lnk M.2.2.1) ix = some (1, m', na, ci)) (hr : pz_gInvV Z m' na (100 + ci) ih C d h M pc len L st = some os) : pz_T V os (pm_gInv X 1 ix x d (pz_h V h) M.1 M.2.2.1 pc 3 (pz_l V M.2.1 L) (st.map (pz_v V))) := by
  unfold pz_gInvV at hr
  obtain ⟨As, rest, hp, hr1⟩ := pz_pop_nil (V := V) hr
  obtain ⟨h8, hr2⟩ := pz_ct hr1
  obtain ⟨c, r, e1, hr3⟩ := pz_p1_some hr2
  subst e1
  obtain ⟨hc, hr4⟩ := pz_ct hr3
  have hc : c % 8 = 2 := Nat.eq_of_beq_eq_true hc
  obtain ⟨⟨tg, n, P⟩, hq, hr5⟩ := pz_cell_some hr4
  have hq : 16 ≤ c / 8 ∧ c / 8 - 16 < h.1 ∧ pz_at h.2 (c / 8 - 16) = some (tg, n, P) := hq
  obtain ⟨ht, hr6⟩ := pz_ct hr5
  have ht : tg = 100 + ci := Nat.eq_of_beq_eq_true ht
  subst ht
  have hcell := pz_pmc (V := V) hq
  rw [pz_c_obj] at hcell
  have hT := pz_call_T hI hZ hMt hK hC hr6
  rw [pz_inv hl (by decide) hp (pz_cat8 h8), pz_beq_t, cond_true]
  rw [List.map_cons, pz_v2 hc] at hT ⊢
  show pz_T V os (match pm_cell (pz_h V h) (c / 8) with
      | some (.inr (cj, _)) => cond (Nat.beq cj ci) (pm_call x d (pz_h V h) M.1 pc (pz_l V M.2.1 L) m' (.ref (c / 8) :: r.map (pz_v V)) (rest.map (pz_v V)) (Nat.beq M.2.2.1 13 && !Nat.beq M.1 309)) none
      | _ => none)
  rw [hcell]
  show pz_T V os (cond (Nat.beq ci ci) _ none)
  rw [pz_beq_t, cond_true]
  exact hT
theorem pz_tInvH {ix m' na ci : Nat} (hI : ∀ d' M', pz_vm M' → pz_S V ih x d' M') (hZ : pz_ZS V Z x) (hMt : ∀ m' M', pm_get pz_mt m' = some M' → pz_vm M' ∧ M'.1 = m') (hK : pz_S V ih x d M) (hC : pz_k V C) (ho : own = 13) (hl : pm_get (pm_lnk own) ix = some (14, m', na, ci)) (hr : pz_gInvH Z m' na ih C d h M pc len L st = some os) : pz_T V os (pm_gInv X 2 ix x d (pz_h V h) M.1 own pc 3 (pz_l V M.2.1 L) (st.map (pz_v V))) := by
  unfold pz_gInvH at hr
  obtain ⟨As, rest, hp, hr1⟩ := pz_pop_nil (V := V) hr
  obtain ⟨hb, hr2⟩ := pz_ct hr1
  simp only [Bool.and_eq_true] at hb
  obtain ⟨h8, b1, b2⟩ := hb
  have e1 : pm_all (pm_scl (16 + pm_len (pz_h V h))) (pz_l V M.2.1 L) = true := by
    rw [pm_all_eq, List.all_eq_true, pm_len_eq, pz_h_len]
    intro o ho
    unfold pz_l at ho
    obtain ⟨k, hk, rfl⟩ := List.mem_map.mp ho
    have h1 := pz_scv_T (V := V) (pz_scs_T b1 k (List.mem_range.mp hk))
    unfold pz_o
    split
    · rfl
    · revert h1
      cases pz_v V (pz_sl L k) with
      | ref a => exact fun h1 => h1
      | int x => exact fun _ => rfl
      | long x => exact fun _ => rfl
      | float x => exact fun _ => rfl
      | double x => exact fun _ => rfl
      | null => exact fun _ => rfl
      | retAddr x => exact fun _ => rfl
  have e2 : pm_all (pm_scv (16 + pm_len (pz_h V h))) (rest.map (pz_v V)) = true := by
    rw [pm_all_eq, List.all_eq_true] at b2 ⊢
    rw [pm_len_eq, pz_h_len]
    intro v hv
    obtain ⟨c, hc, rfl⟩ := List.mem_map.mp hv
    exact pz_scv_T (b2 c hc)
  rw [pz_inv hl (by decide) hp (pz_cat8 h8), show Nat.beq 14 2 = false from rfl, cond_false, ho, show (Nat.beq 14 14 && (Nat.beq 2 2 && Nat.beq 13 13)) = true from rfl, cond_true, e1, e2, Bool.and_self, cond_true]
  exact pz_call_T hI hZ hMt hK hC hr2
/-- behind what is called by its meaning -/
theorem pz_prT {r : List Nat} {h' : pz_H} {H : pm_H} {sv : List Value} (hK : pz_S V ih x d M) (hC : pz_k V C) (hH : pz_h V h' = H) (hs : r.map (pz_v V) = sv) (hr : pz_pr ih C d h' M pc L r = some os) : pz_T V os ((fun h'' st' => cond (pm_cat8 st') (pm_fn (pc + 3) fun q => x d h'' M.1 q (pz_l V M.2.1 L) st') none) H sv) := by
  unfold pz_pr at hr
  obtain ⟨h8, hr1⟩ := pz_ct hr
  rw [pz_nx_eq] at hr1
  have := hK _ _ _ _ _ _ hC hr1
  subst hH
  subst hs
  show pz_T V os (cond (pm_cat8 (r.map (pz_v V))) (pm_fn (pc + 3) fun q => x d (pz_h V h') M.1 q (pz_l V M.2.1 L) (r.map (pz_v V))) none)
  rw [pz_cat8 h8, cond_true, pm_fn_eq]
  exact this
theorem pz_tP0 (hK : pz_S V ih x d M) (hC : pz_k V C) (hr : pz_gP0 ih C d h M pc len L st = some os) : pz_T V os (pm_p0 X (fun h' st' => cond (pm_cat8 st') (pm_fn (pc + 3) fun q => x d h' M.1 q (pz_l V M.2.1 L) st') none) (pz_h V h) (st.map (pz_v V))) := by
  unfold pz_gP0 at hr
  obtain ⟨c, r, e1, hr1⟩ := pz_p1_some hr
  clear hr
  subst e1
  obtain ⟨hc, hr2⟩ := pz_ct hr1
  have hc : c % 8 = 2 := Nat.eq_of_beq_eq_true hc
  rw [List.map_cons, pz_v2 hc]
  exact pz_prT hK hC rfl rfl hr2
theorem pz_tP2 (hK : pz_S V ih x d M) (hC : pz_k V C) (hr : pz_gP2 ih C d h M pc len L st = some os) : pz_T V os (pm_p2 X (fun h' st' => cond (pm_cat8 st') (pm_fn (pc + 3) fun q => x d h' M.1 q (pz_l V M.2.1 L) st') none) (pz_h V h) (st.map (pz_v V))) := by
  unfold pz_gP2 at hr
  obtain ⟨y, r1, e1, hr1⟩ := pz_p1_some hr
  obtain ⟨w, r, e2, hr2⟩ := pz_p1_some hr1
  clear hr hr1
  subst e2
  subst e1
  obtain ⟨hb, hr3⟩ := pz_ct hr2
  rw [Bool.and_eq_true] at hb
  have h0 : w % 8 = 0 := Nat.eq_of_beq_eq_true hb.1
  have h1 : y % 8 = 0 := Nat.eq_of_beq_eq_true hb.2
  rw [List.map_cons, List.map_cons, pz_v0 h0, pz_v0 h1]
  have ew : pz_bi (Nat.div w 8) = pz_b (Int32.ofNat (w / 8)) := (pz_b_of _).symm
  have ey : pz_bi (Nat.div y 8) = pz_b (Int32.ofNat (y / 8)) := (pz_b_of _).symm
  rw [ew, ey] at hr3
  show pz_T V os ((fun h'' st' => cond (pm_cat8 st') (pm_fn (pc + 3) fun q => x d h'' M.1 q (pz_l V M.2.1 L) st') none) (pz_h V h) (.int (if Int32.ofNat (y / 8) < Int32.ofNat (w / 8) then Int32.ofNat (y / 8) else Int32.ofNat (w / 8)) :: r.map (pz_v V)))
  rcases pz_c2 hr3 with ⟨hb2, hr4⟩ | ⟨hb2, hr4⟩
  · rw [if_pos (pz_b_lt.mpr (pm_blt hb2))]
    exact pz_prT hK hC rfl (by rw [List.map_cons, pz_v0 h1]) hr4
  · rw [if_neg (fun q => by rw [pz_blt_t (pz_b_lt.mp q)] at hb2; cases hb2)]
    exact pz_prT hK hC rfl (by rw [List.map_cons, pz_v0 h0]) hr4
theorem pz_tP4 (hK : pz_S V ih x d M) (hC : pz_k V C) (hr : pz_gP4 ih C d h M pc len L st = some os) : pz_T V os (pm_p4 X (fun h' st' => cond (pm_cat8 st') (pm_fn (pc + 3) fun q => x d h' M.1 q (pz_l V M.2.1 L) st') none) (pz_h V h) (st.map (pz_v V))) := by
  unfold pz_gP4 at hr
  obtain ⟨w, r, e1, hr1⟩ := pz_p1_some hr
  clear hr
  subst e1
  obtain ⟨hb, hr2⟩ := pz_ct hr1
  rw [Bool.and_eq_true] at hb
  have h1 : w % 8 = 1 := Nat.eq_of_beq_eq_true hb.1
  have h2 : w / 8 < 9223372036854775808 := pm_blt hb.2
  rw [List.map_cons, pz_v1 h1]
  show pz_T V os ((fun h'' st' => cond (pm_cat8 st') (pm_fn (pc + 3) fun q => x d h'' M.1 q (pz_l V M.2.1 L) st') none) (pz_h V h) (.long (if 0 < Int64.ofNat (w / 8) then Int64.ofNat (w / 8) else -Int64.ofNat (w / 8)) :: r.map (pz_v V)))
  have e : (if 0 < Int64.ofNat (w / 8) then Int64.ofNat (w / 8) else -Int64.ofNat (w / 8)) = Int64.ofNat (w / 8) := by
    by_cases h0 : 0 < w / 8
    · rw [if_pos]
      rw [Int64.lt_iff_toInt_lt, pz_toInt64 (Int64.ofNat (w / 8)), pz_bj_of]
      show (0 : Int) < (((w / 8 + 9223372036854775808) % 18446744073709551616 : Nat) : Int) - 9223372036854775808
      omega
    · rw [show w / 8 = 0 by omega]
      rfl
  rw [e]
  exact pz_prT hK hC rfl (by rw [List.map_cons, pz_v1 h1]) hr2
theorem pz_tP5 (hK : pz_S V ih x d M) (hC : pz_k V C) (hr : pz_gP5 ih C d h M pc len L st = some os) : pz_T V os (pm_p5 X (fun h' st' => cond (pm_cat8 st') (pm_fn (pc + 3) fun q => x d h' M.1 q (pz_l V M.2.1 L) st') none) (pz_h V h) (st.map (pz_v V))) := by
  unfold pz_gP5 at hr
  obtain ⟨n, r1, e1, hr1⟩ := pz_p1_some hr
  obtain ⟨dp, r2, e2, hr2⟩ := pz_p1_some hr1
  obtain ⟨c', r3, e3, hr3⟩ := pz_p1_some hr2
  obtain ⟨sp, r4, e4, hr4⟩ := pz_p1_some hr3
  obtain ⟨c, r, e5, hr5⟩ := pz_p1_some hr4
  clear hr hr1 hr2 hr3 hr4
  subst e5
  subst e4
  subst e3
  subst e2
  subst e1
  obtain ⟨hb, hr6⟩ := pz_ct hr5
  simp only [Bool.and_eq_true] at hb
  obtain ⟨b1, b2, b3, b4, b5⟩ := hb
  have b1 : n % 8 = 0 := Nat.eq_of_beq_eq_true b1
  have b2 : dp = 0 := Nat.eq_of_beq_eq_true b2
  have b3 : sp = 0 := Nat.eq_of_beq_eq_true b3
  have b4 : c' % 8 = 2 := Nat.eq_of_beq_eq_true b4
  have b5 : c % 8 = 2 := Nat.eq_of_beq_eq_true b5
  obtain ⟨⟨tg, m1, P⟩, hq, hr7⟩ := pz_cell_some hr6
  obtain ⟨⟨tg', m2, Q⟩, hq', hr8⟩ := pz_cell_some hr7
  have hq : 16 ≤ c / 8 ∧ c / 8 - 16 < h.1 ∧ pz_at h.2 (c / 8 - 16) = some (tg, m1, P) := hq
  have hq' : 16 ≤ c' / 8 ∧ c' / 8 - 16 < h.1 ∧ pz_at h.2 (c' / 8 - 16) = some (tg', m2, Q) := hq'
  obtain ⟨hb, hr9⟩ := pz_ct hr8
  simp only [Bool.and_eq_true] at hb
  obtain ⟨a1, a2, a3, a4, a5⟩ := hb
  have a1 : tg = 0 := Nat.eq_of_beq_eq_true a1
  have a2 : tg' = 0 := Nat.eq_of_beq_eq_true a2
  have a3 : n / 8 ≤ m1 := Nat.le_of_ble_eq_true a3
  have a4 : n / 8 = m2 := Nat.eq_of_beq_eq_true a4
  have a5 : n / 8 < 2147483648 := pm_blt a5
  subst a1
  subst a2
  rw [pm_fn_eq, pm_fn_eq, pm_fn_eq, show Nat.sub (Nat.div c' 8) 16 = c' / 8 - 16 from rfl, pz_hsK_eq hq'.2.2] at hr9
  have hrow := pz_pmr (V := V) (X := X) hq (pz_c_arr (V := V) (n := m1) (P := P) (show 0 < 99 by decide))
  have hcl := pz_pmc (V := V) hq'
  rw [pz_c_arr (by decide)] at hcl
  have v0 : pz_v V 0 = .int 0 := by rw [show (0 : Nat) = 8 * 0 from rfl, pz_vi]; rfl
  rw [List.map_cons, List.map_cons, List.map_cons, List.map_cons, List.map_cons, pz_v0 b1, b2, b3, v0, pz_v2 b4, pz_v2 b5]
  unfold pm_p5
  dsimp only
  rw [hrow, hcl]
  dsimp only
  have hcond : (Nat.beq 0 0 && (Nat.beq 0 0 && (Nat.ble 16 (c / 8) && (!decide (Int32.ofNat (n / 8) < 0) && (!decide ((0 : Int32) < 0) && (!decide ((0 : Int32) < 0) && (Nat.ble ((0 : Int32).toNatClampNeg + (Int32.ofNat (n / 8)).toNatClampNeg) (pm_len ((List.range m1).map fun j => pz_e V 0 (pz_sl P j))) && Nat.ble ((0 : Int32).toNatClampNeg + (Int32.ofNat (n / 8)).toNatClampNeg) (pm_len ((List.range m2).map fun j => pz_e V 0 (pz_sl Q j)))))))))) = true := by
    rw [pm_len_eq, pm_len_eq, List.length_map, List.length_map, List.length_range, List.length_range, pz_clamp a5, decide_eq_false (pz_nneg a5), Nat.ble_eq_true_of_le hq.1, show (0 : Int32).toNatClampNeg = 0 from rfl, Nat.ble_eq_true_of_le (show 0 + n / 8 ≤ m1 by omega), Nat.ble_eq_true_of_le (show 0 + n / 8 ≤ m2 by omega)]
    rfl
  rw [hcond, cond_true]
  refine pz_prT hK hC ?_ rfl hr9
  rw [pz_h_set (c := (0, m2, P)) hq'.2.2, pz_c_arr (by decide), pm_set_eq]
  congr 2
  rw [pz_clamp a5, show (0 : Int32).toNatClampNeg = 0 from rfl]
  unfold pm_cpy
  rw [List.take_zero, List.drop_zero, List.nil_append, List.drop_eq_nil_of_le (by rw [List.length_map, List.length_range]; omega), List.append_nil, ← List.map_take, List.take_range, Nat.min_eq_left a3, a4]
theorem pz_tP6 (hK : pz_S V ih x d M) (hC : pz_k V C) (hr : pz_gP6 ih C d h M pc len L st = some os) : pz_T V os (pm_p6 X (fun h' st' => cond (pm_cat8 st') (pm_fn (pc + 3) fun q => x d h' M.1 q (pz_l V M.2.1 L) st') none) (pz_h V h) (st.map (pz_v V))) := by
  unfold pz_gP6 at hr
  obtain ⟨w, r1, e1, hr1⟩ := pz_p1_some hr
  obtain ⟨c, r, e2, hr2⟩ := pz_p1_some hr1
  clear hr hr1
  subst e2
  subst e1
  obtain ⟨hb, hr3⟩ := pz_ct hr2
  simp only [Bool.and_eq_true] at hb
  obtain ⟨b1, b2, b3⟩ := hb
  have b1 : w % 8 = 0 := Nat.eq_of_beq_eq_true b1
  have b2 := pz_small_lt b2
  have b3 : c % 8 = 2 := Nat.eq_of_beq_eq_true b3
  obtain ⟨⟨tg, m, P⟩, hq, hr4⟩ := pz_cell_some hr3
  have hq : 16 ≤ c / 8 ∧ c / 8 - 16 < h.1 ∧ pz_at h.2 (c / 8 - 16) = some (tg, m, P) := hq
  obtain ⟨hb, hr5⟩ := pz_ct hr4
  rw [Bool.and_eq_true] at hb
  have a1 : tg = 0 := Nat.eq_of_beq_eq_true hb.1
  have a2 : m ≤ 60000 := Nat.le_of_ble_eq_true hb.2
  subst a1
  rw [pm_fn_eq, pm_fn_eq, pm_fn_eq, show Nat.sub (Nat.div c 8) 16 = c / 8 - 16 from rfl, pz_hsK_eq hq.2.2] at hr5
  have hcl := pz_pmc (V := V) hq
  rw [pz_c_arr (by decide)] at hcl
  rw [List.map_cons, List.map_cons, pz_v0 b1, pz_v2 b3]
  unfold pm_p6
  dsimp only
  rw [hcl]
  dsimp only
  rw [pm_len_eq, List.length_map, List.length_range, show Nat.beq 0 0 = true from rfl, Nat.ble_eq_true_of_le a2, Bool.and_self, cond_true]
  refine pz_prT hK hC ?_ rfl hr5
  rw [pz_h_set (c := (0, m, pz_rep (Nat.div w 4) m)) hq.2.2, pz_c_arr (by decide), pm_set_eq, pm_rep_eq]
  congr 3
  refine List.eq_replicate_iff.mpr ⟨by rw [List.length_map, List.length_range], fun b hb => ?_⟩
  obtain ⟨j, hj, rfl⟩ := List.mem_map.mp hb
  have hw : w / 4 < 2 ^ 72 := Nat.lt_of_le_of_lt (Nat.div_le_self w 4) b2
  rw [show Nat.div w 4 = w / 4 from rfl, pz_rep_sl hw m j (List.mem_range.mp hj), pz_e_i V _ (by decide) (by decide), show 4 * (w / 4) = w by omega, pz_v0 b1]
end PzE
