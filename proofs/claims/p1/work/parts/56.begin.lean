/-! from a run of the picture machine to the law's own -/
theorem pm_ext16 (ys : List Int32) (ci : Nat) : (pm_ext ys)[16 + ci]? = pm_new[ci]? := by
  rw [show 16 + ci = (12 + ci) + 1 + 1 + 1 + 1 by omega]
  show (List.replicate 12 (99, ([] : List Value)) ++ pm_new)[12 + ci]? = _
  rw [List.getElem?_append_right (by simp)]
  congr 1
  simp
def pm_nwk (ci : Nat) : Bool := match vwCl[ci]?, pm_new[ci]? with
  | some q, some r => Nat.beq r.2.length q.2.2 && (List.range q.2.2).all fun k => match parseFieldDescriptor (q.2.1 k).2.2.1 with
    | some ty => decide (r.2[k]? = some (defaultValue ty))
    | none => true
  | some _, none => false
  | none, _ => true
theorem pm_nwks : (List.range 13).all pm_nwk = true := by decide +kernel
theorem pm_X0e (ys : List Int32) : pm_X0 (pm_ext ys) := by
  intro ci C T N z fs h1 h2
  rw [pm_ext16] at h2
  have hl : ci < 13 := (List.getElem?_eq_some_iff.mp h1).1
  have h3 := List.all_eq_true.mp pm_nwks ci (List.mem_range.mpr hl)
  unfold pm_nwk at h3
  rw [h1, h2] at h3
  have h3 : (Nat.beq fs.length N && (List.range N).all fun k => match parseFieldDescriptor (T k).2.2.1 with
    | some ty => decide (fs[k]? = some (defaultValue ty))
    | none => true) = true := h3
  rw [Bool.and_eq_true, List.all_eq_true] at h3
  refine ⟨Nat.eq_of_beq_eq_true h3.1, fun k ty hk hty => ?_⟩
  have h4 := h3.2 k (List.mem_range.mpr hk)
  rw [hty] at h4
  exact of_decide_eq_true h4
theorem pm_Ky : ∃ y, pm_get pm_hds 309 = some y ∧ pm_byt y.2.1 = code ∧ y.1.name = "law" := ⟨_, rfl, rfl, rfl⟩
theorem pm_Ke : ∃ e, pm_ent 309 = some e ∧ e.2.1 = 8 ∧ e.2.2.1 = 13 ∧ e.2.2.2.1 = 1 := ⟨_, rfl, rfl, rfl, rfl⟩
theorem pm_NWs : pm_NW.all (fun w => w.onTables) = true := by decide +kernel
theorem pm_begin {p : Program} {l : Launch} {e : Env} {s : State} {m : MethodId} {below : List Frame} {meth : Method} {c : Code} (hlt : l.stackTraces = false) (hnm : meth.name = "law") {b L : Nat} {xs : Nat → Int32} (C0 : lw_At p s m meth c b L xs) {n : Nat} {H : pm_H} (hn : n ≤ 300000)
    (hrun : pm_x (pm_ext ((List.range L).map xs)) n 50 [] 309 0 (pm_lay [.ref 0] 8) [] = some (H, .inl (some (.int 1)))) (hH : H.length ≤ 300) (hS : pm_slt H ≤ 700000) :
    W p l e room_1 s m #[Value.ref b] below meth c s.heap [] 0 0 (lw_Z below #[Value.ref b] s) (entryFrame m ([Value.ref b] : List Value).toArray 8) := by
  obtain ⟨hx, hb, hr, hml, hown, hts, hXs, hbl, hlocks, hgv⟩ := id C0
  have hw0 : ∀ w ∈ pm_W0, w.before #[Value.ref b] s = true := fun w hw => hts w (List.mem_filter.mp hw).1
  have htb : ∀ w ∈ tables_1, w.before #[Value.ref b] s = true := fun w hw => hts w (List.mem_append_right _ hw)
  have hf := flat_of_before _ hgv
  -- the classes
  have hcl : ∀ ci : Nat, ∃ (cC : ClassId) (iS : Nat → Nat), ∀ q, vwCl[ci]? = some q → u_Kn s q.1 q.2.1 q.2.2 cC iS := by
    intro ci
    cases hq : vwCl[ci]? with
    | none => exact ⟨0, fun _ => 0, fun q h => by cases h⟩
    | some q =>
      obtain ⟨C, T, N⟩ := q
      obtain ⟨g1, -, -, g4, -⟩ := pm_cls hq
      obtain ⟨cC, iS, hk⟩ := u_known hw0 g1 (hw0 _ g4)
      exact ⟨cC, iS, fun q h => by cases h; exact hk⟩
  obtain ⟨D, hD⟩ : ∃ D : va_G, ∀ (ci : Nat) (q : vw_C), vwCl[ci]? = some q → u_Kn s q.1 q.2.1 q.2.2 (D.1 ci) (D.2 ci) :=
    ⟨(fun ci => (hcl ci).choose, fun ci => (hcl ci).choose_spec.choose), fun ci q hq => (hcl ci).choose_spec.choose_spec q hq⟩
  obtain ⟨c0, a0, b0⟩ := pm_arrP (htb (.arrayClass .int) (by decide +kernel))
  obtain ⟨c1, a1, b1⟩ := pm_arrP (htb (.arrayClass .boolean) (by decide +kernel))
  obtain ⟨c2, a2, b2⟩ := pm_arrP (htb (.arrayClass .char) (by decide +kernel))
  obtain ⟨c3, a3, b3⟩ := pm_arrP (htb (.arrayClass .long) (by decide +kernel))
  obtain ⟨c4, a4, b4⟩ := pm_arrP (htb (.arrayClass .byte) (by decide +kernel))
  obtain ⟨c8, a8, b8⟩ := pm_arrO (htb (.arrayOver (.object RX3)) (by decide +kernel))
  obtain ⟨c12, a12, b12⟩ := pm_arrO (htb (.arrayOver (.object RX7)) (by decide +kernel))
  obtain ⟨cA, hcA⟩ : ∃ cA : Nat → ClassId, cA 0 = c0 ∧ cA 1 = c1 ∧ cA 2 = c2 ∧ cA 3 = c3 ∧ cA 4 = c4 ∧ cA 8 = c8 ∧ cA 12 = c12 :=
    ⟨fun t => [c0, c1, c2, c3, c4, c0, c0, c0, c8, c0, c0, c0, c12].getD t 0, rfl, rfl, rfl, rfl, rfl, rfl, rfl⟩
  obtain ⟨e0, e1, e2, e3, e4, e8, e12⟩ := hcA
  have hK : va_K D vwCl (pm_tys cA) s := by
    refine ⟨hD, fun k q hk => ?_⟩
    unfold pm_tys at hk
    rw [e0, e1, e2, e3, e4, e8, e12] at hk
    match k, hk with
    | 0, hk => cases hk; exact ⟨a0, b0⟩
    | 1, hk => cases hk; exact ⟨a1, b1⟩
    | 2, hk => cases hk; exact ⟨a2, b2⟩
    | 3, hk => cases hk; exact ⟨a3, b3⟩
    | 4, hk => cases hk; exact ⟨a4, b4⟩
    | 5, hk => cases hk; exact ⟨a0, b0⟩
    | 6, hk => cases hk; exact ⟨a0, b0⟩
    | 7, hk => cases hk; exact ⟨a0, b0⟩
    | 8, hk => cases hk; exact ⟨a8, b8⟩
    | 9, hk => cases hk; exact ⟨a0, b0⟩
    | 10, hk => cases hk; exact ⟨a0, b0⟩
    | 11, hk => cases hk; exact ⟨a0, b0⟩
    | 12, hk => cases hk; exact ⟨a12, b12⟩
    | k + 13, hk => cases hk
  -- what is there at the start
  obtain ⟨t1, l1, k1, x1, v1, h11, h12, h13, h14, h15⟩ := pm_stas hf ((List.range L).map xs) 1 (by decide) (by decide)
  obtain ⟨t2, l2, k2, x2, v2, h21, h22, h23, h24, h25⟩ := pm_stas hf ((List.range L).map xs) 2 (by decide) (by decide)
  obtain ⟨t3, l3, k3, x3, v3, h31, h32, h33, h34, h35⟩ := pm_stas hf ((List.range L).map xs) 3 (by decide) (by decide)
  obtain ⟨g, hg⟩ : ∃ g : Nat → Nat, ∀ q ∈ pm_strs, vk_R (pm_nm q.1) q.2.1 q.2.2.1 (g q.2.2.2) s := by
    obtain ⟨s0, r0⟩ := pm_stg htb hf (11, 70, "hire part shut opens ", 4) (by decide)
    obtain ⟨s1, r1⟩ := pm_stg htb hf (11, 72, "whole half wage floor gap bank month trade draw was ", 5) (by decide)
    obtain ⟨s2, r2⟩ := pm_stg htb hf (11, 84, "take from to tenths ", 6) (by decide)
    obtain ⟨s3, r3⟩ := pm_stg htb hf (11, 86, "bank wage most chosen silent shut bound hands number ", 7) (by decide)
    obtain ⟨s4, r4⟩ := pm_stg htb hf (9, 53, "()<=+-*;", 8) (by decide)
    obtain ⟨s5, r5⟩ := pm_stg htb hf (5, 68, "when ", 9) (by decide)
    obtain ⟨s6, r6⟩ := pm_stg htb hf (5, 102, "not ", 10) (by decide)
    obtain ⟨s7, r7⟩ := pm_stg htb hf (5, 135, "and or ", 11) (by decide)
    refine ⟨fun a => [s0, s1, s2, s3, s4, s5, s6, s7].getD (a - 4) 0, fun q hq => ?_⟩
    simp only [pm_strs, List.mem_cons, List.not_mem_nil, or_false] at hq
    rcases hq with rfl | rfl | rfl | rfl | rfl | rfl | rfl | rfl
    · exact r0
    · exact r1
    · exact r2
    · exact r3
    · exact r4
    · exact r5
    · exact r6
    · exact r7
  obtain ⟨ad, d0, d1, d2, d3, dg, dn⟩ : ∃ ad : Nat → Nat, ad 0 = b ∧ ad 1 = t1 ∧ ad 2 = t2 ∧ ad 3 = t3 ∧ (∀ a, 4 ≤ a → a < 16 → ad a = g a) ∧ ∀ j, ad (16 + j) = s.heap.size + j := by
    refine ⟨fun a => if a = 0 then b else if a = 1 then t1 else if a = 2 then t2 else if a = 3 then t3 else if a < 16 then g a else s.heap.size + (a - 16), rfl, rfl, rfl, rfl, fun a h1 h2 => ?_, fun j => ?_⟩
    · show (if a = 0 then b else if a = 1 then t1 else if a = 2 then t2 else if a = 3 then t3 else if a < 16 then g a else s.heap.size + (a - 16)) = g a
      rw [if_neg (by omega), if_neg (by omega), if_neg (by omega), if_neg (by omega), if_pos h2]
    · show (if 16 + j = 0 then b else if 16 + j = 1 then t1 else if 16 + j = 2 then t2 else if 16 + j = 3 then t3 else if 16 + j < 16 then g (16 + j) else s.heap.size + (16 + j - 16)) = _
      rw [if_neg (by omega), if_neg (by omega), if_neg (by omega), if_neg (by omega), if_neg (by omega)]
      omega
  have hnA : ∀ a : Nat, a < s.heap.size → ¬ (fun q : Nat => s.heap.size ≤ q) a := fun a ha => Nat.not_le.mpr ha
  have hCx : pm_Cx D cA (fun q : Nat => s.heap.size ≤ q) ad (pm_ext ((List.range L).map xs)) s := by
    refine ⟨hK, fun w hw => ?_, fun C hC => ?_, fun a ll ha hl => ?_, fun a h1 h3 => ?_, fun q hq => ?_, ?_, ?_⟩
    · exact va_Nw.of (List.all_eq_true.mp pm_NWs w hw) (htb w (List.mem_filter.mp hw).1)
    · rcases List.mem_cons.mp hC with rfl | hC
      · exact va_AO.of (htb (.arrayOver (.object RX3)) (by decide +kernel))
      · rcases List.mem_cons.mp hC with rfl | hC
        · exact va_AO.of (htb (.arrayOver (.object RX7)) (by decide +kernel))
        · cases hC
    · match a, ha, hl with
      | 0, _, hl =>
        cases hl
        obtain ⟨scr, g1, g2, g3, g4, g5⟩ := hXs
        refine ⟨scr, by rw [d0]; exact g1, g2, g3, by rw [g4, List.length_map, List.length_map, List.length_range], fun j v hv => ?_, by rw [d0]; exact hnA b hbl⟩
        rw [List.getElem?_map, List.getElem?_map] at hv
        by_cases hj : j < L
        · rw [List.getElem?_range hj] at hv
          cases hv
          exact g5 j hj
        · rw [List.getElem?_eq_none (by rw [List.length_range]; omega)] at hv
          cases hv
      | 1, _, hl =>
        cases hl.symm.trans x1
        exact ⟨k1, by rw [d1]; exact h11, h12, h13, h14, h15, by rw [d1]; exact hnA t1 (Array.getElem?_eq_some_iff.mp h11).1⟩
      | 2, _, hl =>
        cases hl.symm.trans x2
        exact ⟨k2, by rw [d2]; exact h21, h22, h23, h24, h25, by rw [d2]; exact hnA t2 (Array.getElem?_eq_some_iff.mp h21).1⟩
      | 3, _, hl =>
        cases hl.symm.trans x3
        exact ⟨k3, by rw [d3]; exact h31, h32, h33, h34, h35, by rw [d3]; exact hnA t3 (Array.getElem?_eq_some_iff.mp h31).1⟩
      | 4, _, hl => cases hl
      | 5, _, hl => cases hl
      | 6, _, hl => cases hl
      | 7, _, hl => cases hl
      | 8, _, hl => cases hl
      | 9, _, hl => cases hl
      | 10, _, hl => cases hl
      | 11, _, hl => cases hl
      | 12, _, hl => cases hl
      | 13, _, hl => cases hl
      | 14, _, hl => cases hl
      | 15, _, hl => cases hl
      | a + 16, ha, hl => omega
    · rcases (by omega : a = 1 ∨ a = 2 ∨ a = 3) with rfl | rfl | rfl
      · rw [d1]
        exact va_Zref (htb (.laysStatic "RiverWage" "LAW_FORMS" "[I") (by decide +kernel)) (htb (.initialized "RiverWage") (by decide +kernel)) v1 hnA
      · rw [d2]
        exact va_Zref (htb (.laysStatic "RiverWage" "WRITER_FORMS" "[I") (by decide +kernel)) (htb (.initialized "RiverWage") (by decide +kernel)) v2 hnA
      · rw [d3]
        exact va_Zref (htb (.laysStatic "RiverWage$Reader" "RANKS" "[I") (by decide +kernel)) (htb (.initialized "RiverWage$Reader") (by decide +kernel)) v3 hnA
    · have hm : q.2.2.2 ∈ pm_strs.map fun q => q.2.2.2 := List.mem_map.mpr ⟨q, hq, rfl⟩
      rw [pm_strp] at hm
      have hb4 : 4 ≤ q.2.2.2 ∧ q.2.2.2 < 16 := by
        simp only [List.mem_cons, List.not_mem_nil, or_false] at hm
        omega
      rw [dg _ hb4.1 hb4.2]
      exact hg q hq
    · exact vx_Zqof (htb (.laysStatic Bundle.tN "UNASSIGNED_STACK" Bundle.steD) (by decide +kernel)) (htb (.initialized Bundle.tN) (by decide +kernel)) (hf _ (by decide +kernel)) hnA
    · exact vx_Zqof (htb (.laysStatic Bundle.tN "SUPPRESSED_SENTINEL" Bundle.listD) (by decide +kernel)) (htb (.initialized Bundle.tN) (by decide +kernel)) (hf _ (by decide +kernel)) hnA
  obtain ⟨y, y1, y2, y3⟩ := pm_Ky
  obtain ⟨E, E1, E2, E3, E4⟩ := pm_Ke
  have F : pm_Fr p s m #[Value.ref b] meth c D cA (fun q : Nat => s.heap.size ≤ q) ad (pm_ext ((List.range L).map xs)) 309 E y :=
    ⟨hx, by rw [y2]; exact hb, by rw [E2]; exact hml, by rw [E3]; exact hown, hw0, hCx, by rw [y3]; exact hnm, E1, y1, fun q hq => hq⟩
  have hA0 : pm_At s D cA (fun q : Nat => s.heap.size ≤ q) ad 309 0 0 0 [] s.heap [] 0 0 :=
    ⟨⟨fun k q h => by simp [pm_ws] at h, ⟨fun i j p q h => by simp [pm_ws] at h, fun k q h => by simp [pm_ws] at h⟩, fun j => dn j⟩, va_S.rf, Or.inl rfl, rfl, rfl⟩
  have hent := pm_entry (ad := ad) (As := [.ref 0]) (n := 8) (by decide)
  have eAs : ([Value.ref 0].map (pm_rv ad)) = [Value.ref b] := by
    show [Value.ref (ad 0)] = _
    rw [d0]
  rw [eAs] at hent
  rw [lg_entry_eq]
  have hrun' : pm_x (pm_ext ((List.range L).map xs)) n 50 [] 309 0 (pm_lay [.ref 0] 8) [] = some (H, .inl (some (.int 1))) := hrun
  refine pm_FW (R := room_1) (E := E) (y := y) (hb := 0) (sb := 0) (d := 50) hlt (pm_X0e _) ⟨by decide, by decide⟩ E3 (fun ad x1 H1 locs1 cells1 slots1 pc1 ls1 st1 hA1 hc1 hs1 hE => ?_) n F hA0 ⟨?_, ?_⟩ hrun' _ (by rw [E2]; exact hent)
  · intro LS hl
    obtain ⟨z1, z2, z3⟩ := hE
    subst z1
    obtain ⟨w1, w2, -, w4, w5⟩ := hA1
    have w4 : cells1 + 0 = H.length + x1 := w4
    have w5 : slots1 + 0 = pm_slt H + 6 * x1 := w5
    have hc1 : H.length + x1 ≤ 600002 + 0 := hc1
    have hs1 : pm_slt H + 6 * x1 ≤ 7302232 + 0 := hs1
    have hd : decode code pc1 = .ok (.ireturn, 1) := by
      rcases z3 with ⟨-, q⟩ | ⟨q, -⟩ | ⟨q, -⟩
      · rw [y2] at q; exact q
      · rw [E4] at q; cases q
      · rw [E4] at q; cases q
    exact va_forget (fun q hq => w2.2.2 q hq) (W.widen (k := 600002) (n := 7302232) (by omega) (by omega) (lw_ret hx hb hr hlocks hd))
  · show H.length + (0 + n) ≤ 600002 + 0
    omega
  · show pm_slt H + 6 * (0 + n) ≤ 7302232 + 0
    omega
