/-! from a run of the number machine to the picture machine's -/
theorem pz_sz {V : pz_V} (hk : ∀ k, pm_sz (V.2.2.1 k) ≤ 2000) (q : pz_C) : pm_sz (pz_c V q) ≤ q.2.1 + 2000 := by
  unfold pz_c
  split
  · exact Nat.le_trans (hk _) (Nat.le_add_left _ _)
  · split
    · show ((List.range q.2.1).map fun j => pz_e V q.1 (pz_sl q.2.2 j)).length ≤ _
      rw [List.length_map, List.length_range]; omega
    · show ((List.range q.2.1).map fun j => pz_v V (pz_sl q.2.2 j)).length ≤ _
      rw [List.length_map, List.length_range]; omega
theorem pz_slt {V : pz_V} (hk : ∀ k, pm_sz (V.2.2.1 k) ≤ 2000) (cs : List (List pz_C)) : ∀ n, pm_slt (pz_h V (n, cs)) ≤ pz_smm (n, cs) + 2000 * n
  | 0 => Nat.zero_le _
  | n + 1 => by
    have ih := pz_slt hk cs n
    have e : pz_h V (n + 1, cs) = pz_h V (n, cs) ++ [pz_c V ((pz_at cs n).getD (99, 0, 0))] := by
      unfold pz_h
      rw [List.range_succ, List.map_append]; rfl
    have e2 : pz_smm (n + 1, cs) = pz_smm (n, cs) + (Option.rec 0 (fun q => q.2.1) (pz_at cs n) : Nat) := rfl
    rw [e, pm_slt_push, e2]
    have h1 := pz_sz hk ((pz_at cs n).getD (99, 0, 0))
    cases hq : pz_at cs n with
    | none =>
      rw [hq] at h1
      have h1 : pm_sz (pz_c V (99, 0, 0)) ≤ 0 + 2000 := h1
      show _ + pm_sz (pz_c V (99, 0, 0)) ≤ pz_smm (n, cs) + 0 + 2000 * (n + 1)
      omega
    | some q =>
      rw [hq] at h1
      have h1 : pm_sz (pz_c V q) ≤ q.2.1 + 2000 := h1
      show _ + pm_sz (pz_c V q) ≤ pz_smm (n, cs) + q.2.1 + 2000 * (n + 1)
      omega
theorem pz_run {V : pz_V} {S n : Nat} {Z : List pz_Q} {X : List (Nat × List Value)} {C : pz_E} (h7 : pz_sym V) (hX : pz_X V S X) (hZ : ∀ q ∈ Z, pz_QS V q (pm_x X q.1)) (hk : ∀ k, pm_sz (V.2.2.1 k) ≤ 2000) (hC : pz_k V C) (hg : pz_good (pz_go S Z n C) = true) :
    ∃ H, pm_x X n 50 [] 309 0 (pm_lay [.ref 0] 8) [] = some (H, .inl (some (.int 1))) ∧ H.length ≤ 300 ∧ pm_slt H ≤ 700000 := by
  unfold pz_good at hg
  cases ho : pz_go S Z n C with
  | none => rw [ho] at hg; cases hg
  | some os =>
    rw [ho] at hg
    unfold pz_go at ho
    cases hm : pm_get pz_mt 309 with
    | none => rw [hm] at ho; cases ho
    | some M =>
      rw [hm] at ho
      obtain ⟨hv, hm9⟩ := pz_Mt hm
      have hT := pz_sound h7 hX hZ n 50 M hv _ _ _ _ _ _ hC ho
      have hnl : M.2.1 = 8 := by
        have : (pm_get pz_mt 309).map (fun M => M.2.1) = some 8 := by decide +kernel
        rw [hm] at this
        exact Option.some.inj this
      obtain ⟨o, h1, h2, h3⟩ := hT
      have hg : pm_all (fun o => Nat.beq o.2.2 10 && (Nat.ble o.2.1.1 300 && Nat.ble (pz_smm o.2.1) 100000)) os = true := hg
      rw [pm_all_eq, List.all_eq_true] at hg
      have hgo := hg o h1
      simp only [Bool.and_eq_true] at hgo
      obtain ⟨g1, g2, g3⟩ := hgo
      have g1 := Nat.eq_of_beq_eq_true g1
      have g2 := Nat.le_of_ble_eq_true g2
      have g3 := Nat.le_of_ble_eq_true g3
      refine ⟨pz_h V o.2.1, ?_, by rw [pz_h_len]; exact g2, ?_⟩
      · rw [hm9, hnl, pz_lay_eq [2] 8 (by decide) (fun c hc => by
          rcases List.mem_cons.mp hc with rfl | hc
          · exact ⟨by decide, by decide⟩
          · cases hc)] at h3
        have e0 : pz_h V pz_h0 = [] := rfl
        rw [e0] at h3
        have e1 : [2].map (pz_v V) = [.ref 0] := rfl
        rw [e1] at h3
        rw [g1, pz_r2 V (by decide) (by decide), show (10 - 2 : Nat) = 8 * 1 from rfl, pz_vi] at h3
        exact h3
      · have h9 := pz_slt hk o.2.1.2 o.2.1.1
        have e : (o.2.1.1, o.2.1.2) = o.2.1 := rfl
        rw [e] at h9
        omega
/-! a call known ahead, by a run: its ways are all the one that is told; w: a cell, a field that holds a symbol's number less 1, the symbol -/
noncomputable def pz_tk (w : Nat × Nat × Nat) (h : pz_H) (C : pz_E) (k : pz_H → Bool) : Bool := Option.rec false (fun b => cond (Nat.beq b.1 b.2 && Nat.blt 2147483648 b.1) (Option.rec false (fun q => cond (Nat.blt w.2.1 q.2.1 && (Nat.blt 99 q.1 && (Nat.beq (pz_sl q.2.2 w.2.1) (Nat.add (Nat.mul 8 w.2.2) 5) && Nat.blt w.2.2 16))) (k (h.1, pz_set h.2 w.1 (q.1, q.2.1, pz_up q.2.2 w.2.1 (Nat.succ (Nat.mul 8 (Nat.sub b.1 2147483649)))))) false) (pz_at h.2 w.1)) false) (pm_nth C.1 w.2.2)
noncomputable def pz_mg (w : Nat × Nat × Nat) (C : pz_E) (h : pz_H) (r : Nat) (o : pz_O) : Bool := Nat.beq o.2.2 r && (pz_eqH o.2.1 h || pz_tk w h o.1 fun h => pz_eqH o.2.1 h)
noncomputable def pz_mq (w : Nat × Nat × Nat) (q : pz_Q) : Bool := Option.rec false (fun M => cond (Nat.ble (pz_wd q.2.2.2.1) M.2.1 && pm_all pz_okv q.2.2.2.1) (Option.rec false (fun os => List.rec false (fun t _ _ => cond (pz_eqE t.1 q.2.2.2.2.1) (pm_all (pz_mg w t.1 t.2.1 t.2.2) os) false) q.2.2.2.2.2.2) (pz_z 7 [] q.1 q.2.2.2.2.1 q.2.2.1 q.2.2.2.2.2.1 M 0 (pz_L0 (pz_lay q.2.2.2.1 M.2.1)) [])) false) (pm_get pz_mt q.2.1)
theorem pz_tk_T {V : pz_V} {w : Nat × Nat × Nat} {h : pz_H} {C : pz_E} {k : pz_H → Bool} (h7 : pz_sym V) (hC : pz_k V C) (ht : pz_tk w h C k = true) : ∃ h', pz_h V h' = pz_h V h ∧ k h' = true := by
  unfold pz_tk at ht
  rw [pm_nth_eq] at ht
  cases hb : C.1[w.2.2]? with
  | none => rw [hb] at ht; cases ht
  | some b =>
    rw [hb] at ht
    have ht : cond (Nat.beq b.1 b.2 && Nat.blt 2147483648 b.1) (Option.rec false (fun q => cond (Nat.blt w.2.1 q.2.1 && (Nat.blt 99 q.1 && (Nat.beq (pz_sl q.2.2 w.2.1) (Nat.add (Nat.mul 8 w.2.2) 5) && Nat.blt w.2.2 16))) (k (h.1, pz_set h.2 w.1 (q.1, q.2.1, pz_up q.2.2 w.2.1 (Nat.succ (Nat.mul 8 (Nat.sub b.1 2147483649)))))) false) (pz_at h.2 w.1) : Bool) false = true := ht
    rcases pz_c2 ht with ⟨hbb, ht1⟩ | ⟨-, ht1⟩
    · rw [Bool.and_eq_true] at hbb
      have b1 := Nat.eq_of_beq_eq_true hbb.1
      have b2 := pm_blt hbb.2
      cases hq : pz_at h.2 w.1 with
      | none => rw [hq] at ht1; cases ht1
      | some q =>
        rw [hq] at ht1
        rcases pz_c2 ht1 with ⟨hqq, ht2⟩ | ⟨-, ht2⟩
        · simp only [Bool.and_eq_true] at hqq
          obtain ⟨q1, q2, q3, q4⟩ := hqq
          have q1 := pm_blt q1
          have q2 := pm_blt q2
          have q3 : pz_sl q.2.2 w.2.1 = 8 * w.2.2 + 5 := Nat.eq_of_beq_eq_true q3
          have q4 := pm_blt q4
          obtain ⟨k1, k2⟩ := hC.1 _ b.1 b.2 hb
          have hbv : pz_b (V.1 w.2.2) = b.1 := by omega
          have hlt := pz_b_max (V.1 w.2.2)
          refine ⟨_, ?_, ht2⟩
          have ev : pz_v V (8 * (b.1 - 2147483649) + 1) = pz_v V (8 * w.2.2 + 5) := by
            have e1 : (V.1 w.2.2).toInt64 - 1 = Int64.ofNat (b.1 - 2147483649) := by
              have e2 : V.1 w.2.2 = Int32.ofNat (b.1 - 2147483648) := by
                rw [pz_b_eq, hbv, pz_b_of]
                show b.1 = (b.1 - 2147483648 + 2147483648) % 4294967296
                omega
              rw [e2, pz_i2l (by omega), if_pos (by omega), show b.1 - 2147483648 = b.1 - 2147483649 + 1 by omega, Int64.ofNat_add]
              exact Int64.add_sub_cancel _ _
            rw [pz_vl, pz_v5 (by omega), show (8 * w.2.2 + 5) / 8 = w.2.2 by omega, h7.2.1 _ q4, e1]
          rw [pz_h_set (c := (q.1, q.2.1, pz_up q.2.2 w.2.1 (Nat.succ (Nat.mul 8 (Nat.sub b.1 2147483649))))) hq]
          have ec : pz_c V (q.1, q.2.1, pz_up q.2.2 w.2.1 (Nat.succ (Nat.mul 8 (Nat.sub b.1 2147483649)))) = pz_c V q := by
            rw [show q.1 = 100 + (q.1 - 100) by omega, pz_c_obj]
            have e3 : Nat.succ (Nat.mul 8 (Nat.sub b.1 2147483649)) = 8 * (b.1 - 2147483649) + 1 := rfl
            rw [e3, pz_row_up (by omega), ev, ← q3]
            have e4 : pz_c V q = .inr (q.1 - 100, (List.range q.2.1).map fun j => pz_v V (pz_sl q.2.2 j)) := by
              have e5 : q = (100 + (q.1 - 100), q.2.1, q.2.2) := by
                refine Prod.ext ?_ rfl
                show q.1 = 100 + (q.1 - 100)
                omega
              rw [e5, pz_c_obj]
              show _ = Sum.inr (100 + (q.1 - 100) - 100, _)
              rw [show 100 + (q.1 - 100) - 100 = q.1 - 100 by omega]
            have e6 : ((List.range q.2.1).map fun j => pz_v V (pz_sl q.2.2 j)).set w.2.1 (pz_v V (pz_sl q.2.2 w.2.1)) = (List.range q.2.1).map fun j => pz_v V (pz_sl q.2.2 j) := by
              apply List.ext_getElem?
              intro j
              by_cases hj : w.2.1 = j
              · subst hj
                rw [List.getElem?_set_self (by rw [List.length_map, List.length_range]; exact q1), pz_row_get q1]
              · rw [List.getElem?_set_ne hj]
            rw [e4, e6]
          rw [ec]
          apply List.ext_getElem?
          intro j
          by_cases hj : w.1 = j
          · subst hj
            by_cases hl : w.1 < h.1
            · rw [List.getElem?_set_self (by rw [pz_h_len]; exact hl), pz_h_get hl hq]
            · rw [List.getElem?_eq_none (by rw [List.length_set, pz_h_len]; omega), List.getElem?_eq_none (by rw [pz_h_len]; omega)]
          · rw [List.getElem?_set_ne hj]
        · cases ht2
    · cases ht1
theorem pz_mq_T {V : pz_V} {X : List (Nat × List Value)} {w : Nat × Nat × Nat} {q : pz_Q} (h7 : pz_sym V) (hX : pz_X V 7 X) (hq : pz_mq w q = true) : pz_QS V q (pm_x X q.1) := by
  intro hC
  unfold pz_mq at hq
  cases hm : pm_get pz_mt q.2.1 with
  | none => rw [hm] at hq; cases hq
  | some M =>
    rw [hm] at hq
    obtain ⟨hv, hmm⟩ := pz_Mt hm
    have hq : cond (Nat.ble (pz_wd q.2.2.2.1) M.2.1 && pm_all pz_okv q.2.2.2.1) (Option.rec false (fun os => List.rec false (fun t _ _ => cond (pz_eqE t.1 q.2.2.2.2.1) (pm_all (pz_mg w t.1 t.2.1 t.2.2) os) false) q.2.2.2.2.2.2) (pz_z 7 [] q.1 q.2.2.2.2.1 q.2.2.1 q.2.2.2.2.2.1 M 0 (pz_L0 (pz_lay q.2.2.2.1 M.2.1)) []) : Bool) false = true := hq
    rcases pz_c2 hq with ⟨hb, hq1⟩ | ⟨-, hq1⟩
    · rw [Bool.and_eq_true] at hb
      have hw := Nat.le_of_ble_eq_true hb.1
      have ha := hb.2
      rw [pm_all_eq, List.all_eq_true] at ha
      cases ho : pz_z 7 [] q.1 q.2.2.2.2.1 q.2.2.1 q.2.2.2.2.2.1 M 0 (pz_L0 (pz_lay q.2.2.2.1 M.2.1)) [] with
      | none => rw [ho] at hq1; cases hq1
      | some os =>
        rw [ho] at hq1
        have hT := pz_sound h7 hX (Z := []) (fun q hq => nomatch hq) q.1 q.2.2.1 M hv _ _ _ _ _ _ hC ho
        rw [pz_lay_eq _ _ hw (fun c hc => pz_okv_t (ha c hc)), hmm] at hT
        obtain ⟨e, e1, e2, -⟩ := hv
        rw [hmm] at e1
        have e3 : (pm_lay (q.2.2.2.1.map (pz_v V)) e.2.1).length = e.2.1 := by
          rw [← e2, ← pz_lay_eq _ _ hw (fun c hc => pz_okv_t (ha c hc)), pz_l_len]
        rw [e2] at hT
        refine ⟨e, e1, e3, ?_⟩
        cases hos : q.2.2.2.2.2.2 with
        | nil => rw [hos] at hq1; cases hq1
        | cons t ts =>
          rw [hos] at hq1
          have hq1 : cond (pz_eqE t.1 q.2.2.2.2.1) (pm_all (pz_mg w t.1 t.2.1 t.2.2) os) false = true := hq1
          rcases pz_c2 hq1 with ⟨he, hq2⟩ | ⟨-, hq2⟩
          · have he := pz_eqE_T he
            rw [pm_all_eq, List.all_eq_true] at hq2
            obtain ⟨o, o1, o2, o3⟩ := hT
            rw [List.map_nil] at o3
            have hg := hq2 o o1
            unfold pz_mg at hg
            rw [Bool.and_eq_true, Bool.or_eq_true] at hg
            have g1 := Nat.eq_of_beq_eq_true hg.1
            refine ⟨t, List.mem_cons_self, by rw [he]; exact hC, ?_⟩
            rw [o3, g1]
            have eh : pz_h V o.2.1 = pz_h V t.2.1 := by
              rcases hg.2 with g | g
              · exact pz_eqH_T g V
              · obtain ⟨h', k1, k2⟩ := pz_tk_T h7 o2 g
                rw [pz_eqH_T k2 V, k1]
            rw [eh]
          · cases hq2
    · cases hq1
