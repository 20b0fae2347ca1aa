/-! the model's parser, exactly -/
def pt_C252 (X : List (Nat × List Value)) (dp : Int) : Prop := ∀ {d : Nat} {h : pm_H} (n : Nat) (K V P : Nat → Int) (wr : Int) (S : List Int) (o b : Int) (c : List Int), (28 - 5 * dp : Int) ≤ d → pw_I h → (pw_A n h) → (pw_g h 125 32 ≤ pw_g h 125 7) → (pt_TK K V P wr h) → (∀ j : Nat, j < n → K j = 2 → 0 ≤ V j ∧ V j ≤ 9999) → (pw_g h 125 8 = 0) → (0 ≤ o) → (pt_CD h b c) → pw X d h 252 0 [some (.ref 141), some (pw_i dp), none, none] [] (fun h' v => pw_I h' ∧ pw_E [125, 146, 147] h h' ∧ (pt_TK K V P wr h' ∧ pt_PT (pt_FF wr) K V P S dp o b c h h') ∧ (v = .inl none))
def pt_C251 (X : List (Nat × List Value)) (dp : Int) : Prop := ∀ {d : Nat} {h : pm_H} (n : Nat) (K V P : Nat → Int) (wr : Int) (S : List Int) (o b : Int) (c : List Int), (29 - 5 * dp : Int) ≤ d → pw_I h → (pw_A n h) → (pw_g h 125 32 ≤ pw_g h 125 7) → (pt_TK K V P wr h) → (∀ j : Nat, j < n → K j = 2 → 0 ≤ V j ∧ V j ≤ 9999) → (pw_g h 125 8 = 0) → (0 ≤ o) → (pt_CD h b c) → (pt_n8 S) → (pt_tr S < 4) → pw X d h 251 0 [some (.ref 141), some (pw_i dp)] [] (fun h' v => pw_I h' ∧ pw_E [125, 146, 147] h h' ∧ (pt_TK K V P wr h' ∧ pt_PI 4 4 (pt_FF wr) K V P S dp o b c h h') ∧ (v = .inl none))
def pt_C250 (X : List (Nat × List Value)) (dp : Int) : Prop := ∀ {d : Nat} {h : pm_H} (n : Nat) (K V P : Nat → Int) (wr : Int) (S : List Int) (o b : Int) (c : List Int), (30 - 5 * dp : Int) ≤ d → pw_I h → (pw_A n h) → (pw_g h 125 32 ≤ pw_g h 125 7) → (pt_TK K V P wr h) → (∀ j : Nat, j < n → K j = 2 → 0 ≤ V j ∧ V j ≤ 9999) → (pw_g h 125 8 = 0) → (0 ≤ o) → (pt_CD h b c) → (pt_n8 S) → (pt_tr S < 3) → pw X d h 250 0 [some (.ref 141), some (pw_i dp), none] [] (fun h' v => pw_I h' ∧ pw_E [125, 146, 147] h h' ∧ (pt_TK K V P wr h' ∧ pt_PI 3 3 (pt_FF wr) K V P S dp o b c h h') ∧ (v = .inl none))
def pt_C249 (X : List (Nat × List Value)) (dp : Int) : Prop := ∀ {d : Nat} {h : pm_H} (n : Nat) (K V P : Nat → Int) (wr : Int) (S : List Int) (o b : Int) (c : List Int), (31 - 5 * dp : Int) ≤ d → pw_I h → (pw_A n h) → (pw_g h 125 32 ≤ pw_g h 125 7) → (pt_TK K V P wr h) → (∀ j : Nat, j < n → K j = 2 → 0 ≤ V j ∧ V j ≤ 9999) → (pw_g h 125 8 = 0) → (0 ≤ o) → (pt_CD h b c) → (pt_n8 S) → (pt_tr S < 2) → pw X d h 249 0 [some (.ref 141), some (pw_i dp), none] [] (fun h' v => pw_I h' ∧ pw_E [125, 146, 147] h h' ∧ (pt_TK K V P wr h' ∧ pt_PI 2 2 (pt_FF wr) K V P S dp o b c h h') ∧ (v = .inl none))
def pt_C248 (X : List (Nat × List Value)) (dp : Int) : Prop := ∀ {d : Nat} {h : pm_H} (n : Nat) (K V P : Nat → Int) (wr : Int) (S : List Int) (o b : Int) (c : List Int), (32 - 5 * dp : Int) ≤ d → pw_I h → (pw_A n h) → (pw_g h 125 32 ≤ pw_g h 125 7) → (pt_TK K V P wr h) → (∀ j : Nat, j < n → K j = 2 → 0 ≤ V j ∧ V j ≤ 9999) → (pw_g h 125 8 = 0) → (0 ≤ o) → (pt_CD h b c) → (pt_n8 S) → (pt_tr S < 1) → pw X d h 248 0 [some (.ref 141), some (pw_i dp), none] [] (fun h' v => pw_I h' ∧ pw_E [125, 146, 147] h h' ∧ (pt_TK K V P wr h' ∧ pt_PI 1 1 (pt_FF wr) K V P S dp o b c h h') ∧ (v = .inl none))
theorem pt_S252 {X : List (Nat × List Value)} {dp : Int} (h0 : 0 ≤ dp) (h1 : dp ≤ 5) : pw_C252 X dp := by
  have h2 := @And.left _ _ (pw_C_all (X := X) (5 - dp).toNat (by omega))
  rw [show (5 - (((5 - dp).toNat : Nat) : Int)) = dp by omega] at h2
  exact @h2
theorem pt_S248 {X : List (Nat × List Value)} {dp : Int} (h0 : 0 ≤ dp) (h1 : dp ≤ 5) : pw_C248 X dp := by
  have h2 := @And.right _ _ (pw_C_all (X := X) (5 - dp).toNat (by omega))
  rw [show (5 - (((5 - dp).toNat : Nat) : Int)) = dp by omega] at h2
  exact @h2
theorem pt_S251 {X : List (Nat × List Value)} {dp : Int} (h0 : 0 ≤ dp) (h1 : dp ≤ 5) : pw_C251 X dp := fun hd I A hs => cm_251 _ h0 h1 (pt_S252 h0 h1) hd I A hs
theorem pt_S250 {X : List (Nat × List Value)} {dp : Int} (h0 : 0 ≤ dp) (h1 : dp ≤ 5) : pw_C250 X dp := fun hd I A hs => cm_250 _ h0 h1 (pt_S251 h0 h1) hd I A hs
theorem pt_S249 {X : List (Nat × List Value)} {dp : Int} (h0 : 0 ≤ dp) (h1 : dp ≤ 5) : pw_C249 X dp := fun hd I A hs => cm_249 _ h0 h1 (pt_S250 h0 h1) hd I A hs
set_option maxHeartbeats 4000000 in
theorem cm_251_t {X : List (Nat × List Value)} (dp : Int) (hdp1 : 0 ≤ dp) (hdp2 : dp ≤ 5) (hR : pt_C252 X dp) {d : Nat} {h : pm_H} (hd : (29 - 5 * dp : Int) ≤ d) (I : pw_I h) (n : Nat) (K V P : Nat → Int) (wr : Int) (S : List Int) (o b : Int) (c : List Int) (hp0 : pw_A n h) (hp1 : pw_g h 125 32 ≤ pw_g h 125 7) (hp2 : pt_TK K V P wr h) (hp3 : ∀ j : Nat, j < n → K j = 2 → 0 ≤ V j ∧ V j ≤ 9999) (hp4 : pw_g h 125 8 = 0) (hp5 : 0 ≤ o) (hp6 : pt_CD h b c) (hp7 : pt_n8 S) (hp8 : pt_tr S < 4) : pw X d h 251 0 [some (.ref 141), some (pw_i dp)] [] (fun h' v => pw_I h' ∧ pw_E [125, 146, 147] h h' ∧ (pt_TK K V P wr h' ∧ pt_PI 4 4 (pt_FF wr) K V P S dp o b c h h') ∧ (v = .inl none)) := by
  have E : pm_ent 251 = some (2, 2, 12, 4, pmc_251) := rfl
  have E0 : pw_E [125, 146, 147] h h := pw_E.rf _ _
  have hn1 : n ≤ 1000 := hp0.1
  have hA0 := hp0.2.2
  refine pw_ld E (pc' := 1) (st' := [.ref 141]) rfl (fun _ => rfl) ?_
  refine pw_ld E (pc' := 2) (st' := [pw_i dp, .ref 141]) rfl (fun _ => rfl) ?_
  obtain ⟨f1l, f1h, -⟩ := pw_obj (c := 125) I rfl
  refine pw_call (m' := 252) (As := [.ref 141, pw_i dp]) (rest := []) (ls'' := [some (.ref 141), some (pw_i dp), none, none]) (by omega) E rfl (fun _ => pw_iV rfl rfl rfl rfl (pw_cellI f1h rfl)) (rfl : pm_ent 252 = some (2, 4, 12, 4, pmc_252)) rfl rfl (pw_and (pt_S252 (dp := dp) (by omega) (by omega) (by omega) I hp0 (by omega)) (hR n K V P wr (S) (o) b (c) (by omega) I hp0 (by omega) hp2 hp3 (by omega) (by omega) hp6)) ?_
  rintro h2 v3 ⟨⟨h2I, h2E, ⟨tAa, tRa⟩, rfl⟩, ⟨-, -, ⟨tTa, tMa⟩, -⟩⟩
  refine ⟨_, rfl, ?_⟩
  have h2F := E0.tr (h2E.wk (W' := [125, 146, 147]) (by first | rfl | simp))
  show pw X d h2 251 5 [some (.ref 141), some (pw_i dp)] [] _
  have tBa := tAa.2.2
  have tCa := tRa.1.2.2.2.1
  have tDa := tRa.1.2.1
  have hPa := (pt_PT.p5 tMa hp7).dn (by decide) hp8
  have L5 : ∀ (n5 : Nat)  (gh5 : pm_H), pw_I gh5 → pw_E [125, 146, 147] h gh5 → pw_A n gh5 → pw_g gh5 125 32 ≤ pw_g gh5 125 7 → pt_TK K V P wr gh5 → pt_PI 4 5 (pt_FF wr) K V P S dp o b c h gh5 → ((n : Int) - pw_g gh5 125 7).toNat = n5 → pw X d gh5 251 5 [some (.ref 141), some (pw_i dp)] [] (fun h' v => pw_I h' ∧ pw_E [125, 146, 147] h h' ∧ (pt_TK K V P wr h' ∧ pt_PI 4 4 (pt_FF wr) K V P S dp o b c h h') ∧ (v = .inl none)) := by
    intro n5
    induction n5 using Nat.strongRecOn with
    | ind n5 ih5 =>
      intro  gh5 I5 E5 hx5_0 hx5_1 hx5_2 hx5_3 hm5
      refine pw_ld E (pc' := 6) (st' := [.ref 141]) rfl (fun _ => rfl) ?_
      have hA5 := hx5_0.2.2
      refine pw_bip E (pc' := 8) rfl rfl (by decide) ?_
      obtain ⟨f4l, f4h, -⟩ := pw_obj (c := 125) I5 rfl
      refine pw_call (m' := 256) (As := [.ref 141, pw_i 42]) (rest := []) (ls'' := [some (.ref 141), some (pw_i 42), none]) (by omega) E rfl (fun _ => pw_iV rfl rfl rfl rfl (pw_cellI f4h rfl)) (rfl : pm_ent 256 = some (2, 3, 12, 1, pmc_256)) rfl rfl (cm_256_t (by omega) I5 (42) (by omega) (by omega) (by omega)) ?_
      rintro h5 v6 ⟨h5I, h5E, x7, rfl, hx7a, hx7b, hx7r⟩
      refine ⟨_, rfl, ?_⟩
      have h5F := E5.tr (h5E.wk (W' := [125, 146, 147]) (by first | rfl | simp))
      show pw X d h5 251 11 [some (.ref 141), some (pw_i dp)] [pw_i x7] _
      change x7 = pw_sg gh5 42 ∧ pw_g h5 125 7 = pw_g gh5 125 7 + x7 ∧ pw_g h5 125 8 = pw_g gh5 125 8 ∧ pw_g h5 125 32 = pw_g gh5 125 32 ∧ pw_g h5 125 45 = pw_g gh5 125 45 at hx7r
      rcases (by omega : x7 = 1 ∨ x7 = 0) with hb8 | hb8
      · skip
        have o1 := pt_sgI hx5_2 (ch := 42) (by decide) (by decide)
        rw [← hx7r.1] at o1
        obtain ⟨-, z8, zk, zv⟩ := o1.resolve_right (fun q => by have := q.1; omega)
        have hlt := pw_A.lt hx5_0 (by rw [hx5_2.1, zk]; decide)
        obtain ⟨c2, hC2, hM2⟩ := pt_PI.op (y := 7) hx5_3 z8 (by rw [zk, zv]; rfl) (by decide) (by decide) (by rw [pt_rk7]; exact hp8) (by decide)
        have tAd : pw_A n h5 := ⟨hn1, by rw [pw_Eg (c := 127) I5 h5E rfl rfl]; exact hx5_0.2.1, by omega, by omega, by omega, by omega⟩
        have tTd : pt_TK K V P wr h5 := pt_TK.E I5 h5E hx5_2 rfl (by omega)
        have hC3 := pt_CD.E I5 h5E hC2 rfl (by omega)
        have hM3 := hM2
        rw [show pw_g gh5 125 7 + 1 = pw_g h5 125 7 by omega] at hM3
        refine pw_if E (pc' := 29) rfl (by decide) (by omega) (by omega) ?_ ?_
        · intro hc9
          change x7 = (0 : Int) at hc9
          exfalso; omega
        · intro hc10
          change ¬ (x7 = (0 : Int)) at hc10
          refine pw_ld E (pc' := 15) (st' := [.ref 141]) rfl (fun _ => rfl) ?_
          refine pw_ld E (pc' := 16) (st' := [pw_i dp, .ref 141]) rfl (fun _ => rfl) ?_
          obtain ⟨f11l, f11h, -⟩ := pw_obj (c := 125) h5I rfl
          refine pw_call (m' := 252) (As := [.ref 141, pw_i dp]) (rest := []) (ls'' := [some (.ref 141), some (pw_i dp), none, none]) (by omega) E rfl (fun _ => pw_iV rfl rfl rfl rfl (pw_cellI f11h rfl)) (rfl : pm_ent 252 = some (2, 4, 12, 4, pmc_252)) rfl rfl (pw_and (pt_S252 (dp := dp) (by omega) (by omega) (by omega) h5I tAd (by omega)) (hR n K V P wr (7 :: S) (o) b (c2) (by omega) h5I tAd (by omega) tTd hp3 (by omega) (by omega) hC3)) ?_
          rintro h12 v13 ⟨⟨h12I, h12E, ⟨tAb, tRb⟩, rfl⟩, ⟨-, -, ⟨tTb, tMb⟩, -⟩⟩
          refine ⟨_, rfl, ?_⟩
          have h12F := h5F.tr (h12E.wk (W' := [125, 146, 147]) (by first | rfl | simp))
          show pw X d h12 251 19 [some (.ref 141), some (pw_i dp)] [] _
          have tBb := tAb.2.2
          have tCb := tRb.1.2.2.2.1
          have tDb := tRb.1.2.1
          refine pw_ld E (pc' := 20) (st' := [.ref 141]) rfl (fun _ => rfl) ?_
          refine pw_bip E (pc' := 22) rfl rfl (by decide) ?_
          refine pw_ld E (pc' := 23) (st' := [pw_i 0, pw_i 6, .ref 141]) rfl (fun _ => rfl) ?_
          obtain ⟨f14l, f14h, -⟩ := pw_obj (c := 125) h12I rfl
          refine pw_call (m' := 255) (As := [.ref 141, pw_i 6, pw_i 0]) (rest := []) (ls'' := [some (.ref 141), some (pw_i 6), some (pw_i 0)]) (by omega) E rfl (fun _ => pw_iV rfl rfl rfl rfl (pw_cellI f14h rfl)) (rfl : pm_ent 255 = some (3, 3, 12, 4, pmc_255)) rfl rfl (cm_255_t (by omega) h12I (6) (by omega) (by omega) (0) (by omega) (by omega) (by omega)) ?_
          rintro h15 v16 ⟨h15I, h15E, hqem, rfl⟩
          refine ⟨_, rfl, ?_⟩
          have h15F := h12F.tr (h15E.wk (W' := [125, 146, 147]) (by first | rfl | simp))
          show pw X d h15 251 26 [some (.ref 141), some (pw_i dp)] [] _
          have tEc := hqem.1
          have tE7 := tEc.1
          have tE8 := tEc.2.1
          have tE32 := tEc.2.2.1
          have tE45 := hqem.2
          have tAec : pw_A n h15 := ⟨hn1, by rw [pw_Eg (c := 127) h12I h15E rfl rfl]; exact tAb.2.1, by omega, by omega, by omega, by omega⟩
          have tTec : pt_TK K V P wr h15 := pt_TK.E h12I h15E tTb rfl (by omega)
          have hPc := pt_PI.cl hM3 (pt_PT.p5 tMb (pt_n81 (by decide))) tEc (Or.inr (Or.inr (Or.inr (Or.inr (Or.inr (Or.inl ⟨rfl, rfl⟩)))))) (by decide) (by rw [pt_rk7]; exact hp8)
          rw [pt_rk7] at hPc
          refine pw_goto E (pc' := 5) rfl (by decide) ?_
          exact ih5 _ (by omega)  h15 h15I h15F  tAec (by omega) tTec hPc rfl
      · skip
        have o1 := pt_sgI hx5_2 (ch := 42) (by decide) (by decide)
        rw [← hx7r.1] at o1
        have tAd : pw_A n h5 := ⟨hn1, by rw [pw_Eg (c := 127) I5 h5E rfl rfl]; exact hx5_0.2.1, by omega, by omega, by omega, by omega⟩
        have tTd : pt_TK K V P wr h5 := pt_TK.E I5 h5E hx5_2 rfl (by omega)
        have hPd := pt_PI.E I5 h5E hx5_3 rfl (by omega) (by omega) (by omega)
        have hno := (o1.resolve_left (fun q => by have := q.1; omega)).2
        refine pw_if E (pc' := 29) rfl (by decide) (by omega) (by omega) ?_ ?_
        · intro hc18
          change x7 = (0 : Int) at hc18
          refine pw_vret E rfl ?_
          exact ⟨h5I, h5F, ⟨tTd, pt_PI.nx hPd rfl (fun z => by rw [show pw_g h5 125 7 = pw_g gh5 125 7 by omega]; exact pt_op4 (fun q => hno ⟨by omega, q.1, q.2⟩))⟩, rfl⟩
        · intro hc19
          change ¬ (x7 = (0 : Int)) at hc19
          exfalso; omega
  exact L5 _  h2 h2I h2F  (by omega) (by omega) (by omega) (by omega) rfl
set_option maxHeartbeats 4000000 in
theorem cm_250_t {X : List (Nat × List Value)} (dp : Int) (hdp1 : 0 ≤ dp) (hdp2 : dp ≤ 5) (hR : pt_C251 X dp) {d : Nat} {h : pm_H} (hd : (30 - 5 * dp : Int) ≤ d) (I : pw_I h) (n : Nat) (K V P : Nat → Int) (wr : Int) (S : List Int) (o b : Int) (c : List Int) (hp0 : pw_A n h) (hp1 : pw_g h 125 32 ≤ pw_g h 125 7) (hp2 : pt_TK K V P wr h) (hp3 : ∀ j : Nat, j < n → K j = 2 → 0 ≤ V j ∧ V j ≤ 9999) (hp4 : pw_g h 125 8 = 0) (hp5 : 0 ≤ o) (hp6 : pt_CD h b c) (hp7 : pt_n8 S) (hp8 : pt_tr S < 3) : pw X d h 250 0 [some (.ref 141), some (pw_i dp), none] [] (fun h' v => pw_I h' ∧ pw_E [125, 146, 147] h h' ∧ (pt_TK K V P wr h' ∧ pt_PI 3 3 (pt_FF wr) K V P S dp o b c h h') ∧ (v = .inl none)) := by
  have E : pm_ent 250 = some (2, 3, 12, 4, pmc_250) := rfl
  have E0 : pw_E [125, 146, 147] h h := pw_E.rf _ _
  have hn1 : n ≤ 1000 := hp0.1
  have hA0 := hp0.2.2
  refine pw_ld E (pc' := 1) (st' := [.ref 141]) rfl (fun _ => rfl) ?_
  refine pw_ld E (pc' := 2) (st' := [pw_i dp, .ref 141]) rfl (fun _ => rfl) ?_
  obtain ⟨f1l, f1h, -⟩ := pw_obj (c := 125) I rfl
  refine pw_call (m' := 251) (As := [.ref 141, pw_i dp]) (rest := []) (ls'' := [some (.ref 141), some (pw_i dp)]) (by omega) E rfl (fun _ => pw_iV rfl rfl rfl rfl (pw_cellI f1h rfl)) (rfl : pm_ent 251 = some (2, 2, 12, 4, pmc_251)) rfl rfl (pw_and (pt_S251 (dp := dp) (by omega) (by omega) (by omega) I hp0 (by omega)) (hR n K V P wr (S) (o) b (c) (by omega) I hp0 (by omega) hp2 hp3 (by omega) (by omega) hp6 hp7 (by omega))) ?_
  rintro h2 v3 ⟨⟨h2I, h2E, ⟨tAa, tRa⟩, rfl⟩, ⟨-, -, ⟨tTa, tMa⟩, -⟩⟩
  refine ⟨_, rfl, ?_⟩
  have h2F := E0.tr (h2E.wk (W' := [125, 146, 147]) (by first | rfl | simp))
  show pw X d h2 250 5 [some (.ref 141), some (pw_i dp), none] [] _
  have tBa := tAa.2.2
  have tCa := tRa.1.2.2.2.1
  have tDa := tRa.1.2.1
  have hPa := tMa.dn (by decide) hp8
  have L5 : ∀ (n5 : Nat) (k5_2 : Option Value) (gh5 : pm_H), pw_I gh5 → pw_E [125, 146, 147] h gh5 → pw_A n gh5 → pw_g gh5 125 32 ≤ pw_g gh5 125 7 → pt_TK K V P wr gh5 → pt_PI 3 4 (pt_FF wr) K V P S dp o b c h gh5 → ((n : Int) - pw_g gh5 125 7).toNat = n5 → pw X d gh5 250 5 [some (.ref 141), some (pw_i dp), k5_2] [] (fun h' v => pw_I h' ∧ pw_E [125, 146, 147] h h' ∧ (pt_TK K V P wr h' ∧ pt_PI 3 3 (pt_FF wr) K V P S dp o b c h h') ∧ (v = .inl none)) := by
    intro n5
    induction n5 using Nat.strongRecOn with
    | ind n5 ih5 =>
      intro k5_2 gh5 I5 E5 hx5_0 hx5_1 hx5_2 hx5_3 hm5
      refine pw_ld E (pc' := 6) (st' := [.ref 141]) rfl (fun _ => rfl) ?_
      have hA5 := hx5_0.2.2
      refine pw_bip E (pc' := 8) rfl rfl (by decide) ?_
      obtain ⟨f4l, f4h, -⟩ := pw_obj (c := 125) I5 rfl
      refine pw_call (m' := 254) (As := [.ref 141, pw_i 43]) (rest := []) (ls'' := [some (.ref 141), some (pw_i 43)]) (by omega) E rfl (fun _ => pw_iV rfl rfl rfl rfl (pw_cellI f4h rfl)) (rfl : pm_ent 254 = some (2, 2, 12, 1, pmc_254)) rfl rfl (cm_254 (by omega) I5 (43) (by omega) (by omega)) ?_
      rintro u6 v5 ⟨rfl, x7, rfl, hx7a, hx7b, hx7r⟩
      refine ⟨_, rfl, ?_⟩
      show pw X d gh5 250 11 [some (.ref 141), some (pw_i dp), k5_2] [pw_i x7] _
      change x7 = pw_sg gh5 43 ∧ (x7 = 1 → pw_g gh5 125 8 = 0 ∧ pw_g gh5 127 (pw_g gh5 125 7).toNat = 3) at hx7r
      rcases (by omega : x7 = 1 ∨ x7 = 0) with hb8 | hb8
      · skip
        refine pw_if E (pc' := 23) rfl (by decide) (by omega) (by omega) ?_ ?_
        · intro hc9
          change x7 ≠ (0 : Int) at hc9
          refine pw_ld E (pc' := 24) (st' := [.ref 141]) rfl (fun _ => rfl) ?_
          refine pw_bip E (pc' := 26) rfl rfl (by decide) ?_
          obtain ⟨f10l, f10h, -⟩ := pw_obj (c := 125) I5 rfl
          refine pw_call (m' := 254) (As := [.ref 141, pw_i 43]) (rest := []) (ls'' := [some (.ref 141), some (pw_i 43)]) (by omega) E rfl (fun _ => pw_iV rfl rfl rfl rfl (pw_cellI f10h rfl)) (rfl : pm_ent 254 = some (2, 2, 12, 1, pmc_254)) rfl rfl (cm_254 (by omega) I5 (43) (by omega) (by omega)) ?_
          rintro u12 v11 ⟨rfl, x13, rfl, hx13a, hx13b, hx13r⟩
          refine ⟨_, rfl, ?_⟩
          show pw X d gh5 250 29 [some (.ref 141), some (pw_i dp), k5_2] [pw_i x13] _
          change x13 = pw_sg gh5 43 ∧ (x13 = 1 → pw_g gh5 125 8 = 0 ∧ pw_g gh5 127 (pw_g gh5 125 7).toNat = 3) at hx13r
          refine pw_istn E (pc' := 30) (ls' := [some (.ref 141), some (pw_i dp), some (pw_i x13)]) rfl rfl rfl rfl ?_
          have o1 := pt_sgI hx5_2 (ch := 43) (by decide) (by decide)
          rw [← hx7r.1] at o1
          obtain ⟨-, z8, zk, zv⟩ := o1.resolve_right (fun q => by have := q.1; omega)
          have hlt := pw_A.lt hx5_0 (by rw [hx5_2.1, zk]; decide)
          obtain ⟨c2, hC2, hM2⟩ := pt_PI.op (y := 5) hx5_3 z8 (by rw [zk, zv]; rfl) (by decide) (by decide) (by rw [pt_rk5]; exact hp8) (by decide)
          refine pw_ld E (pc' := 31) (st' := [.ref 141]) rfl (fun _ => rfl) ?_
          refine pw_ld E (pc' := 32) (st' := [.ref 141, .ref 141]) rfl (fun _ => rfl) ?_
          refine pw_getI2 I5 E (c := 125) (k := 7) (pc' := 35) rfl rfl rfl rfl rfl rfl (fun hf14a hf14b => ?_)
          refine pw_ld E (pc' := 36) (st' := [pw_i 1, pw_i (pw_g gh5 125 7), .ref 141]) rfl (fun _ => rfl) ?_
          refine pw_add E (pc' := 37) rfl rfl ?_
          refine pw_putI I5 E (c := 125) (k := 7) (pc' := 40) rfl rfl rfl rfl (by omega) (by omega) (by omega) (by omega) rfl rfl ?_
          intro h15I h15E
          generalize h15w : pw_w gh5 125 7 (pw_i ((pw_g gh5 125 7) + 1)) = h15 at h15I h15E ⊢
          have h15F := E5.tr (h15E.wk (W' := [125, 146, 147]) (by first | rfl | simp))
          have h157 : pw_g h15 125 7 = pw_g gh5 125 7 + 1 := by rw [← h15w]; exact pw_g_eq (c := 125) (k := 7) I5 rfl rfl (by omega) (by omega)
          have h158 : pw_g h15 125 8 = pw_g gh5 125 8 := by rw [← h15w]; exact pw_g_ne (by omega)
          have h1532 : pw_g h15 125 32 = pw_g gh5 125 32 := by rw [← h15w]; exact pw_g_ne (by omega)
          have h1545 : pw_g h15 125 45 = pw_g gh5 125 45 := by rw [← h15w]; exact pw_g_ne (by omega)
          have tAw : pw_A n h15 := ⟨hn1, by rw [pw_Eg (c := 127) I5 h15E rfl rfl]; exact hx5_0.2.1, by omega, by omega, by omega, by omega⟩
          have tTw : pt_TK K V P wr h15 := pt_TK.E I5 h15E hx5_2 rfl (by omega)
          have hC3 := pt_CD.E I5 h15E hC2 rfl (by omega)
          have hM3 := hM2
          rw [show pw_g gh5 125 7 + 1 = pw_g h15 125 7 by omega] at hM3
          refine pw_ld E (pc' := 41) (st' := [.ref 141]) rfl (fun _ => rfl) ?_
          refine pw_ld E (pc' := 42) (st' := [pw_i dp, .ref 141]) rfl (fun _ => rfl) ?_
          obtain ⟨f16l, f16h, -⟩ := pw_obj (c := 125) h15I rfl
          refine pw_call (m' := 251) (As := [.ref 141, pw_i dp]) (rest := []) (ls'' := [some (.ref 141), some (pw_i dp)]) (by omega) E rfl (fun _ => pw_iV rfl rfl rfl rfl (pw_cellI f16h rfl)) (rfl : pm_ent 251 = some (2, 2, 12, 4, pmc_251)) rfl rfl (pw_and (pt_S251 (dp := dp) (by omega) (by omega) (by omega) h15I tAw (by omega)) (hR n K V P wr (5 :: S) (o) b (c2) (by omega) h15I tAw (by omega) tTw hp3 (by omega) (by omega) hC3 (pt_n81 (by decide)) (by rw [pt_tr1, pt_rk5]; decide))) ?_
          rintro h17 v18 ⟨⟨h17I, h17E, ⟨tAb, tRb⟩, rfl⟩, ⟨-, -, ⟨tTb, tMb⟩, -⟩⟩
          refine ⟨_, rfl, ?_⟩
          have h17F := h15F.tr (h17E.wk (W' := [125, 146, 147]) (by first | rfl | simp))
          show pw X d h17 250 45 [some (.ref 141), some (pw_i dp), some (pw_i x13)] [] _
          have tBb := tAb.2.2
          have tCb := tRb.1.2.2.2.1
          have tDb := tRb.1.2.1
          refine pw_ld E (pc' := 46) (st' := [.ref 141]) rfl (fun _ => rfl) ?_
          refine pw_ld E (pc' := 47) (st' := [pw_i x13, .ref 141]) rfl (fun _ => rfl) ?_
          refine pw_if E (pc' := 54) rfl (by decide) (by omega) (by omega) ?_ ?_
          · intro hc19
            change x13 = (0 : Int) at hc19
            exfalso; omega
          · intro hc20
            change ¬ (x13 = (0 : Int)) at hc20
            refine pw_ld E (pc' := 51) (st' := [pw_i 4, .ref 141]) rfl (fun _ => rfl) ?_
            refine pw_goto E (pc' := 55) rfl (by decide) ?_
            refine pw_ld E (pc' := 56) (st' := [pw_i 0, pw_i 4, .ref 141]) rfl (fun _ => rfl) ?_
            obtain ⟨f21l, f21h, -⟩ := pw_obj (c := 125) h17I rfl
            refine pw_call (m' := 255) (As := [.ref 141, pw_i 4, pw_i 0]) (rest := []) (ls'' := [some (.ref 141), some (pw_i 4), some (pw_i 0)]) (by omega) E rfl (fun _ => pw_iV rfl rfl rfl rfl (pw_cellI f21h rfl)) (rfl : pm_ent 255 = some (3, 3, 12, 4, pmc_255)) rfl rfl (cm_255_t (by omega) h17I (4) (by omega) (by omega) (0) (by omega) (by omega) (by omega)) ?_
            rintro h22 v23 ⟨h22I, h22E, hqem, rfl⟩
            refine ⟨_, rfl, ?_⟩
            have h22F := h17F.tr (h22E.wk (W' := [125, 146, 147]) (by first | rfl | simp))
            show pw X d h22 250 59 [some (.ref 141), some (pw_i dp), some (pw_i x13)] [] _
            have tEc := hqem.1
            have tE7 := tEc.1
            have tE8 := tEc.2.1
            have tE32 := tEc.2.2.1
            have tE45 := hqem.2
            have tAec : pw_A n h22 := ⟨hn1, by rw [pw_Eg (c := 127) h17I h22E rfl rfl]; exact tAb.2.1, by omega, by omega, by omega, by omega⟩
            have tTec : pt_TK K V P wr h22 := pt_TK.E h17I h22E tTb rfl (by omega)
            have hPc := pt_PI.cl hM3 tMb tEc (Or.inr (Or.inr (Or.inr (Or.inl ⟨rfl, rfl⟩)))) (by decide) (by rw [pt_rk5]; exact hp8)
            rw [pt_rk5] at hPc
            refine pw_goto E (pc' := 5) rfl (by decide) ?_
            exact ih5 _ (by omega) (some (pw_i x13)) h22 h22I h22F  tAec (by omega) tTec hPc rfl
        · intro hc24
          change ¬ (x7 ≠ (0 : Int)) at hc24
          exfalso; omega
      · skip
        refine pw_if E (pc' := 23) rfl (by decide) (by omega) (by omega) ?_ ?_
        · intro hc26
          change x7 ≠ (0 : Int) at hc26
          exfalso; omega
        · intro hc27
          change ¬ (x7 ≠ (0 : Int)) at hc27
          refine pw_ld E (pc' := 15) (st' := [.ref 141]) rfl (fun _ => rfl) ?_
          refine pw_bip E (pc' := 17) rfl rfl (by decide) ?_
          obtain ⟨f28l, f28h, -⟩ := pw_obj (c := 125) I5 rfl
          refine pw_call (m' := 254) (As := [.ref 141, pw_i 45]) (rest := []) (ls'' := [some (.ref 141), some (pw_i 45)]) (by omega) E rfl (fun _ => pw_iV rfl rfl rfl rfl (pw_cellI f28h rfl)) (rfl : pm_ent 254 = some (2, 2, 12, 1, pmc_254)) rfl rfl (cm_254 (by omega) I5 (45) (by omega) (by omega)) ?_
          rintro u30 v29 ⟨rfl, x31, rfl, hx31a, hx31b, hx31r⟩
          refine ⟨_, rfl, ?_⟩
          show pw X d gh5 250 20 [some (.ref 141), some (pw_i dp), k5_2] [pw_i x31] _
          change x31 = pw_sg gh5 45 ∧ (x31 = 1 → pw_g gh5 125 8 = 0 ∧ pw_g gh5 127 (pw_g gh5 125 7).toNat = 3) at hx31r
          rcases (by omega : x31 = 1 ∨ x31 = 0) with hb32 | hb32
          · skip
            refine pw_if E (pc' := 62) rfl (by decide) (by omega) (by omega) ?_ ?_
            · intro hc33
              change x31 = (0 : Int) at hc33
              exfalso; omega
            · intro hc34
              change ¬ (x31 = (0 : Int)) at hc34
              refine pw_ld E (pc' := 24) (st' := [.ref 141]) rfl (fun _ => rfl) ?_
              refine pw_bip E (pc' := 26) rfl rfl (by decide) ?_
              obtain ⟨f35l, f35h, -⟩ := pw_obj (c := 125) I5 rfl
              refine pw_call (m' := 254) (As := [.ref 141, pw_i 43]) (rest := []) (ls'' := [some (.ref 141), some (pw_i 43)]) (by omega) E rfl (fun _ => pw_iV rfl rfl rfl rfl (pw_cellI f35h rfl)) (rfl : pm_ent 254 = some (2, 2, 12, 1, pmc_254)) rfl rfl (cm_254 (by omega) I5 (43) (by omega) (by omega)) ?_
              rintro u37 v36 ⟨rfl, x38, rfl, hx38a, hx38b, hx38r⟩
              refine ⟨_, rfl, ?_⟩
              show pw X d gh5 250 29 [some (.ref 141), some (pw_i dp), k5_2] [pw_i x38] _
              change x38 = pw_sg gh5 43 ∧ (x38 = 1 → pw_g gh5 125 8 = 0 ∧ pw_g gh5 127 (pw_g gh5 125 7).toNat = 3) at hx38r
              refine pw_istn E (pc' := 30) (ls' := [some (.ref 141), some (pw_i dp), some (pw_i x38)]) rfl rfl rfl rfl ?_
              have o1 := pt_sgI hx5_2 (ch := 45) (by decide) (by decide)
              rw [← hx31r.1] at o1
              obtain ⟨-, z8, zk, zv⟩ := o1.resolve_right (fun q => by have := q.1; omega)
              have hlt := pw_A.lt hx5_0 (by rw [hx5_2.1, zk]; decide)
              obtain ⟨c2, hC2, hM2⟩ := pt_PI.op (y := 6) hx5_3 z8 (by rw [zk, zv]; rfl) (by decide) (by decide) (by rw [pt_rk6]; exact hp8) (by decide)
              refine pw_ld E (pc' := 31) (st' := [.ref 141]) rfl (fun _ => rfl) ?_
              refine pw_ld E (pc' := 32) (st' := [.ref 141, .ref 141]) rfl (fun _ => rfl) ?_
              refine pw_getI2 I5 E (c := 125) (k := 7) (pc' := 35) rfl rfl rfl rfl rfl rfl (fun hf39a hf39b => ?_)
              refine pw_ld E (pc' := 36) (st' := [pw_i 1, pw_i (pw_g gh5 125 7), .ref 141]) rfl (fun _ => rfl) ?_
              refine pw_add E (pc' := 37) rfl rfl ?_
              refine pw_putI I5 E (c := 125) (k := 7) (pc' := 40) rfl rfl rfl rfl (by omega) (by omega) (by omega) (by omega) rfl rfl ?_
              intro h40I h40E
              generalize h40w : pw_w gh5 125 7 (pw_i ((pw_g gh5 125 7) + 1)) = h40 at h40I h40E ⊢
              have h40F := E5.tr (h40E.wk (W' := [125, 146, 147]) (by first | rfl | simp))
              have h407 : pw_g h40 125 7 = pw_g gh5 125 7 + 1 := by rw [← h40w]; exact pw_g_eq (c := 125) (k := 7) I5 rfl rfl (by omega) (by omega)
              have h408 : pw_g h40 125 8 = pw_g gh5 125 8 := by rw [← h40w]; exact pw_g_ne (by omega)
              have h4032 : pw_g h40 125 32 = pw_g gh5 125 32 := by rw [← h40w]; exact pw_g_ne (by omega)
              have h4045 : pw_g h40 125 45 = pw_g gh5 125 45 := by rw [← h40w]; exact pw_g_ne (by omega)
              have tAw : pw_A n h40 := ⟨hn1, by rw [pw_Eg (c := 127) I5 h40E rfl rfl]; exact hx5_0.2.1, by omega, by omega, by omega, by omega⟩
              have tTw : pt_TK K V P wr h40 := pt_TK.E I5 h40E hx5_2 rfl (by omega)
              have hC3 := pt_CD.E I5 h40E hC2 rfl (by omega)
              have hM3 := hM2
              rw [show pw_g gh5 125 7 + 1 = pw_g h40 125 7 by omega] at hM3
              refine pw_ld E (pc' := 41) (st' := [.ref 141]) rfl (fun _ => rfl) ?_
              refine pw_ld E (pc' := 42) (st' := [pw_i dp, .ref 141]) rfl (fun _ => rfl) ?_
              obtain ⟨f41l, f41h, -⟩ := pw_obj (c := 125) h40I rfl
              refine pw_call (m' := 251) (As := [.ref 141, pw_i dp]) (rest := []) (ls'' := [some (.ref 141), some (pw_i dp)]) (by omega) E rfl (fun _ => pw_iV rfl rfl rfl rfl (pw_cellI f41h rfl)) (rfl : pm_ent 251 = some (2, 2, 12, 4, pmc_251)) rfl rfl (pw_and (pt_S251 (dp := dp) (by omega) (by omega) (by omega) h40I tAw (by omega)) (hR n K V P wr (6 :: S) (o) b (c2) (by omega) h40I tAw (by omega) tTw hp3 (by omega) (by omega) hC3 (pt_n81 (by decide)) (by rw [pt_tr1, pt_rk6]; decide))) ?_
              rintro h42 v43 ⟨⟨h42I, h42E, ⟨tAb, tRb⟩, rfl⟩, ⟨-, -, ⟨tTb, tMb⟩, -⟩⟩
              refine ⟨_, rfl, ?_⟩
              have h42F := h40F.tr (h42E.wk (W' := [125, 146, 147]) (by first | rfl | simp))
              show pw X d h42 250 45 [some (.ref 141), some (pw_i dp), some (pw_i x38)] [] _
              have tBb := tAb.2.2
              have tCb := tRb.1.2.2.2.1
              have tDb := tRb.1.2.1
              refine pw_ld E (pc' := 46) (st' := [.ref 141]) rfl (fun _ => rfl) ?_
              refine pw_ld E (pc' := 47) (st' := [pw_i x38, .ref 141]) rfl (fun _ => rfl) ?_
              refine pw_if E (pc' := 54) rfl (by decide) (by omega) (by omega) ?_ ?_
              · intro hc44
                change x38 = (0 : Int) at hc44
                refine pw_ld E (pc' := 55) (st' := [pw_i 5, .ref 141]) rfl (fun _ => rfl) ?_
                refine pw_ld E (pc' := 56) (st' := [pw_i 0, pw_i 5, .ref 141]) rfl (fun _ => rfl) ?_
                obtain ⟨f45l, f45h, -⟩ := pw_obj (c := 125) h42I rfl
                refine pw_call (m' := 255) (As := [.ref 141, pw_i 5, pw_i 0]) (rest := []) (ls'' := [some (.ref 141), some (pw_i 5), some (pw_i 0)]) (by omega) E rfl (fun _ => pw_iV rfl rfl rfl rfl (pw_cellI f45h rfl)) (rfl : pm_ent 255 = some (3, 3, 12, 4, pmc_255)) rfl rfl (cm_255_t (by omega) h42I (5) (by omega) (by omega) (0) (by omega) (by omega) (by omega)) ?_
                rintro h46 v47 ⟨h46I, h46E, hqem, rfl⟩
                refine ⟨_, rfl, ?_⟩
                have h46F := h42F.tr (h46E.wk (W' := [125, 146, 147]) (by first | rfl | simp))
                show pw X d h46 250 59 [some (.ref 141), some (pw_i dp), some (pw_i x38)] [] _
                have tEc := hqem.1
                have tE7 := tEc.1
                have tE8 := tEc.2.1
                have tE32 := tEc.2.2.1
                have tE45 := hqem.2
                have tAec : pw_A n h46 := ⟨hn1, by rw [pw_Eg (c := 127) h42I h46E rfl rfl]; exact tAb.2.1, by omega, by omega, by omega, by omega⟩
                have tTec : pt_TK K V P wr h46 := pt_TK.E h42I h46E tTb rfl (by omega)
                have hPc := pt_PI.cl hM3 tMb tEc (Or.inr (Or.inr (Or.inr (Or.inr (Or.inl ⟨rfl, rfl⟩))))) (by decide) (by rw [pt_rk6]; exact hp8)
                rw [pt_rk6] at hPc
                refine pw_goto E (pc' := 5) rfl (by decide) ?_
                exact ih5 _ (by omega) (some (pw_i x38)) h46 h46I h46F  tAec (by omega) tTec hPc rfl
              · intro hc48
                change ¬ (x38 = (0 : Int)) at hc48
                exfalso; omega
          · skip
            refine pw_if E (pc' := 62) rfl (by decide) (by omega) (by omega) ?_ ?_
            · intro hc50
              change x31 = (0 : Int) at hc50
              have n0 := pt_sgI hx5_2 (ch := 43) (by decide) (by decide)
              rw [← hx7r.1] at n0
              have n0 := (n0.resolve_left (fun q => by have := q.1; omega)).2
              have n1 := pt_sgI hx5_2 (ch := 45) (by decide) (by decide)
              rw [← hx31r.1] at n1
              have n1 := (n1.resolve_left (fun q => by have := q.1; omega)).2
              refine pw_vret E rfl ?_
              exact ⟨I5, E5, ⟨hx5_2, pt_PI.nx hx5_3 rfl (fun z => pt_op3 (fun q => n0 ⟨z, q.1, q.2⟩) (fun q => n1 ⟨z, q.1, q.2⟩))⟩, rfl⟩
            · intro hc51
              change ¬ (x31 = (0 : Int)) at hc51
              exfalso; omega
  exact L5 _ (none) h2 h2I h2F  tAa (by omega) tTa hPa rfl
set_option maxHeartbeats 4000000 in
theorem cm_249_t {X : List (Nat × List Value)} (dp : Int) (hdp1 : 0 ≤ dp) (hdp2 : dp ≤ 5) (hR : pt_C250 X dp) {d : Nat} {h : pm_H} (hd : (31 - 5 * dp : Int) ≤ d) (I : pw_I h) (n : Nat) (K V P : Nat → Int) (wr : Int) (S : List Int) (o b : Int) (c : List Int) (hp0 : pw_A n h) (hp1 : pw_g h 125 32 ≤ pw_g h 125 7) (hp2 : pt_TK K V P wr h) (hp3 : ∀ j : Nat, j < n → K j = 2 → 0 ≤ V j ∧ V j ≤ 9999) (hp4 : pw_g h 125 8 = 0) (hp5 : 0 ≤ o) (hp6 : pt_CD h b c) (hp7 : pt_n8 S) (hp8 : pt_tr S < 2) : pw X d h 249 0 [some (.ref 141), some (pw_i dp), none] [] (fun h' v => pw_I h' ∧ pw_E [125, 146, 147] h h' ∧ (pt_TK K V P wr h' ∧ pt_PI 2 2 (pt_FF wr) K V P S dp o b c h h') ∧ (v = .inl none)) := by
  have E : pm_ent 249 = some (2, 3, 12, 4, pmc_249) := rfl
  have E0 : pw_E [125, 146, 147] h h := pw_E.rf _ _
  have hn1 : n ≤ 1000 := hp0.1
  have hA0 := hp0.2.2
  refine pw_ld E (pc' := 1) (st' := [.ref 141]) rfl (fun _ => rfl) ?_
  refine pw_ld E (pc' := 2) (st' := [pw_i dp, .ref 141]) rfl (fun _ => rfl) ?_
  obtain ⟨f1l, f1h, -⟩ := pw_obj (c := 125) I rfl
  refine pw_call (m' := 250) (As := [.ref 141, pw_i dp]) (rest := []) (ls'' := [some (.ref 141), some (pw_i dp), none]) (by omega) E rfl (fun _ => pw_iV rfl rfl rfl rfl (pw_cellI f1h rfl)) (rfl : pm_ent 250 = some (2, 3, 12, 4, pmc_250)) rfl rfl (pw_and (pt_S250 (dp := dp) (by omega) (by omega) (by omega) I hp0 (by omega)) (hR n K V P wr (S) (o) b (c) (by omega) I hp0 (by omega) hp2 hp3 (by omega) (by omega) hp6 hp7 (by omega))) ?_
  rintro h2 v3 ⟨⟨h2I, h2E, ⟨tAa, tRa⟩, rfl⟩, ⟨-, -, ⟨tTa, tMa⟩, -⟩⟩
  refine ⟨_, rfl, ?_⟩
  have h2F := E0.tr (h2E.wk (W' := [125, 146, 147]) (by first | rfl | simp))
  show pw X d h2 249 5 [some (.ref 141), some (pw_i dp), none] [] _
  have tBa := tAa.2.2
  have tCa := tRa.1.2.2.2.1
  have tDa := tRa.1.2.1
  refine pw_ld E (pc' := 6) (st' := [.ref 141]) rfl (fun _ => rfl) ?_
  refine pw_bip E (pc' := 8) rfl rfl (by decide) ?_
  obtain ⟨f4l, f4h, -⟩ := pw_obj (c := 125) h2I rfl
  refine pw_call (m' := 254) (As := [.ref 141, pw_i 60]) (rest := []) (ls'' := [some (.ref 141), some (pw_i 60)]) (by omega) E rfl (fun _ => pw_iV rfl rfl rfl rfl (pw_cellI f4h rfl)) (rfl : pm_ent 254 = some (2, 2, 12, 1, pmc_254)) rfl rfl (cm_254 (by omega) h2I (60) (by omega) (by omega)) ?_
  rintro u6 v5 ⟨rfl, x7, rfl, hx7a, hx7b, hx7r⟩
  refine ⟨_, rfl, ?_⟩
  show pw X d h2 249 11 [some (.ref 141), some (pw_i dp), none] [pw_i x7] _
  change x7 = pw_sg h2 60 ∧ (x7 = 1 → pw_g h2 125 8 = 0 ∧ pw_g h2 127 (pw_g h2 125 7).toNat = 3) at hx7r
  refine pw_istn E (pc' := 12) (ls' := [some (.ref 141), some (pw_i dp), some (pw_i x7)]) rfl rfl rfl rfl ?_
  refine pw_ld E (pc' := 13) (st' := [.ref 141]) rfl (fun _ => rfl) ?_
  refine pw_bip E (pc' := 15) rfl rfl (by decide) ?_
  obtain ⟨f8l, f8h, -⟩ := pw_obj (c := 125) h2I rfl
  refine pw_call (m' := 256) (As := [.ref 141, pw_i 60]) (rest := []) (ls'' := [some (.ref 141), some (pw_i 60), none]) (by omega) E rfl (fun _ => pw_iV rfl rfl rfl rfl (pw_cellI f8h rfl)) (rfl : pm_ent 256 = some (2, 3, 12, 1, pmc_256)) rfl rfl (cm_256_t (by omega) h2I (60) (by omega) (by omega) (by omega)) ?_
  rintro h9 v10 ⟨h9I, h9E, x11, rfl, hx11a, hx11b, hx11r⟩
  refine ⟨_, rfl, ?_⟩
  have h9F := h2F.tr (h9E.wk (W' := [125, 146, 147]) (by first | rfl | simp))
  show pw X d h9 249 18 [some (.ref 141), some (pw_i dp), some (pw_i x7)] [pw_i x11] _
  change x11 = pw_sg h2 60 ∧ pw_g h9 125 7 = pw_g h2 125 7 + x11 ∧ pw_g h9 125 8 = pw_g h2 125 8 ∧ pw_g h9 125 32 = pw_g h2 125 32 ∧ pw_g h9 125 45 = pw_g h2 125 45 at hx11r
  rcases (by omega : x11 = 1 ∨ x11 = 0) with hb12 | hb12
  · skip
    have o1 := pt_sgI tTa (ch := 60) (by decide) (by decide)
    rw [← hx11r.1] at o1
    obtain ⟨-, z8, zk, zv⟩ := o1.resolve_right (fun q => by have := q.1; omega)
    have hlt := pw_A.lt tAa (by rw [tTa.1, zk]; decide)
    obtain ⟨c2, hC2, hM2⟩ := pt_PI.op (y := 3) tMa z8 (by rw [zk, zv]; rfl) (by decide) (by decide) (by rw [pt_rk3]; exact hp8) (by decide)
    have tAf : pw_A n h9 := ⟨hn1, by rw [pw_Eg (c := 127) h2I h9E rfl rfl]; exact tAa.2.1, by omega, by omega, by omega, by omega⟩
    have tTf : pt_TK K V P wr h9 := pt_TK.E h2I h9E tTa rfl (by omega)
    have hC3 := pt_CD.E h2I h9E hC2 rfl (by omega)
    have hM3 := hM2
    rw [show pw_g h2 125 7 + 1 = pw_g h9 125 7 by omega] at hM3
    refine pw_if E (pc' := 30) rfl (by decide) (by omega) (by omega) ?_ ?_
    · intro hc13
      change x11 ≠ (0 : Int) at hc13
      refine pw_ld E (pc' := 31) (st' := [.ref 141]) rfl (fun _ => rfl) ?_
      refine pw_ld E (pc' := 32) (st' := [pw_i dp, .ref 141]) rfl (fun _ => rfl) ?_
      obtain ⟨f14l, f14h, -⟩ := pw_obj (c := 125) h9I rfl
      refine pw_call (m' := 250) (As := [.ref 141, pw_i dp]) (rest := []) (ls'' := [some (.ref 141), some (pw_i dp), none]) (by omega) E rfl (fun _ => pw_iV rfl rfl rfl rfl (pw_cellI f14h rfl)) (rfl : pm_ent 250 = some (2, 3, 12, 4, pmc_250)) rfl rfl (pw_and (pt_S250 (dp := dp) (by omega) (by omega) (by omega) h9I tAf (by omega)) (hR n K V P wr (3 :: S) (o) b (c2) (by omega) h9I tAf (by omega) tTf hp3 (by omega) (by omega) hC3 (pt_n81 (by decide)) (by rw [pt_tr1, pt_rk3]; decide))) ?_
      rintro h15 v16 ⟨⟨h15I, h15E, ⟨tAb, tRb⟩, rfl⟩, ⟨-, -, ⟨tTb, tMb⟩, -⟩⟩
      refine ⟨_, rfl, ?_⟩
      have h15F := h9F.tr (h15E.wk (W' := [125, 146, 147]) (by first | rfl | simp))
      show pw X d h15 249 35 [some (.ref 141), some (pw_i dp), some (pw_i x7)] [] _
      have tBb := tAb.2.2
      have tCb := tRb.1.2.2.2.1
      have tDb := tRb.1.2.1
      refine pw_ld E (pc' := 36) (st' := [.ref 141]) rfl (fun _ => rfl) ?_
      refine pw_ld E (pc' := 37) (st' := [pw_i x7, .ref 141]) rfl (fun _ => rfl) ?_
      refine pw_if E (pc' := 45) rfl (by decide) (by omega) (by omega) ?_ ?_
      · intro hc17
        change x7 = (0 : Int) at hc17
        exfalso; omega
      · intro hc18
        change ¬ (x7 = (0 : Int)) at hc18
        refine pw_bip E (pc' := 42) rfl rfl (by decide) ?_
        refine pw_goto E (pc' := 47) rfl (by decide) ?_
        refine pw_ld E (pc' := 48) (st' := [pw_i 0, pw_i 7, .ref 141]) rfl (fun _ => rfl) ?_
        obtain ⟨f19l, f19h, -⟩ := pw_obj (c := 125) h15I rfl
        refine pw_call (m' := 255) (As := [.ref 141, pw_i 7, pw_i 0]) (rest := []) (ls'' := [some (.ref 141), some (pw_i 7), some (pw_i 0)]) (by omega) E rfl (fun _ => pw_iV rfl rfl rfl rfl (pw_cellI f19h rfl)) (rfl : pm_ent 255 = some (3, 3, 12, 4, pmc_255)) rfl rfl (cm_255_t (by omega) h15I (7) (by omega) (by omega) (0) (by omega) (by omega) (by omega)) ?_
        rintro h20 v21 ⟨h20I, h20E, hqem, rfl⟩
        refine ⟨_, rfl, ?_⟩
        have h20F := h15F.tr (h20E.wk (W' := [125, 146, 147]) (by first | rfl | simp))
        show pw X d h20 249 51 [some (.ref 141), some (pw_i dp), some (pw_i x7)] [] _
        have tEc := hqem.1
        have tE7 := tEc.1
        have tE8 := tEc.2.1
        have tE32 := tEc.2.2.1
        have tE45 := hqem.2
        have tAec : pw_A n h20 := ⟨hn1, by rw [pw_Eg (c := 127) h15I h20E rfl rfl]; exact tAb.2.1, by omega, by omega, by omega, by omega⟩
        have tTec : pt_TK K V P wr h20 := pt_TK.E h15I h20E tTb rfl (by omega)
        have hPc := pt_PI.t2 hM3 tMb tEc (Or.inr (Or.inr (Or.inr (Or.inr (Or.inr (Or.inr (Or.inl ⟨rfl, rfl⟩))))))) pt_rk3 hp8
        refine pw_vret E rfl ?_
        exact ⟨h20I, h20F, ⟨tTec, hPc⟩, rfl⟩
    · intro hc22
      change ¬ (x11 ≠ (0 : Int)) at hc22
      exfalso; omega
  · skip
    have o1 := pt_sgI tTa (ch := 60) (by decide) (by decide)
    rw [← hx11r.1] at o1
    have tAd : pw_A n h9 := ⟨hn1, by rw [pw_Eg (c := 127) h2I h9E rfl rfl]; exact tAa.2.1, by omega, by omega, by omega, by omega⟩
    have tTd : pt_TK K V P wr h9 := pt_TK.E h2I h9E tTa rfl (by omega)
    have hPd := pt_PI.E h2I h9E tMa rfl (by omega) (by omega) (by omega)
    have no60 := (o1.resolve_left (fun q => by have := q.1; omega)).2
    refine pw_if E (pc' := 30) rfl (by decide) (by omega) (by omega) ?_ ?_
    · intro hc24
      change x11 ≠ (0 : Int) at hc24
      exfalso; omega
    · intro hc25
      change ¬ (x11 ≠ (0 : Int)) at hc25
      refine pw_ld E (pc' := 22) (st' := [.ref 141]) rfl (fun _ => rfl) ?_
      refine pw_bip E (pc' := 24) rfl rfl (by decide) ?_
      obtain ⟨f26l, f26h, -⟩ := pw_obj (c := 125) h9I rfl
      refine pw_call (m' := 256) (As := [.ref 141, pw_i 61]) (rest := []) (ls'' := [some (.ref 141), some (pw_i 61), none]) (by omega) E rfl (fun _ => pw_iV rfl rfl rfl rfl (pw_cellI f26h rfl)) (rfl : pm_ent 256 = some (2, 3, 12, 1, pmc_256)) rfl rfl (cm_256_t (by omega) h9I (61) (by omega) (by omega) (by omega)) ?_
      rintro h27 v28 ⟨h27I, h27E, x29, rfl, hx29a, hx29b, hx29r⟩
      refine ⟨_, rfl, ?_⟩
      have h27F := h9F.tr (h27E.wk (W' := [125, 146, 147]) (by first | rfl | simp))
      show pw X d h27 249 27 [some (.ref 141), some (pw_i dp), some (pw_i x7)] [pw_i x29] _
      change x29 = pw_sg h9 61 ∧ pw_g h27 125 7 = pw_g h9 125 7 + x29 ∧ pw_g h27 125 8 = pw_g h9 125 8 ∧ pw_g h27 125 32 = pw_g h9 125 32 ∧ pw_g h27 125 45 = pw_g h9 125 45 at hx29r
      rcases (by omega : x29 = 1 ∨ x29 = 0) with hb30 | hb30
      · skip
        have o1 := pt_sgI tTd (ch := 61) (by decide) (by decide)
        rw [← hx29r.1] at o1
        obtain ⟨-, z8, zk, zv⟩ := o1.resolve_right (fun q => by have := q.1; omega)
        have hlt := pw_A.lt tAd (by rw [tTd.1, zk]; decide)
        obtain ⟨c2, hC2, hM2⟩ := pt_PI.op (y := 4) hPd z8 (by rw [zk, zv]; rfl) (by decide) (by decide) (by rw [pt_rk4]; exact hp8) (by decide)
        have tAf : pw_A n h27 := ⟨hn1, by rw [pw_Eg (c := 127) h9I h27E rfl rfl]; exact tAd.2.1, by omega, by omega, by omega, by omega⟩
        have tTf : pt_TK K V P wr h27 := pt_TK.E h9I h27E tTd rfl (by omega)
        have hC3 := pt_CD.E h9I h27E hC2 rfl (by omega)
        have hM3 := hM2
        rw [show pw_g h9 125 7 + 1 = pw_g h27 125 7 by omega] at hM3
        refine pw_if E (pc' := 51) rfl (by decide) (by omega) (by omega) ?_ ?_
        · intro hc31
          change x29 = (0 : Int) at hc31
          exfalso; omega
        · intro hc32
          change ¬ (x29 = (0 : Int)) at hc32
          refine pw_ld E (pc' := 31) (st' := [.ref 141]) rfl (fun _ => rfl) ?_
          refine pw_ld E (pc' := 32) (st' := [pw_i dp, .ref 141]) rfl (fun _ => rfl) ?_
          obtain ⟨f33l, f33h, -⟩ := pw_obj (c := 125) h27I rfl
          refine pw_call (m' := 250) (As := [.ref 141, pw_i dp]) (rest := []) (ls'' := [some (.ref 141), some (pw_i dp), none]) (by omega) E rfl (fun _ => pw_iV rfl rfl rfl rfl (pw_cellI f33h rfl)) (rfl : pm_ent 250 = some (2, 3, 12, 4, pmc_250)) rfl rfl (pw_and (pt_S250 (dp := dp) (by omega) (by omega) (by omega) h27I tAf (by omega)) (hR n K V P wr (4 :: S) (o) b (c2) (by omega) h27I tAf (by omega) tTf hp3 (by omega) (by omega) hC3 (pt_n81 (by decide)) (by rw [pt_tr1, pt_rk4]; decide))) ?_
          rintro h34 v35 ⟨⟨h34I, h34E, ⟨tAb, tRb⟩, rfl⟩, ⟨-, -, ⟨tTb, tMb⟩, -⟩⟩
          refine ⟨_, rfl, ?_⟩
          have h34F := h27F.tr (h34E.wk (W' := [125, 146, 147]) (by first | rfl | simp))
          show pw X d h34 249 35 [some (.ref 141), some (pw_i dp), some (pw_i x7)] [] _
          have tBb := tAb.2.2
          have tCb := tRb.1.2.2.2.1
          have tDb := tRb.1.2.1
          refine pw_ld E (pc' := 36) (st' := [.ref 141]) rfl (fun _ => rfl) ?_
          refine pw_ld E (pc' := 37) (st' := [pw_i x7, .ref 141]) rfl (fun _ => rfl) ?_
          refine pw_if E (pc' := 45) rfl (by decide) (by omega) (by omega) ?_ ?_
          · intro hc36
            change x7 = (0 : Int) at hc36
            refine pw_bip E (pc' := 47) rfl rfl (by decide) ?_
            refine pw_ld E (pc' := 48) (st' := [pw_i 0, pw_i 8, .ref 141]) rfl (fun _ => rfl) ?_
            obtain ⟨f37l, f37h, -⟩ := pw_obj (c := 125) h34I rfl
            refine pw_call (m' := 255) (As := [.ref 141, pw_i 8, pw_i 0]) (rest := []) (ls'' := [some (.ref 141), some (pw_i 8), some (pw_i 0)]) (by omega) E rfl (fun _ => pw_iV rfl rfl rfl rfl (pw_cellI f37h rfl)) (rfl : pm_ent 255 = some (3, 3, 12, 4, pmc_255)) rfl rfl (cm_255_t (by omega) h34I (8) (by omega) (by omega) (0) (by omega) (by omega) (by omega)) ?_
            rintro h38 v39 ⟨h38I, h38E, hqem, rfl⟩
            refine ⟨_, rfl, ?_⟩
            have h38F := h34F.tr (h38E.wk (W' := [125, 146, 147]) (by first | rfl | simp))
            show pw X d h38 249 51 [some (.ref 141), some (pw_i dp), some (pw_i x7)] [] _
            have tEc := hqem.1
            have tE7 := tEc.1
            have tE8 := tEc.2.1
            have tE32 := tEc.2.2.1
            have tE45 := hqem.2
            have tAec : pw_A n h38 := ⟨hn1, by rw [pw_Eg (c := 127) h34I h38E rfl rfl]; exact tAb.2.1, by omega, by omega, by omega, by omega⟩
            have tTec : pt_TK K V P wr h38 := pt_TK.E h34I h38E tTb rfl (by omega)
            have hPc := pt_PI.t2 hM3 tMb tEc (Or.inr (Or.inr (Or.inr (Or.inr (Or.inr (Or.inr (Or.inr (Or.inl ⟨rfl, rfl⟩)))))))) pt_rk4 hp8
            refine pw_vret E rfl ?_
            exact ⟨h38I, h38F, ⟨tTec, hPc⟩, rfl⟩
          · intro hc40
            change ¬ (x7 = (0 : Int)) at hc40
            exfalso; omega
      · skip
        have o1 := pt_sgI tTd (ch := 61) (by decide) (by decide)
        rw [← hx29r.1] at o1
        have tAg : pw_A n h27 := ⟨hn1, by rw [pw_Eg (c := 127) h9I h27E rfl rfl]; exact tAd.2.1, by omega, by omega, by omega, by omega⟩
        have tTg : pt_TK K V P wr h27 := pt_TK.E h9I h27E tTd rfl (by omega)
        have hPg := pt_PI.E h9I h27E hPd rfl (by omega) (by omega) (by omega)
        have no61 := (o1.resolve_left (fun q => by have := q.1; omega)).2
        refine pw_if E (pc' := 51) rfl (by decide) (by omega) (by omega) ?_ ?_
        · intro hc42
          change x29 = (0 : Int) at hc42
          refine pw_vret E rfl ?_
          have e7 : pw_g h27 125 7 = pw_g h2 125 7 := by omega
          have e71 : pw_g h9 125 7 = pw_g h2 125 7 := by omega
          rw [e71] at no61
          exact ⟨h27I, h27F, ⟨tTg, pt_PI.nx (hPg.dn (by decide) hp8) rfl (fun z => by rw [e7]; exact pt_op2 (fun q => no60 ⟨by omega, q.1, q.2⟩) (fun q => no61 ⟨by omega, q.1, q.2⟩))⟩, rfl⟩
        · intro hc43
          change ¬ (x29 = (0 : Int)) at hc43
          exfalso; omega
set_option maxHeartbeats 4000000 in
theorem cm_248_t {X : List (Nat × List Value)} (dp : Int) (hdp1 : 0 ≤ dp) (hdp2 : dp ≤ 5) (hR : pt_C249 X dp) {d : Nat} {h : pm_H} (hd : (32 - 5 * dp : Int) ≤ d) (I : pw_I h) (n : Nat) (K V P : Nat → Int) (wr : Int) (S : List Int) (o b : Int) (c : List Int) (hp0 : pw_A n h) (hp1 : pw_g h 125 32 ≤ pw_g h 125 7) (hp2 : pt_TK K V P wr h) (hp3 : ∀ j : Nat, j < n → K j = 2 → 0 ≤ V j ∧ V j ≤ 9999) (hp4 : pw_g h 125 8 = 0) (hp5 : 0 ≤ o) (hp6 : pt_CD h b c) (hp7 : pt_n8 S) (hp8 : pt_tr S < 1) : pw X d h 248 0 [some (.ref 141), some (pw_i dp), none] [] (fun h' v => pw_I h' ∧ pw_E [125, 146, 147] h h' ∧ (pt_TK K V P wr h' ∧ pt_PI 1 1 (pt_FF wr) K V P S dp o b c h h') ∧ (v = .inl none)) := by
  have E : pm_ent 248 = some (2, 3, 12, 4, pmc_248) := rfl
  have E0 : pw_E [125, 146, 147] h h := pw_E.rf _ _
  have hn1 : n ≤ 1000 := hp0.1
  have hA0 := hp0.2.2
  refine pw_ld E (pc' := 1) (st' := [.ref 141]) rfl (fun _ => rfl) ?_
  refine pw_ld E (pc' := 2) (st' := [pw_i dp, .ref 141]) rfl (fun _ => rfl) ?_
  obtain ⟨f1l, f1h, -⟩ := pw_obj (c := 125) I rfl
  refine pw_call (m' := 249) (As := [.ref 141, pw_i dp]) (rest := []) (ls'' := [some (.ref 141), some (pw_i dp), none]) (by omega) E rfl (fun _ => pw_iV rfl rfl rfl rfl (pw_cellI f1h rfl)) (rfl : pm_ent 249 = some (2, 3, 12, 4, pmc_249)) rfl rfl (pw_and (pt_S249 (dp := dp) (by omega) (by omega) (by omega) I hp0 (by omega)) (hR n K V P wr (S) (o) b (c) (by omega) I hp0 (by omega) hp2 hp3 (by omega) (by omega) hp6 hp7 (by omega))) ?_
  rintro h2 v3 ⟨⟨h2I, h2E, ⟨tAa, tRa⟩, rfl⟩, ⟨-, -, ⟨tTa, tMa⟩, -⟩⟩
  refine ⟨_, rfl, ?_⟩
  have h2F := E0.tr (h2E.wk (W' := [125, 146, 147]) (by first | rfl | simp))
  show pw X d h2 248 5 [some (.ref 141), some (pw_i dp), none] [] _
  have tBa := tAa.2.2
  have tCa := tRa.1.2.2.2.1
  have tDa := tRa.1.2.1
  have hPa := tMa.dn (by decide) hp8
  have L5 : ∀ (n5 : Nat) (k5_2 : Option Value) (gh5 : pm_H), pw_I gh5 → pw_E [125, 146, 147] h gh5 → pw_A n gh5 → pw_g gh5 125 32 ≤ pw_g gh5 125 7 → pt_TK K V P wr gh5 → pt_PI 1 2 (pt_FF wr) K V P S dp o b c h gh5 → ((n : Int) - pw_g gh5 125 7).toNat = n5 → pw X d gh5 248 5 [some (.ref 141), some (pw_i dp), k5_2] [] (fun h' v => pw_I h' ∧ pw_E [125, 146, 147] h h' ∧ (pt_TK K V P wr h' ∧ pt_PI 1 1 (pt_FF wr) K V P S dp o b c h h') ∧ (v = .inl none)) := by
    intro n5
    induction n5 using Nat.strongRecOn with
    | ind n5 ih5 =>
      intro k5_2 gh5 I5 E5 hx5_0 hx5_1 hx5_2 hx5_3 hm5
      refine pw_ld E (pc' := 6) (st' := [.ref 141]) rfl (fun _ => rfl) ?_
      have hA5 := hx5_0.2.2
      refine pw_ld E (pc' := 7) (st' := [pw_i 5, .ref 141]) rfl (fun _ => rfl) ?_
      obtain ⟨f4l, f4h, -⟩ := pw_obj (c := 125) I5 rfl
      refine pw_call (m' := 244) (As := [.ref 141, pw_i 5]) (rest := []) (ls'' := [some (.ref 141), some (pw_i 5)]) (by omega) E rfl (fun _ => pw_iV rfl rfl rfl rfl (pw_cellI f4h rfl)) (rfl : pm_ent 244 = some (2, 2, 12, 1, pmc_244)) rfl rfl (cm_244 (by omega) I5 (5) (by omega) (by omega)) ?_
      rintro u6 v5 ⟨rfl, x7, rfl, hx7a, hx7b, hx7r⟩
      refine ⟨_, rfl, ?_⟩
      show pw X d gh5 248 10 [some (.ref 141), some (pw_i dp), k5_2] [pw_i x7] _
      change x7 = pw_wd gh5 5 ∧ (x7 = 1 → pw_g gh5 125 8 = 0 ∧ pw_g gh5 127 (pw_g gh5 125 7).toNat = 1) at hx7r
      rcases (by omega : x7 = 1 ∨ x7 = 0) with hb8 | hb8
      · skip
        refine pw_if E (pc' := 22) rfl (by decide) (by omega) (by omega) ?_ ?_
        · intro hc9
          change x7 ≠ (0 : Int) at hc9
          refine pw_ld E (pc' := 23) (st' := [.ref 141]) rfl (fun _ => rfl) ?_
          refine pw_ld E (pc' := 24) (st' := [pw_i 5, .ref 141]) rfl (fun _ => rfl) ?_
          obtain ⟨f10l, f10h, -⟩ := pw_obj (c := 125) I5 rfl
          refine pw_call (m' := 244) (As := [.ref 141, pw_i 5]) (rest := []) (ls'' := [some (.ref 141), some (pw_i 5)]) (by omega) E rfl (fun _ => pw_iV rfl rfl rfl rfl (pw_cellI f10h rfl)) (rfl : pm_ent 244 = some (2, 2, 12, 1, pmc_244)) rfl rfl (cm_244 (by omega) I5 (5) (by omega) (by omega)) ?_
          rintro u12 v11 ⟨rfl, x13, rfl, hx13a, hx13b, hx13r⟩
          refine ⟨_, rfl, ?_⟩
          show pw X d gh5 248 27 [some (.ref 141), some (pw_i dp), k5_2] [pw_i x13] _
          change x13 = pw_wd gh5 5 ∧ (x13 = 1 → pw_g gh5 125 8 = 0 ∧ pw_g gh5 127 (pw_g gh5 125 7).toNat = 1) at hx13r
          refine pw_istn E (pc' := 28) (ls' := [some (.ref 141), some (pw_i dp), some (pw_i x13)]) rfl rfl rfl rfl ?_
          have o1 := pt_wdI hx5_2 (w := 5) (by decide) (by decide)
          rw [← hx7r.1] at o1
          obtain ⟨-, z8, zk, zv⟩ := o1.resolve_right (fun q => by have := q.1; omega)
          have hlt := pw_A.lt hx5_0 (by rw [hx5_2.1, zk]; decide)
          obtain ⟨c2, hC2, hM2⟩ := pt_PI.op (y := 1) hx5_3 z8 (by rw [zk, zv]; rfl) (by decide) (by decide) (by rw [pt_rk1]; exact hp8) (by decide)
          refine pw_ld E (pc' := 29) (st' := [.ref 141]) rfl (fun _ => rfl) ?_
          refine pw_ld E (pc' := 30) (st' := [.ref 141, .ref 141]) rfl (fun _ => rfl) ?_
          refine pw_getI2 I5 E (c := 125) (k := 7) (pc' := 33) rfl rfl rfl rfl rfl rfl (fun hf14a hf14b => ?_)
          refine pw_ld E (pc' := 34) (st' := [pw_i 1, pw_i (pw_g gh5 125 7), .ref 141]) rfl (fun _ => rfl) ?_
          refine pw_add E (pc' := 35) rfl rfl ?_
          refine pw_putI I5 E (c := 125) (k := 7) (pc' := 38) rfl rfl rfl rfl (by omega) (by omega) (by omega) (by omega) rfl rfl ?_
          intro h15I h15E
          generalize h15w : pw_w gh5 125 7 (pw_i ((pw_g gh5 125 7) + 1)) = h15 at h15I h15E ⊢
          have h15F := E5.tr (h15E.wk (W' := [125, 146, 147]) (by first | rfl | simp))
          have h157 : pw_g h15 125 7 = pw_g gh5 125 7 + 1 := by rw [← h15w]; exact pw_g_eq (c := 125) (k := 7) I5 rfl rfl (by omega) (by omega)
          have h158 : pw_g h15 125 8 = pw_g gh5 125 8 := by rw [← h15w]; exact pw_g_ne (by omega)
          have h1532 : pw_g h15 125 32 = pw_g gh5 125 32 := by rw [← h15w]; exact pw_g_ne (by omega)
          have h1545 : pw_g h15 125 45 = pw_g gh5 125 45 := by rw [← h15w]; exact pw_g_ne (by omega)
          have tAw : pw_A n h15 := ⟨hn1, by rw [pw_Eg (c := 127) I5 h15E rfl rfl]; exact hx5_0.2.1, by omega, by omega, by omega, by omega⟩
          have tTw : pt_TK K V P wr h15 := pt_TK.E I5 h15E hx5_2 rfl (by omega)
          have hC3 := pt_CD.E I5 h15E hC2 rfl (by omega)
          have hM3 := hM2
          rw [show pw_g gh5 125 7 + 1 = pw_g h15 125 7 by omega] at hM3
          refine pw_ld E (pc' := 39) (st' := [.ref 141]) rfl (fun _ => rfl) ?_
          refine pw_ld E (pc' := 40) (st' := [pw_i dp, .ref 141]) rfl (fun _ => rfl) ?_
          obtain ⟨f16l, f16h, -⟩ := pw_obj (c := 125) h15I rfl
          refine pw_call (m' := 249) (As := [.ref 141, pw_i dp]) (rest := []) (ls'' := [some (.ref 141), some (pw_i dp), none]) (by omega) E rfl (fun _ => pw_iV rfl rfl rfl rfl (pw_cellI f16h rfl)) (rfl : pm_ent 249 = some (2, 3, 12, 4, pmc_249)) rfl rfl (pw_and (pt_S249 (dp := dp) (by omega) (by omega) (by omega) h15I tAw (by omega)) (hR n K V P wr (1 :: S) (o) b (c2) (by omega) h15I tAw (by omega) tTw hp3 (by omega) (by omega) hC3 (pt_n81 (by decide)) (by rw [pt_tr1, pt_rk1]; decide))) ?_
          rintro h17 v18 ⟨⟨h17I, h17E, ⟨tAb, tRb⟩, rfl⟩, ⟨-, -, ⟨tTb, tMb⟩, -⟩⟩
          refine ⟨_, rfl, ?_⟩
          have h17F := h15F.tr (h17E.wk (W' := [125, 146, 147]) (by first | rfl | simp))
          show pw X d h17 248 43 [some (.ref 141), some (pw_i dp), some (pw_i x13)] [] _
          have tBb := tAb.2.2
          have tCb := tRb.1.2.2.2.1
          have tDb := tRb.1.2.1
          refine pw_ld E (pc' := 44) (st' := [.ref 141]) rfl (fun _ => rfl) ?_
          refine pw_ld E (pc' := 45) (st' := [pw_i x13, .ref 141]) rfl (fun _ => rfl) ?_
          refine pw_if E (pc' := 53) rfl (by decide) (by omega) (by omega) ?_ ?_
          · intro hc19
            change x13 = (0 : Int) at hc19
            exfalso; omega
          · intro hc20
            change ¬ (x13 = (0 : Int)) at hc20
            refine pw_bip E (pc' := 50) rfl rfl (by decide) ?_
            refine pw_goto E (pc' := 55) rfl (by decide) ?_
            refine pw_ld E (pc' := 56) (st' := [pw_i 0, pw_i 9, .ref 141]) rfl (fun _ => rfl) ?_
            obtain ⟨f21l, f21h, -⟩ := pw_obj (c := 125) h17I rfl
            refine pw_call (m' := 255) (As := [.ref 141, pw_i 9, pw_i 0]) (rest := []) (ls'' := [some (.ref 141), some (pw_i 9), some (pw_i 0)]) (by omega) E rfl (fun _ => pw_iV rfl rfl rfl rfl (pw_cellI f21h rfl)) (rfl : pm_ent 255 = some (3, 3, 12, 4, pmc_255)) rfl rfl (cm_255_t (by omega) h17I (9) (by omega) (by omega) (0) (by omega) (by omega) (by omega)) ?_
            rintro h22 v23 ⟨h22I, h22E, hqem, rfl⟩
            refine ⟨_, rfl, ?_⟩
            have h22F := h17F.tr (h22E.wk (W' := [125, 146, 147]) (by first | rfl | simp))
            show pw X d h22 248 59 [some (.ref 141), some (pw_i dp), some (pw_i x13)] [] _
            have tEc := hqem.1
            have tE7 := tEc.1
            have tE8 := tEc.2.1
            have tE32 := tEc.2.2.1
            have tE45 := hqem.2
            have tAec : pw_A n h22 := ⟨hn1, by rw [pw_Eg (c := 127) h17I h22E rfl rfl]; exact tAb.2.1, by omega, by omega, by omega, by omega⟩
            have tTec : pt_TK K V P wr h22 := pt_TK.E h17I h22E tTb rfl (by omega)
            have hPc := pt_PI.cl hM3 tMb tEc (Or.inr (Or.inr (Or.inr (Or.inr (Or.inr (Or.inr (Or.inr (Or.inr (Or.inl ⟨rfl, rfl⟩))))))))) (by decide) (by rw [pt_rk1]; exact hp8)
            rw [pt_rk1] at hPc
            refine pw_goto E (pc' := 5) rfl (by decide) ?_
            exact ih5 _ (by omega) (some (pw_i x13)) h22 h22I h22F  tAec (by omega) tTec hPc rfl
        · intro hc24
          change ¬ (x7 ≠ (0 : Int)) at hc24
          exfalso; omega
      · skip
        refine pw_if E (pc' := 22) rfl (by decide) (by omega) (by omega) ?_ ?_
        · intro hc26
          change x7 ≠ (0 : Int) at hc26
          exfalso; omega
        · intro hc27
          change ¬ (x7 ≠ (0 : Int)) at hc27
          refine pw_ld E (pc' := 14) (st' := [.ref 141]) rfl (fun _ => rfl) ?_
          refine pw_bip E (pc' := 16) rfl rfl (by decide) ?_
          obtain ⟨f28l, f28h, -⟩ := pw_obj (c := 125) I5 rfl
          refine pw_call (m' := 244) (As := [.ref 141, pw_i 6]) (rest := []) (ls'' := [some (.ref 141), some (pw_i 6)]) (by omega) E rfl (fun _ => pw_iV rfl rfl rfl rfl (pw_cellI f28h rfl)) (rfl : pm_ent 244 = some (2, 2, 12, 1, pmc_244)) rfl rfl (cm_244 (by omega) I5 (6) (by omega) (by omega)) ?_
          rintro u30 v29 ⟨rfl, x31, rfl, hx31a, hx31b, hx31r⟩
          refine ⟨_, rfl, ?_⟩
          show pw X d gh5 248 19 [some (.ref 141), some (pw_i dp), k5_2] [pw_i x31] _
          change x31 = pw_wd gh5 6 ∧ (x31 = 1 → pw_g gh5 125 8 = 0 ∧ pw_g gh5 127 (pw_g gh5 125 7).toNat = 1) at hx31r
          rcases (by omega : x31 = 1 ∨ x31 = 0) with hb32 | hb32
          · skip
            refine pw_if E (pc' := 62) rfl (by decide) (by omega) (by omega) ?_ ?_
            · intro hc33
              change x31 = (0 : Int) at hc33
              exfalso; omega
            · intro hc34
              change ¬ (x31 = (0 : Int)) at hc34
              refine pw_ld E (pc' := 23) (st' := [.ref 141]) rfl (fun _ => rfl) ?_
              refine pw_ld E (pc' := 24) (st' := [pw_i 5, .ref 141]) rfl (fun _ => rfl) ?_
              obtain ⟨f35l, f35h, -⟩ := pw_obj (c := 125) I5 rfl
              refine pw_call (m' := 244) (As := [.ref 141, pw_i 5]) (rest := []) (ls'' := [some (.ref 141), some (pw_i 5)]) (by omega) E rfl (fun _ => pw_iV rfl rfl rfl rfl (pw_cellI f35h rfl)) (rfl : pm_ent 244 = some (2, 2, 12, 1, pmc_244)) rfl rfl (cm_244 (by omega) I5 (5) (by omega) (by omega)) ?_
              rintro u37 v36 ⟨rfl, x38, rfl, hx38a, hx38b, hx38r⟩
              refine ⟨_, rfl, ?_⟩
              show pw X d gh5 248 27 [some (.ref 141), some (pw_i dp), k5_2] [pw_i x38] _
              change x38 = pw_wd gh5 5 ∧ (x38 = 1 → pw_g gh5 125 8 = 0 ∧ pw_g gh5 127 (pw_g gh5 125 7).toNat = 1) at hx38r
              refine pw_istn E (pc' := 28) (ls' := [some (.ref 141), some (pw_i dp), some (pw_i x38)]) rfl rfl rfl rfl ?_
              have o1 := pt_wdI hx5_2 (w := 6) (by decide) (by decide)
              rw [← hx31r.1] at o1
              obtain ⟨-, z8, zk, zv⟩ := o1.resolve_right (fun q => by have := q.1; omega)
              have hlt := pw_A.lt hx5_0 (by rw [hx5_2.1, zk]; decide)
              obtain ⟨c2, hC2, hM2⟩ := pt_PI.op (y := 2) hx5_3 z8 (by rw [zk, zv]; rfl) (by decide) (by decide) (by rw [pt_rk2]; exact hp8) (by decide)
              refine pw_ld E (pc' := 29) (st' := [.ref 141]) rfl (fun _ => rfl) ?_
              refine pw_ld E (pc' := 30) (st' := [.ref 141, .ref 141]) rfl (fun _ => rfl) ?_
              refine pw_getI2 I5 E (c := 125) (k := 7) (pc' := 33) rfl rfl rfl rfl rfl rfl (fun hf39a hf39b => ?_)
              refine pw_ld E (pc' := 34) (st' := [pw_i 1, pw_i (pw_g gh5 125 7), .ref 141]) rfl (fun _ => rfl) ?_
              refine pw_add E (pc' := 35) rfl rfl ?_
              refine pw_putI I5 E (c := 125) (k := 7) (pc' := 38) rfl rfl rfl rfl (by omega) (by omega) (by omega) (by omega) rfl rfl ?_
              intro h40I h40E
              generalize h40w : pw_w gh5 125 7 (pw_i ((pw_g gh5 125 7) + 1)) = h40 at h40I h40E ⊢
              have h40F := E5.tr (h40E.wk (W' := [125, 146, 147]) (by first | rfl | simp))
              have h407 : pw_g h40 125 7 = pw_g gh5 125 7 + 1 := by rw [← h40w]; exact pw_g_eq (c := 125) (k := 7) I5 rfl rfl (by omega) (by omega)
              have h408 : pw_g h40 125 8 = pw_g gh5 125 8 := by rw [← h40w]; exact pw_g_ne (by omega)
              have h4032 : pw_g h40 125 32 = pw_g gh5 125 32 := by rw [← h40w]; exact pw_g_ne (by omega)
              have h4045 : pw_g h40 125 45 = pw_g gh5 125 45 := by rw [← h40w]; exact pw_g_ne (by omega)
              have tAw : pw_A n h40 := ⟨hn1, by rw [pw_Eg (c := 127) I5 h40E rfl rfl]; exact hx5_0.2.1, by omega, by omega, by omega, by omega⟩
              have tTw : pt_TK K V P wr h40 := pt_TK.E I5 h40E hx5_2 rfl (by omega)
              have hC3 := pt_CD.E I5 h40E hC2 rfl (by omega)
              have hM3 := hM2
              rw [show pw_g gh5 125 7 + 1 = pw_g h40 125 7 by omega] at hM3
              refine pw_ld E (pc' := 39) (st' := [.ref 141]) rfl (fun _ => rfl) ?_
              refine pw_ld E (pc' := 40) (st' := [pw_i dp, .ref 141]) rfl (fun _ => rfl) ?_
              obtain ⟨f41l, f41h, -⟩ := pw_obj (c := 125) h40I rfl
              refine pw_call (m' := 249) (As := [.ref 141, pw_i dp]) (rest := []) (ls'' := [some (.ref 141), some (pw_i dp), none]) (by omega) E rfl (fun _ => pw_iV rfl rfl rfl rfl (pw_cellI f41h rfl)) (rfl : pm_ent 249 = some (2, 3, 12, 4, pmc_249)) rfl rfl (pw_and (pt_S249 (dp := dp) (by omega) (by omega) (by omega) h40I tAw (by omega)) (hR n K V P wr (2 :: S) (o) b (c2) (by omega) h40I tAw (by omega) tTw hp3 (by omega) (by omega) hC3 (pt_n81 (by decide)) (by rw [pt_tr1, pt_rk2]; decide))) ?_
              rintro h42 v43 ⟨⟨h42I, h42E, ⟨tAb, tRb⟩, rfl⟩, ⟨-, -, ⟨tTb, tMb⟩, -⟩⟩
              refine ⟨_, rfl, ?_⟩
              have h42F := h40F.tr (h42E.wk (W' := [125, 146, 147]) (by first | rfl | simp))
              show pw X d h42 248 43 [some (.ref 141), some (pw_i dp), some (pw_i x38)] [] _
              have tBb := tAb.2.2
              have tCb := tRb.1.2.2.2.1
              have tDb := tRb.1.2.1
              refine pw_ld E (pc' := 44) (st' := [.ref 141]) rfl (fun _ => rfl) ?_
              refine pw_ld E (pc' := 45) (st' := [pw_i x38, .ref 141]) rfl (fun _ => rfl) ?_
              refine pw_if E (pc' := 53) rfl (by decide) (by omega) (by omega) ?_ ?_
              · intro hc44
                change x38 = (0 : Int) at hc44
                refine pw_bip E (pc' := 55) rfl rfl (by decide) ?_
                refine pw_ld E (pc' := 56) (st' := [pw_i 0, pw_i 10, .ref 141]) rfl (fun _ => rfl) ?_
                obtain ⟨f45l, f45h, -⟩ := pw_obj (c := 125) h42I rfl
                refine pw_call (m' := 255) (As := [.ref 141, pw_i 10, pw_i 0]) (rest := []) (ls'' := [some (.ref 141), some (pw_i 10), some (pw_i 0)]) (by omega) E rfl (fun _ => pw_iV rfl rfl rfl rfl (pw_cellI f45h rfl)) (rfl : pm_ent 255 = some (3, 3, 12, 4, pmc_255)) rfl rfl (cm_255_t (by omega) h42I (10) (by omega) (by omega) (0) (by omega) (by omega) (by omega)) ?_
                rintro h46 v47 ⟨h46I, h46E, hqem, rfl⟩
                refine ⟨_, rfl, ?_⟩
                have h46F := h42F.tr (h46E.wk (W' := [125, 146, 147]) (by first | rfl | simp))
                show pw X d h46 248 59 [some (.ref 141), some (pw_i dp), some (pw_i x38)] [] _
                have tEc := hqem.1
                have tE7 := tEc.1
                have tE8 := tEc.2.1
                have tE32 := tEc.2.2.1
                have tE45 := hqem.2
                have tAec : pw_A n h46 := ⟨hn1, by rw [pw_Eg (c := 127) h42I h46E rfl rfl]; exact tAb.2.1, by omega, by omega, by omega, by omega⟩
                have tTec : pt_TK K V P wr h46 := pt_TK.E h42I h46E tTb rfl (by omega)
                have hPc := pt_PI.cl hM3 tMb tEc (Or.inr (Or.inr (Or.inr (Or.inr (Or.inr (Or.inr (Or.inr (Or.inr (Or.inr ⟨rfl, rfl⟩))))))))) (by decide) (by rw [pt_rk2]; exact hp8)
                rw [pt_rk2] at hPc
                refine pw_goto E (pc' := 5) rfl (by decide) ?_
                exact ih5 _ (by omega) (some (pw_i x38)) h46 h46I h46F  tAec (by omega) tTec hPc rfl
              · intro hc48
                change ¬ (x38 = (0 : Int)) at hc48
                exfalso; omega
          · skip
            refine pw_if E (pc' := 62) rfl (by decide) (by omega) (by omega) ?_ ?_
            · intro hc50
              change x31 = (0 : Int) at hc50
              have n0 := pt_wdI hx5_2 (w := 5) (by decide) (by decide)
              rw [← hx7r.1] at n0
              have n0 := (n0.resolve_left (fun q => by have := q.1; omega)).2
              have n1 := pt_wdI hx5_2 (w := 6) (by decide) (by decide)
              rw [← hx31r.1] at n1
              have n1 := (n1.resolve_left (fun q => by have := q.1; omega)).2
              refine pw_vret E rfl ?_
              exact ⟨I5, E5, ⟨hx5_2, pt_PI.nx hx5_3 rfl (fun z => pt_op1 (fun q => n0 ⟨z, q.1, q.2⟩) (fun q => n1 ⟨z, q.1, q.2⟩))⟩, rfl⟩
            · intro hc51
              change ¬ (x31 = (0 : Int)) at hc51
              exfalso; omega
  exact L5 _ (none) h2 h2I h2F  tAa (by omega) tTa hPa rfl
set_option maxHeartbeats 4000000 in
theorem cm_252_t {X : List (Nat × List Value)} (dp : Int) (hdp1 : 0 ≤ dp) (hdp2 : dp ≤ 5) (hR : dp ≤ 4 → pt_C252 X (dp + 1) ∧ pt_C248 X (dp + 1)) {d : Nat} {h : pm_H} (hd : (28 - 5 * dp : Int) ≤ d) (I : pw_I h) (n : Nat) (K V P : Nat → Int) (wr : Int) (S : List Int) (o b : Int) (c : List Int) (hp0 : pw_A n h) (hp1 : pw_g h 125 32 ≤ pw_g h 125 7) (hp2 : pt_TK K V P wr h) (hp3 : ∀ j : Nat, j < n → K j = 2 → 0 ≤ V j ∧ V j ≤ 9999) (hp4 : pw_g h 125 8 = 0) (hp5 : 0 ≤ o) (hp6 : pt_CD h b c) : pw X d h 252 0 [some (.ref 141), some (pw_i dp), none, none] [] (fun h' v => pw_I h' ∧ pw_E [125, 146, 147] h h' ∧ (pt_TK K V P wr h' ∧ pt_PT (pt_FF wr) K V P S dp o b c h h') ∧ (v = .inl none)) := by
  have E : pm_ent 252 = some (2, 4, 12, 4, pmc_252) := rfl
  have E0 : pw_E [125, 146, 147] h h := pw_E.rf _ _
  have hn1 : n ≤ 1000 := hp0.1
  have hA0 := hp0.2.2
  refine pw_ld E (pc' := 1) (st' := [.ref 141]) rfl (fun _ => rfl) ?_
  refine pw_getI2 I E (c := 125) (k := 8) (pc' := 4) rfl rfl rfl rfl rfl rfl (fun hf1a hf1b => ?_)
  refine pw_if E (pc' := 8) rfl (by decide) (by omega) (by omega) ?_ ?_
  · intro hc2
    change pw_g h 125 8 ≤ (0 : Int) at hc2
    refine pw_ld E (pc' := 9) (st' := [.ref 141]) rfl (fun _ => rfl) ?_
    obtain ⟨f3l, f3h, -⟩ := pw_obj (c := 125) I rfl
    refine pw_call (m' := 253) (As := [.ref 141]) (rest := []) (ls'' := [some (.ref 141), none, none]) (by omega) E rfl (fun _ => pw_iV rfl rfl rfl rfl (pw_cellI f3h rfl)) (rfl : pm_ent 253 = some (1, 3, 12, 0, pmc_253)) rfl rfl (cm_253_t (by omega) I K V P wr hp2) ?_
    rintro u5 v4 ⟨rfl, x6, rfl, hx6a, hx6b, hx6r⟩
    refine ⟨_, rfl, ?_⟩
    show pw X d h 252 12 [some (.ref 141), some (pw_i dp), none, none] [pw_i x6] _
    change (pw_g h 125 8 = 0 ∧ K (pw_g h 125 7).toNat = 1 → x6 = pt_FF wr (V (pw_g h 125 7).toNat)) ∧ (¬ (pw_g h 125 8 = 0 ∧ K (pw_g h 125 7).toNat = 1) → x6 = -1) at hx6r
    have oF := hx6r.1
    have oN := hx6r.2
    refine pw_istn E (pc' := 13) (ls' := [some (.ref 141), some (pw_i dp), some (pw_i x6), none]) rfl rfl rfl rfl ?_
    refine pw_ld E (pc' := 14) (st' := [.ref 141]) rfl (fun _ => rfl) ?_
    refine pw_getR (b := 143) I E (c := 125) (k := 4) (pc' := 17) rfl rfl rfl rfl rfl rfl rfl ?_
    refine pw_ld E (pc' := 18) (st' := [.ref 141, .ref 143]) rfl (fun _ => rfl) ?_
    refine pw_getI2 I E (c := 125) (k := 7) (pc' := 21) rfl rfl rfl rfl rfl rfl (fun hf7a hf7b => ?_)
    refine pw_ald2 I E (c := 127) (pc' := 22) rfl rfl rfl (by decide) rfl (by decide) (by omega) (by omega) rfl (fun hf8a hf8b => ?_)
    refine pw_ld E (pc' := 23) (st' := [pw_i 2, pw_i (pw_g h 127 ((pw_g h 125 7).toNat))]) rfl (fun _ => rfl) ?_
    refine pw_if2 E (pc' := 30) rfl (by decide) (by omega) (by omega) (by decide) (by decide) ?_ ?_
    · intro hc9
      change pw_g h 127 ((pw_g h 125 7).toNat) ≠ (2 : Int) at hc9
      refine pw_ld E (pc' := 31) (st' := [pw_i 0]) rfl (fun _ => rfl) ?_
      have hK : pw_g h 127 (pw_g h 125 7).toNat = K (pw_g h 125 7).toNat := by rw [hp2.1]
      refine pw_istn E (pc' := 32) (ls' := [some (.ref 141), some (pw_i dp), some (pw_i x6), some (pw_i 0)]) rfl rfl rfl rfl ?_
      refine pw_ld E (pc' := 33) (st' := [pw_i x6]) rfl (fun _ => rfl) ?_
      refine pw_if E (pc' := 66) rfl (by decide) (by omega) (by omega) ?_ ?_
      · intro hc10
        change (0 : Int) ≤ x6 at hc10
        have hk1 : K (pw_g h 125 7).toNat = 1 := by rcases (by omega : K (pw_g h 125 7).toNat = 1 ∨ K (pw_g h 125 7).toNat ≠ 1) with q | q <;> first | exact q | (have z := oN (fun w => q w.2); omega)
        have hbg : (K (pw_g h 125 7).toNat = 1 ∧ (V (pw_g h 125 7).toNat = 19741 ∨ 0 ≤ pt_FF wr (V (pw_g h 125 7).toNat))) ∨ (K (pw_g h 125 7).toNat = 3 ∧ V (pw_g h 125 7).toNat = 40) ∨ K (pw_g h 125 7).toNat = 2 := Or.inl ⟨hk1, Or.inr (by have z := oF ⟨hp4, hk1⟩; omega)⟩
        refine pw_ld E (pc' := 67) (st' := [pw_i dp]) rfl (fun _ => rfl) ?_
        refine pw_ld E (pc' := 68) (st' := [pw_i 5, pw_i dp]) rfl (fun _ => rfl) ?_
        refine pw_if2 E (pc' := 76) rfl (by decide) (by omega) (by omega) (by decide) (by decide) ?_ ?_
        · intro hc11
          change dp ≠ (5 : Int) at hc11
          refine pw_ld E (pc' := 77) (st' := [.ref 141]) rfl (fun _ => rfl) ?_
          refine pw_getI2 I E (c := 125) (k := 8) (pc' := 80) rfl rfl rfl rfl rfl rfl (fun hf12a hf12b => ?_)
          refine pw_if E (pc' := 84) rfl (by decide) (by omega) (by omega) ?_ ?_
          · intro hc13
            change pw_g h 125 8 ≤ (0 : Int) at hc13
            refine pw_ld E (pc' := 85) (st' := [.ref 141]) rfl (fun _ => rfl) ?_
            refine pw_bip E (pc' := 87) rfl rfl (by decide) ?_
            obtain ⟨f14l, f14h, -⟩ := pw_obj (c := 125) I rfl
            refine pw_call (m' := 247) (As := [.ref 141, pw_i 7]) (rest := []) (ls'' := [some (.ref 141), some (pw_i 7), none]) (by omega) E rfl (fun _ => pw_iV rfl rfl rfl rfl (pw_cellI f14h rfl)) (rfl : pm_ent 247 = some (2, 3, 12, 1, pmc_247)) rfl rfl (cm_247_t (by omega) I (7) (by omega) (by omega) (by omega)) ?_
            rintro h15 v16 ⟨h15I, h15E, x17, rfl, hx17a, hx17b, hx17r⟩
            refine ⟨_, rfl, ?_⟩
            have h15F := E0.tr (h15E.wk (W' := [125, 146, 147]) (by first | rfl | simp))
            show pw X d h15 252 90 [some (.ref 141), some (pw_i dp), some (pw_i x6), some (pw_i 0)] [pw_i x17] _
            change x17 = pw_wd h 7 ∧ pw_g h15 125 7 = pw_g h 125 7 + x17 ∧ pw_g h15 125 8 = pw_g h 125 8 ∧ pw_g h15 125 32 = pw_g h 125 32 ∧ pw_g h15 125 45 = pw_g h 125 45 at hx17r
            rcases (by omega : x17 = 1 ∨ x17 = 0) with hb18 | hb18
            · skip
              have w7 := pt_wdI hp2 (w := 7) (by decide) (by decide)
              rw [← hx17r.1] at w7
              obtain ⟨-, -, zk, zv⟩ := w7.resolve_right (fun q => by have := q.1; omega)
              have hlt := pw_A.lt hp0 (by rw [hp2.1, zk]; decide)
              have tAd : pw_A n h15 := ⟨hn1, by rw [pw_Eg (c := 127) I h15E rfl rfl]; exact hp0.2.1, by omega, by omega, by omega, by omega⟩
              have tTd : pt_TK K V P wr h15 := pt_TK.E I h15E hp2 rfl (by omega)
              have hM1 : pt_MR (pt_FF wr) K V (pw_g h 125 7) (pw_g h15 125 7) (0, S, dp, o, c) (0, 8 :: S, dp + 1, o, c) := by rw [show pw_g h15 125 7 = pw_g h 125 7 + 1 by omega]; exact pt_MR.one (by omega) (pt_eoN zk zv (by omega))
              have hC1 := pt_CD.E I h15E hp6 rfl (by omega)
              refine pw_if E (pc' := 109) rfl (by decide) (by omega) (by omega) ?_ ?_
              · intro hc19
                change x17 = (0 : Int) at hc19
                exfalso; omega
              · intro hc20
                change ¬ (x17 = (0 : Int)) at hc20
                refine pw_ld E (pc' := 94) (st' := [.ref 141]) rfl (fun _ => rfl) ?_
                refine pw_ld E (pc' := 95) (st' := [pw_i dp, .ref 141]) rfl (fun _ => rfl) ?_
                refine pw_ld E (pc' := 96) (st' := [pw_i 1, pw_i dp, .ref 141]) rfl (fun _ => rfl) ?_
                refine pw_add E (pc' := 97) rfl rfl ?_
                obtain ⟨f21l, f21h, -⟩ := pw_obj (c := 125) h15I rfl
                refine pw_call (m' := 252) (As := [.ref 141, pw_i (dp + 1)]) (rest := []) (ls'' := [some (.ref 141), some (pw_i (dp + 1)), none, none]) (by omega) E rfl (fun _ => pw_iV rfl rfl rfl rfl (pw_cellI f21h rfl)) (rfl : pm_ent 252 = some (2, 4, 12, 4, pmc_252)) rfl rfl (pw_and (pt_S252 (dp := dp + 1) (by omega) (by omega) (by omega) h15I tAd (by omega)) ((hR (by omega)).1 n K V P wr (8 :: S) (o) b (c) (by omega) h15I tAd (by omega) tTd hp3 (by omega) (by omega) hC1)) ?_
                rintro h22 v23 ⟨⟨h22I, h22E, ⟨tAb, tRb⟩, rfl⟩, ⟨-, -, ⟨tTb, tMb⟩, -⟩⟩
                refine ⟨_, rfl, ?_⟩
                have h22F := h15F.tr (h22E.wk (W' := [125, 146, 147]) (by first | rfl | simp))
                show pw X d h22 252 100 [some (.ref 141), some (pw_i dp), some (pw_i x6), some (pw_i 0)] [] _
                have tBb := tAb.2.2
                have tCb := tRb.1.2.2.2.1
                have tDb := tRb.1.2.1
                refine pw_ld E (pc' := 101) (st' := [.ref 141]) rfl (fun _ => rfl) ?_
                refine pw_ld E (pc' := 102) (st' := [pw_i 3, .ref 141]) rfl (fun _ => rfl) ?_
                refine pw_ld E (pc' := 103) (st' := [pw_i 0, pw_i 3, .ref 141]) rfl (fun _ => rfl) ?_
                obtain ⟨f24l, f24h, -⟩ := pw_obj (c := 125) h22I rfl
                refine pw_call (m' := 255) (As := [.ref 141, pw_i 3, pw_i 0]) (rest := []) (ls'' := [some (.ref 141), some (pw_i 3), some (pw_i 0)]) (by omega) E rfl (fun _ => pw_iV rfl rfl rfl rfl (pw_cellI f24h rfl)) (rfl : pm_ent 255 = some (3, 3, 12, 4, pmc_255)) rfl rfl (cm_255_t (by omega) h22I (3) (by omega) (by omega) (0) (by omega) (by omega) (by omega)) ?_
                rintro h25 v26 ⟨h25I, h25E, hqem, rfl⟩
                refine ⟨_, rfl, ?_⟩
                have h25F := h22F.tr (h25E.wk (W' := [125, 146, 147]) (by first | rfl | simp))
                show pw X d h25 252 106 [some (.ref 141), some (pw_i dp), some (pw_i x6), some (pw_i 0)] [] _
                have tEc := hqem.1
                have tE7 := tEc.1
                have tE8 := tEc.2.1
                have tE32 := tEc.2.2.1
                have tE45 := hqem.2
                have tAec : pw_A n h25 := ⟨hn1, by rw [pw_Eg (c := 127) h22I h25E rfl rfl]; exact tAb.2.1, by omega, by omega, by omega, by omega⟩
                have tTec : pt_TK K V P wr h25 := pt_TK.E h22I h25E tTb rfl (by omega)
                have hPT : pt_PT (pt_FF wr) K V P S dp o b c h h25 := by
                  rcases tMb with ⟨z, f⟩ | ⟨z, c3, k3, m3⟩
                  · exact Or.inl ⟨by omega, by rw [tE8]; exact pt_MF.tr hM1 f⟩
                  · refine Or.inr ⟨by omega, _, pt_CD.em k3 tEc (Or.inr (Or.inr (Or.inl ⟨rfl, rfl⟩))), ?_⟩
                    rw [tE7]
                    rw [pt_fin_8] at m3
                    exact hM1.tr m3
                refine pw_goto E (pc' := 175) rfl (by decide) ?_
                refine pw_vret E rfl ?_
                exact ⟨h25I, h25F, ⟨tTec, hPT⟩, rfl⟩
            · skip
              have w7 := pt_wdI hp2 (w := 7) (by decide) (by decide)
              rw [← hx17r.1] at w7
              have n7 := (w7.resolve_left (fun q => by have := q.1; omega)).2
              have tAd : pw_A n h15 := ⟨hn1, by rw [pw_Eg (c := 127) I h15E rfl rfl]; exact hp0.2.1, by omega, by omega, by omega, by omega⟩
              have tTd : pt_TK K V P wr h15 := pt_TK.E I h15E hp2 rfl (by omega)
              have e7d : pw_g h15 125 7 = pw_g h 125 7 := by omega
              refine pw_if E (pc' := 109) rfl (by decide) (by omega) (by omega) ?_ ?_
              · intro hc28
                change x17 = (0 : Int) at hc28
                refine pw_ld E (pc' := 110) (st' := [.ref 141]) rfl (fun _ => rfl) ?_
                refine pw_bip E (pc' := 112) rfl rfl (by decide) ?_
                obtain ⟨f29l, f29h, -⟩ := pw_obj (c := 125) h15I rfl
                refine pw_call (m' := 256) (As := [.ref 141, pw_i 40]) (rest := []) (ls'' := [some (.ref 141), some (pw_i 40), none]) (by omega) E rfl (fun _ => pw_iV rfl rfl rfl rfl (pw_cellI f29h rfl)) (rfl : pm_ent 256 = some (2, 3, 12, 1, pmc_256)) rfl rfl (cm_256_t (by omega) h15I (40) (by omega) (by omega) (by omega)) ?_
                rintro h30 v31 ⟨h30I, h30E, x32, rfl, hx32a, hx32b, hx32r⟩
                refine ⟨_, rfl, ?_⟩
                have h30F := h15F.tr (h30E.wk (W' := [125, 146, 147]) (by first | rfl | simp))
                show pw X d h30 252 115 [some (.ref 141), some (pw_i dp), some (pw_i x6), some (pw_i 0)] [pw_i x32] _
                change x32 = pw_sg h15 40 ∧ pw_g h30 125 7 = pw_g h15 125 7 + x32 ∧ pw_g h30 125 8 = pw_g h15 125 8 ∧ pw_g h30 125 32 = pw_g h15 125 32 ∧ pw_g h30 125 45 = pw_g h15 125 45 at hx32r
                rcases (by omega : x32 = 1 ∨ x32 = 0) with hb33 | hb33
                · skip
                  have w40 := pt_sgI tTd (ch := 40) (by decide) (by decide)
                  rw [← hx32r.1, e7d] at w40
                  obtain ⟨-, -, zk, zv⟩ := w40.resolve_right (fun q => by have := q.1; omega)
                  have hlt := pw_A.lt hp0 (by rw [hp2.1, zk]; decide)
                  have tAf : pw_A n h30 := ⟨hn1, by rw [pw_Eg (c := 127) h15I h30E rfl rfl]; exact tAd.2.1, by omega, by omega, by omega, by omega⟩
                  have tTf : pt_TK K V P wr h30 := pt_TK.E h15I h30E tTd rfl (by omega)
                  have hM1 : pt_MR (pt_FF wr) K V (pw_g h 125 7) (pw_g h30 125 7) (0, S, dp, o, c) (0, 9 :: S, dp + 1, o + 1, c) := by rw [show pw_g h30 125 7 = pw_g h 125 7 + 1 by omega]; exact pt_MR.one (by omega) (pt_eoB zk zv (by omega))
                  have hC0 := pt_CD.E I h15E hp6 rfl (by omega)
                  have hC1 := pt_CD.E h15I h30E hC0 rfl (by omega)
                  refine pw_if E (pc' := 134) rfl (by decide) (by omega) (by omega) ?_ ?_
                  · intro hc34
                    change x32 = (0 : Int) at hc34
                    exfalso; omega
                  · intro hc35
                    change ¬ (x32 = (0 : Int)) at hc35
                    refine pw_ld E (pc' := 119) (st' := [.ref 141]) rfl (fun _ => rfl) ?_
                    refine pw_ld E (pc' := 120) (st' := [pw_i dp, .ref 141]) rfl (fun _ => rfl) ?_
                    refine pw_ld E (pc' := 121) (st' := [pw_i 1, pw_i dp, .ref 141]) rfl (fun _ => rfl) ?_
                    refine pw_add E (pc' := 122) rfl rfl ?_
                    obtain ⟨f36l, f36h, -⟩ := pw_obj (c := 125) h30I rfl
                    refine pw_call (m' := 248) (As := [.ref 141, pw_i (dp + 1)]) (rest := []) (ls'' := [some (.ref 141), some (pw_i (dp + 1)), none]) (by omega) E rfl (fun _ => pw_iV rfl rfl rfl rfl (pw_cellI f36h rfl)) (rfl : pm_ent 248 = some (2, 3, 12, 4, pmc_248)) rfl rfl (pw_and (pt_S248 (dp := dp + 1) (by omega) (by omega) (by omega) h30I tAf (by omega)) ((hR (by omega)).2 n K V P wr (9 :: S) (o + 1) b (c) (by omega) h30I tAf (by omega) tTf hp3 (by omega) (by omega) hC1 (pt_n81 (by decide)) (by rw [pt_tr1, pt_rk9]; decide))) ?_
                    rintro h37 v38 ⟨⟨h37I, h37E, ⟨tAb, tRb⟩, rfl⟩, ⟨-, -, ⟨tTb, tMb⟩, -⟩⟩
                    refine ⟨_, rfl, ?_⟩
                    have h37F := h30F.tr (h37E.wk (W' := [125, 146, 147]) (by first | rfl | simp))
                    show pw X d h37 252 125 [some (.ref 141), some (pw_i dp), some (pw_i x6), some (pw_i 0)] [] _
                    have tBb := tAb.2.2
                    have tCb := tRb.1.2.2.2.1
                    have tDb := tRb.1.2.1
                    refine pw_ld E (pc' := 126) (st' := [.ref 141]) rfl (fun _ => rfl) ?_
                    refine pw_bip E (pc' := 128) rfl rfl (by decide) ?_
                    obtain ⟨f39l, f39h, -⟩ := pw_obj (c := 125) h37I rfl
                    refine pw_call (m' := 257) (As := [.ref 141, pw_i 41]) (rest := []) (ls'' := [some (.ref 141), some (pw_i 41)]) (by omega) E rfl (fun _ => pw_iV rfl rfl rfl rfl (pw_cellI f39h rfl)) (rfl : pm_ent 257 = some (2, 2, 12, 4, pmc_257)) rfl rfl (cm_257_t (by omega) h37I (41) (by omega) (by omega) (by omega)) ?_
                    rintro h40 v41 ⟨h40I, h40E, hqtk, rfl⟩
                    refine ⟨_, rfl, ?_⟩
                    have h40F := h37F.tr (h40E.wk (W' := [125, 146, 147]) (by first | rfl | simp))
                    show pw X d h40 252 131 [some (.ref 141), some (pw_i dp), some (pw_i x6), some (pw_i 0)] [] _
                    have w41 := pt_sgI tTb (ch := 41) (by decide) (by decide)
                    have k8 := tTb.2.2.1
                    have hlt2 : pw_sg h37 41 = 1 → pw_g h37 125 7 < n := fun q => pw_A.lt tAb (by rw [tTb.1, (w41.resolve_right (fun z => by have := z.1; omega)).2.2.1]; decide)
                    have hpk := pw_gA (c := 128) (j := pw_g h37 125 7) h37I rfl (by decide) (by omega) (by omega)
                    have tAk : pw_A n h40 := ⟨hn1, by rw [pw_Eg (c := 127) h37I h40E rfl rfl]; exact tAb.2.1, by omega, by omega, by omega, by omega⟩
                    have tTk : pt_TK K V P wr h40 := pt_TK.E h37I h40E tTb rfl (by omega)
                    have hPT : pt_PT (pt_FF wr) K V P S dp o b c h h40 := by
                      have hplace := pw_gA (c := 128) (j := pw_g h37 125 7) h37I rfl (by decide) (by omega) (by omega)
                      rw [k8] at hplace hqtk
                      rcases tMb with ⟨z, f⟩ | ⟨z, c3, k3, m3⟩
                      · have hn : pw_sg h37 41 ≠ 1 := fun q => z (w41.resolve_right (fun y => by have := y.1; omega)).2.1
                        have e8 := (hqtk.2.1 hn).2.2 z
                        exact Or.inl ⟨by omega, by rw [e8]; exact pt_MF.tr hM1 f⟩
                      · rcases w41 with ⟨y1, -, yk, yv⟩ | ⟨y0, yn⟩
                        · obtain ⟨e7, e8⟩ := hqtk.1 y1
                          refine Or.inr ⟨by omega, c3, k3.E h37I h40E rfl (by omega), ?_⟩
                          rw [e7]
                          exact hM1.tr (pt_GG.close m3 (by omega) yk yv)
                        · obtain ⟨e7, e8, -⟩ := hqtk.2.1 (by omega)
                          have e8 := e8 z
                          exact Or.inl ⟨by omega, pt_MF.tr hM1 (pt_GG.noclose m3 (by omega) (by omega) (fun q => yn ⟨z, q.1, q.2⟩) e8)⟩
                    refine pw_goto E (pc' := 175) rfl (by decide) ?_
                    refine pw_vret E rfl ?_
                    exact ⟨h40I, h40F, ⟨tTk, hPT⟩, rfl⟩
                · skip
                  have w40 := pt_sgI tTd (ch := 40) (by decide) (by decide)
                  rw [← hx32r.1, e7d] at w40
                  have n40 := (w40.resolve_left (fun q => by have := q.1; omega)).2
                  have tAg : pw_A n h30 := ⟨hn1, by rw [pw_Eg (c := 127) h15I h30E rfl rfl]; exact tAd.2.1, by omega, by omega, by omega, by omega⟩
                  have tTg : pt_TK K V P wr h30 := pt_TK.E h15I h30E tTd rfl (by omega)
                  have e7g : pw_g h30 125 7 = pw_g h 125 7 := by omega
                  have hC0 := pt_CD.E I h15E hp6 rfl (by omega)
                  have hC1 := pt_CD.E h15I h30E hC0 rfl (by omega)
                  refine pw_if E (pc' := 134) rfl (by decide) (by omega) (by omega) ?_ ?_
                  · intro hc43
                    change x32 = (0 : Int) at hc43
                    refine pw_ld E (pc' := 135) (st' := [.ref 141]) rfl (fun _ => rfl) ?_
                    refine pw_ld E (pc' := 136) (st' := [pw_i 0, .ref 141]) rfl (fun _ => rfl) ?_
                    refine pw_if E (pc' := 143) rfl (by decide) (by decide) (by decide) ?_ ?_
                    · intro hc44
                      change (0 : Int) = (0 : Int) at hc44
                      refine pw_ld E (pc' := 144) (st' := [pw_i 2, .ref 141]) rfl (fun _ => rfl) ?_
                      refine pw_ld E (pc' := 145) (st' := [pw_i 0, pw_i 2, .ref 141]) rfl (fun _ => rfl) ?_
                      refine pw_if E (pc' := 161) rfl (by decide) (by decide) (by decide) ?_ ?_
                      · intro hc45
                        change (0 : Int) = (0 : Int) at hc45
                        refine pw_ld E (pc' := 162) (st' := [pw_i x6, pw_i 2, .ref 141]) rfl (fun _ => rfl) ?_
                        have hk1 : K (pw_g h 125 7).toNat = 1 := by rcases hbg with q | q | q <;> omega
                        have hlt := pw_A.lt hp0 (by rw [hp2.1, hk1]; decide)
                        have hfa := oF ⟨hp4, hk1⟩
                        have hnn : V (pw_g h 125 7).toNat ≠ 19741 := fun q => n7 ⟨hp4, hk1, q⟩
                        have hf9 : 0 ≤ pt_FF wr (V (pw_g h 125 7).toNat) := by rcases hbg with q | q | q <;> first | exact q.2.resolve_left hnn | omega
                        have hFB := pt_FFB (wr := wr) (V := V (pw_g h 125 7).toNat)
                        have hes := pt_eoF (F := pt_FF wr) (S := S) (d := dp) (o := o) (c := c) hk1 hnn hf9 (by omega)
                        obtain ⟨f46l, f46h, -⟩ := pw_obj (c := 125) h30I rfl
                        refine pw_call (m' := 255) (As := [.ref 141, pw_i 2, pw_i x6]) (rest := []) (ls'' := [some (.ref 141), some (pw_i 2), some (pw_i x6)]) (by omega) E rfl (fun _ => pw_iV rfl rfl rfl rfl (pw_cellI f46h rfl)) (rfl : pm_ent 255 = some (3, 3, 12, 4, pmc_255)) rfl rfl (cm_255_t (by omega) h30I (2) (by omega) (by omega) (x6) (by omega) (by omega) (by omega)) ?_
                        rintro h47 v48 ⟨h47I, h47E, hqem, rfl⟩
                        refine ⟨_, rfl, ?_⟩
                        have h47F := h30F.tr (h47E.wk (W' := [125, 146, 147]) (by first | rfl | simp))
                        show pw X d h47 252 165 [some (.ref 141), some (pw_i dp), some (pw_i x6), some (pw_i 0)] [] _
                        have tEc := hqem.1
                        have tE7 := tEc.1
                        have tE8 := tEc.2.1
                        have tE32 := tEc.2.2.1
                        have tE45 := hqem.2
                        have tAec : pw_A n h47 := ⟨hn1, by rw [pw_Eg (c := 127) h30I h47E rfl rfl]; exact tAg.2.1, by omega, by omega, by omega, by omega⟩
                        have tTec : pt_TK K V P wr h47 := pt_TK.E h30I h47E tTg rfl (by omega)
                        have hCe : pt_CD h47 b ((10000 + pt_FF wr (V (pw_g h 125 7).toNat)) :: c) := pt_CD.em hC1 tEc (Or.inr (Or.inl ⟨rfl, by rw [hfa], by omega, by omega⟩))
                        refine pw_ld E (pc' := 166) (st' := [.ref 141]) rfl (fun _ => rfl) ?_
                        refine pw_ld E (pc' := 167) (st' := [.ref 141, .ref 141]) rfl (fun _ => rfl) ?_
                        refine pw_getI2 h47I E (c := 125) (k := 7) (pc' := 170) rfl rfl rfl rfl rfl rfl (fun hf49a hf49b => ?_)
                        refine pw_ld E (pc' := 171) (st' := [pw_i 1, pw_i (pw_g h47 125 7), .ref 141]) rfl (fun _ => rfl) ?_
                        refine pw_add E (pc' := 172) rfl rfl ?_
                        refine pw_putI h47I E (c := 125) (k := 7) (pc' := 175) rfl rfl rfl rfl (by omega) (by omega) (by omega) (by omega) rfl rfl ?_
                        intro h50I h50E
                        generalize h50w : pw_w h47 125 7 (pw_i ((pw_g h47 125 7) + 1)) = h50 at h50I h50E ⊢
                        have h50F := h47F.tr (h50E.wk (W' := [125, 146, 147]) (by first | rfl | simp))
                        have h507 : pw_g h50 125 7 = pw_g h47 125 7 + 1 := by rw [← h50w]; exact pw_g_eq (c := 125) (k := 7) h47I rfl rfl (by omega) (by omega)
                        have h508 : pw_g h50 125 8 = pw_g h47 125 8 := by rw [← h50w]; exact pw_g_ne (by omega)
                        have h5032 : pw_g h50 125 32 = pw_g h47 125 32 := by rw [← h50w]; exact pw_g_ne (by omega)
                        have h5045 : pw_g h50 125 45 = pw_g h47 125 45 := by rw [← h50w]; exact pw_g_ne (by omega)
                        have tAw : pw_A n h50 := ⟨hn1, by rw [pw_Eg (c := 127) h47I h50E rfl rfl]; exact tAec.2.1, by omega, by omega, by omega, by omega⟩
                        have tTw : pt_TK K V P wr h50 := pt_TK.E h47I h50E tTec rfl (by omega)
                        have hC4 := pt_CD.E h47I h50E hCe rfl (by omega)
                        refine pw_vret E rfl ?_
                        exact ⟨h50I, h50F, ⟨tTw, Or.inr ⟨by omega, _, hC4, by rw [show pw_g h50 125 7 = pw_g h 125 7 + 1 by omega]; exact pt_MR.one (by omega) hes⟩⟩, rfl⟩
                      · intro hc51
                        change ¬ ((0 : Int) = (0 : Int)) at hc51
                        exfalso; omega
                    · intro hc52
                      change ¬ ((0 : Int) = (0 : Int)) at hc52
                      exfalso; omega
                  · intro hc53
                    change ¬ (x32 = (0 : Int)) at hc53
                    exfalso; omega
              · intro hc54
                change ¬ (x17 = (0 : Int)) at hc54
                exfalso; omega
          · intro hc55
            change ¬ (pw_g h 125 8 ≤ (0 : Int)) at hc55
            exfalso; omega
        · intro hc56
          change ¬ (dp ≠ (5 : Int)) at hc56
          refine pw_ld E (pc' := 72) (st' := [.ref 141]) rfl (fun _ => rfl) ?_
          refine pw_ld E (pc' := 73) (st' := [pw_i 5, .ref 141]) rfl (fun _ => rfl) ?_
          obtain ⟨f57l, f57h, -⟩ := pw_obj (c := 125) I rfl
          refine pw_call (m' := 245) (As := [.ref 141, pw_i 5]) (rest := []) (ls'' := [some (.ref 141), some (pw_i 5)]) (by omega) E rfl (fun _ => pw_iV rfl rfl rfl rfl (pw_cellI f57h rfl)) (rfl : pm_ent 245 = some (2, 2, 12, 4, pmc_245)) rfl rfl (cm_245_t (by omega) I (5) (by omega) (by omega)) ?_
          rintro h58 v59 ⟨h58I, h58E, hqwr, rfl⟩
          refine ⟨_, rfl, ?_⟩
          have h58F := E0.tr (h58E.wk (W' := [125, 146, 147]) (by first | rfl | simp))
          show pw X d h58 252 76 [some (.ref 141), some (pw_i dp), some (pw_i x6), some (pw_i 0)] [] _
          have hwf := hqwr.1 hp4
          have hpl := pw_gA (c := 128) (j := pw_g h 125 7) I rfl (by decide) (by omega) (by omega)
          rw [hp2.2.2.1] at hwf hpl
          have tAx : pw_A n h58 := ⟨hn1, by rw [pw_Eg (c := 127) I h58E rfl rfl]; exact hp0.2.1, by omega, by omega, by omega, by omega⟩
          have tTx : pt_TK K V P wr h58 := pt_TK.E I h58E hp2 rfl (by omega)
          have hes := pt_eoD (F := pt_FF wr) (S := S) (d := dp) (o := o) (c := c) hbg (by omega)
          have hMF : pt_MF (pt_FF wr) K V P (pw_g h 125 7) (0, S, dp, o, c) (pw_g h58 125 8) := pt_MF.one (by omega) (by omega) hes (by decide) (by decide) hwf
          have hf0 : pw_g h58 125 8 ≠ 0 := by have := pw_gA (c := 128) (j := pw_g h 125 7) I rfl (by decide) (by omega) (by omega); rw [hp2.2.2.1] at this; omega
          refine pw_ld E (pc' := 77) (st' := [.ref 141]) rfl (fun _ => rfl) ?_
          refine pw_getI2 h58I E (c := 125) (k := 8) (pc' := 80) rfl rfl rfl rfl rfl rfl (fun hf60a hf60b => ?_)
          refine pw_if E (pc' := 84) rfl (by decide) (by omega) (by omega) ?_ ?_
          · intro hc61
            change pw_g h58 125 8 ≤ (0 : Int) at hc61
            exfalso; omega
          · intro hc62
            change ¬ (pw_g h58 125 8 ≤ (0 : Int)) at hc62
            refine pw_vret E rfl ?_
            exact ⟨h58I, h58F, ⟨tTx, Or.inl ⟨hf0, hMF⟩⟩, rfl⟩
      · intro hc63
        change ¬ ((0 : Int) ≤ x6) at hc63
        refine pw_ld E (pc' := 37) (st' := [pw_i 0]) rfl (fun _ => rfl) ?_
        refine pw_if E (pc' := 66) rfl (by decide) (by decide) (by decide) ?_ ?_
        · intro hc64
          change (0 : Int) ≠ (0 : Int) at hc64
          exfalso; omega
        · intro hc65
          change ¬ ((0 : Int) ≠ (0 : Int)) at hc65
          refine pw_ld E (pc' := 41) (st' := [.ref 141]) rfl (fun _ => rfl) ?_
          refine pw_bip E (pc' := 43) rfl rfl (by decide) ?_
          obtain ⟨f66l, f66h, -⟩ := pw_obj (c := 125) I rfl
          refine pw_call (m' := 254) (As := [.ref 141, pw_i 40]) (rest := []) (ls'' := [some (.ref 141), some (pw_i 40)]) (by omega) E rfl (fun _ => pw_iV rfl rfl rfl rfl (pw_cellI f66h rfl)) (rfl : pm_ent 254 = some (2, 2, 12, 1, pmc_254)) rfl rfl (cm_254 (by omega) I (40) (by omega) (by omega)) ?_
          rintro u68 v67 ⟨rfl, x69, rfl, hx69a, hx69b, hx69r⟩
          refine ⟨_, rfl, ?_⟩
          show pw X d h 252 46 [some (.ref 141), some (pw_i dp), some (pw_i x6), some (pw_i 0)] [pw_i x69] _
          change x69 = pw_sg h 40 ∧ (x69 = 1 → pw_g h 125 8 = 0 ∧ pw_g h 127 (pw_g h 125 7).toNat = 3) at hx69r
          rcases (by omega : x69 = 1 ∨ x69 = 0) with hb70 | hb70
          · skip
            refine pw_if E (pc' := 66) rfl (by decide) (by omega) (by omega) ?_ ?_
            · intro hc71
              change x69 ≠ (0 : Int) at hc71
              have s40 := pt_sgI hp2 (ch := 40) (by decide) (by decide)
              rw [← hx69r.1] at s40
              have hbg : (K (pw_g h 125 7).toNat = 1 ∧ (V (pw_g h 125 7).toNat = 19741 ∨ 0 ≤ pt_FF wr (V (pw_g h 125 7).toNat))) ∨ (K (pw_g h 125 7).toNat = 3 ∧ V (pw_g h 125 7).toNat = 40) ∨ K (pw_g h 125 7).toNat = 2 := Or.inr (Or.inl (s40.resolve_right (fun q => by have := q.1; omega)).2.2)
              refine pw_ld E (pc' := 67) (st' := [pw_i dp]) rfl (fun _ => rfl) ?_
              refine pw_ld E (pc' := 68) (st' := [pw_i 5, pw_i dp]) rfl (fun _ => rfl) ?_
              refine pw_if2 E (pc' := 76) rfl (by decide) (by omega) (by omega) (by decide) (by decide) ?_ ?_
              · intro hc72
                change dp ≠ (5 : Int) at hc72
                refine pw_ld E (pc' := 77) (st' := [.ref 141]) rfl (fun _ => rfl) ?_
                refine pw_getI2 I E (c := 125) (k := 8) (pc' := 80) rfl rfl rfl rfl rfl rfl (fun hf73a hf73b => ?_)
                refine pw_if E (pc' := 84) rfl (by decide) (by omega) (by omega) ?_ ?_
                · intro hc74
                  change pw_g h 125 8 ≤ (0 : Int) at hc74
                  refine pw_ld E (pc' := 85) (st' := [.ref 141]) rfl (fun _ => rfl) ?_
                  refine pw_bip E (pc' := 87) rfl rfl (by decide) ?_
                  obtain ⟨f75l, f75h, -⟩ := pw_obj (c := 125) I rfl
                  refine pw_call (m' := 247) (As := [.ref 141, pw_i 7]) (rest := []) (ls'' := [some (.ref 141), some (pw_i 7), none]) (by omega) E rfl (fun _ => pw_iV rfl rfl rfl rfl (pw_cellI f75h rfl)) (rfl : pm_ent 247 = some (2, 3, 12, 1, pmc_247)) rfl rfl (cm_247_t (by omega) I (7) (by omega) (by omega) (by omega)) ?_
                  rintro h76 v77 ⟨h76I, h76E, x78, rfl, hx78a, hx78b, hx78r⟩
                  refine ⟨_, rfl, ?_⟩
                  have h76F := E0.tr (h76E.wk (W' := [125, 146, 147]) (by first | rfl | simp))
                  show pw X d h76 252 90 [some (.ref 141), some (pw_i dp), some (pw_i x6), some (pw_i 0)] [pw_i x78] _
                  change x78 = pw_wd h 7 ∧ pw_g h76 125 7 = pw_g h 125 7 + x78 ∧ pw_g h76 125 8 = pw_g h 125 8 ∧ pw_g h76 125 32 = pw_g h 125 32 ∧ pw_g h76 125 45 = pw_g h 125 45 at hx78r
                  rcases (by omega : x78 = 1 ∨ x78 = 0) with hb79 | hb79
                  · skip
                    have w7 := pt_wdI hp2 (w := 7) (by decide) (by decide)
                    rw [← hx78r.1] at w7
                    obtain ⟨-, -, zk, zv⟩ := w7.resolve_right (fun q => by have := q.1; omega)
                    have hlt := pw_A.lt hp0 (by rw [hp2.1, zk]; decide)
                    have tAd : pw_A n h76 := ⟨hn1, by rw [pw_Eg (c := 127) I h76E rfl rfl]; exact hp0.2.1, by omega, by omega, by omega, by omega⟩
                    have tTd : pt_TK K V P wr h76 := pt_TK.E I h76E hp2 rfl (by omega)
                    have hM1 : pt_MR (pt_FF wr) K V (pw_g h 125 7) (pw_g h76 125 7) (0, S, dp, o, c) (0, 8 :: S, dp + 1, o, c) := by rw [show pw_g h76 125 7 = pw_g h 125 7 + 1 by omega]; exact pt_MR.one (by omega) (pt_eoN zk zv (by omega))
                    have hC1 := pt_CD.E I h76E hp6 rfl (by omega)
                    refine pw_if E (pc' := 109) rfl (by decide) (by omega) (by omega) ?_ ?_
                    · intro hc80
                      change x78 = (0 : Int) at hc80
                      exfalso; omega
                    · intro hc81
                      change ¬ (x78 = (0 : Int)) at hc81
                      refine pw_ld E (pc' := 94) (st' := [.ref 141]) rfl (fun _ => rfl) ?_
                      refine pw_ld E (pc' := 95) (st' := [pw_i dp, .ref 141]) rfl (fun _ => rfl) ?_
                      refine pw_ld E (pc' := 96) (st' := [pw_i 1, pw_i dp, .ref 141]) rfl (fun _ => rfl) ?_
                      refine pw_add E (pc' := 97) rfl rfl ?_
                      obtain ⟨f82l, f82h, -⟩ := pw_obj (c := 125) h76I rfl
                      refine pw_call (m' := 252) (As := [.ref 141, pw_i (dp + 1)]) (rest := []) (ls'' := [some (.ref 141), some (pw_i (dp + 1)), none, none]) (by omega) E rfl (fun _ => pw_iV rfl rfl rfl rfl (pw_cellI f82h rfl)) (rfl : pm_ent 252 = some (2, 4, 12, 4, pmc_252)) rfl rfl (pw_and (pt_S252 (dp := dp + 1) (by omega) (by omega) (by omega) h76I tAd (by omega)) ((hR (by omega)).1 n K V P wr (8 :: S) (o) b (c) (by omega) h76I tAd (by omega) tTd hp3 (by omega) (by omega) hC1)) ?_
                      rintro h83 v84 ⟨⟨h83I, h83E, ⟨tAb, tRb⟩, rfl⟩, ⟨-, -, ⟨tTb, tMb⟩, -⟩⟩
                      refine ⟨_, rfl, ?_⟩
                      have h83F := h76F.tr (h83E.wk (W' := [125, 146, 147]) (by first | rfl | simp))
                      show pw X d h83 252 100 [some (.ref 141), some (pw_i dp), some (pw_i x6), some (pw_i 0)] [] _
                      have tBb := tAb.2.2
                      have tCb := tRb.1.2.2.2.1
                      have tDb := tRb.1.2.1
                      refine pw_ld E (pc' := 101) (st' := [.ref 141]) rfl (fun _ => rfl) ?_
                      refine pw_ld E (pc' := 102) (st' := [pw_i 3, .ref 141]) rfl (fun _ => rfl) ?_
                      refine pw_ld E (pc' := 103) (st' := [pw_i 0, pw_i 3, .ref 141]) rfl (fun _ => rfl) ?_
                      obtain ⟨f85l, f85h, -⟩ := pw_obj (c := 125) h83I rfl
                      refine pw_call (m' := 255) (As := [.ref 141, pw_i 3, pw_i 0]) (rest := []) (ls'' := [some (.ref 141), some (pw_i 3), some (pw_i 0)]) (by omega) E rfl (fun _ => pw_iV rfl rfl rfl rfl (pw_cellI f85h rfl)) (rfl : pm_ent 255 = some (3, 3, 12, 4, pmc_255)) rfl rfl (cm_255_t (by omega) h83I (3) (by omega) (by omega) (0) (by omega) (by omega) (by omega)) ?_
                      rintro h86 v87 ⟨h86I, h86E, hqem, rfl⟩
                      refine ⟨_, rfl, ?_⟩
                      have h86F := h83F.tr (h86E.wk (W' := [125, 146, 147]) (by first | rfl | simp))
                      show pw X d h86 252 106 [some (.ref 141), some (pw_i dp), some (pw_i x6), some (pw_i 0)] [] _
                      have tEc := hqem.1
                      have tE7 := tEc.1
                      have tE8 := tEc.2.1
                      have tE32 := tEc.2.2.1
                      have tE45 := hqem.2
                      have tAec : pw_A n h86 := ⟨hn1, by rw [pw_Eg (c := 127) h83I h86E rfl rfl]; exact tAb.2.1, by omega, by omega, by omega, by omega⟩
                      have tTec : pt_TK K V P wr h86 := pt_TK.E h83I h86E tTb rfl (by omega)
                      have hPT : pt_PT (pt_FF wr) K V P S dp o b c h h86 := by
                        rcases tMb with ⟨z, f⟩ | ⟨z, c3, k3, m3⟩
                        · exact Or.inl ⟨by omega, by rw [tE8]; exact pt_MF.tr hM1 f⟩
                        · refine Or.inr ⟨by omega, _, pt_CD.em k3 tEc (Or.inr (Or.inr (Or.inl ⟨rfl, rfl⟩))), ?_⟩
                          rw [tE7]
                          rw [pt_fin_8] at m3
                          exact hM1.tr m3
                      refine pw_goto E (pc' := 175) rfl (by decide) ?_
                      refine pw_vret E rfl ?_
                      exact ⟨h86I, h86F, ⟨tTec, hPT⟩, rfl⟩
                  · skip
                    have w7 := pt_wdI hp2 (w := 7) (by decide) (by decide)
                    rw [← hx78r.1] at w7
                    have n7 := (w7.resolve_left (fun q => by have := q.1; omega)).2
                    have tAd : pw_A n h76 := ⟨hn1, by rw [pw_Eg (c := 127) I h76E rfl rfl]; exact hp0.2.1, by omega, by omega, by omega, by omega⟩
                    have tTd : pt_TK K V P wr h76 := pt_TK.E I h76E hp2 rfl (by omega)
                    have e7d : pw_g h76 125 7 = pw_g h 125 7 := by omega
                    refine pw_if E (pc' := 109) rfl (by decide) (by omega) (by omega) ?_ ?_
                    · intro hc89
                      change x78 = (0 : Int) at hc89
                      refine pw_ld E (pc' := 110) (st' := [.ref 141]) rfl (fun _ => rfl) ?_
                      refine pw_bip E (pc' := 112) rfl rfl (by decide) ?_
                      obtain ⟨f90l, f90h, -⟩ := pw_obj (c := 125) h76I rfl
                      refine pw_call (m' := 256) (As := [.ref 141, pw_i 40]) (rest := []) (ls'' := [some (.ref 141), some (pw_i 40), none]) (by omega) E rfl (fun _ => pw_iV rfl rfl rfl rfl (pw_cellI f90h rfl)) (rfl : pm_ent 256 = some (2, 3, 12, 1, pmc_256)) rfl rfl (cm_256_t (by omega) h76I (40) (by omega) (by omega) (by omega)) ?_
                      rintro h91 v92 ⟨h91I, h91E, x93, rfl, hx93a, hx93b, hx93r⟩
                      refine ⟨_, rfl, ?_⟩
                      have h91F := h76F.tr (h91E.wk (W' := [125, 146, 147]) (by first | rfl | simp))
                      show pw X d h91 252 115 [some (.ref 141), some (pw_i dp), some (pw_i x6), some (pw_i 0)] [pw_i x93] _
                      change x93 = pw_sg h76 40 ∧ pw_g h91 125 7 = pw_g h76 125 7 + x93 ∧ pw_g h91 125 8 = pw_g h76 125 8 ∧ pw_g h91 125 32 = pw_g h76 125 32 ∧ pw_g h91 125 45 = pw_g h76 125 45 at hx93r
                      rcases (by omega : x93 = 1 ∨ x93 = 0) with hb94 | hb94
                      · skip
                        have w40 := pt_sgI tTd (ch := 40) (by decide) (by decide)
                        rw [← hx93r.1, e7d] at w40
                        obtain ⟨-, -, zk, zv⟩ := w40.resolve_right (fun q => by have := q.1; omega)
                        have hlt := pw_A.lt hp0 (by rw [hp2.1, zk]; decide)
                        have tAf : pw_A n h91 := ⟨hn1, by rw [pw_Eg (c := 127) h76I h91E rfl rfl]; exact tAd.2.1, by omega, by omega, by omega, by omega⟩
                        have tTf : pt_TK K V P wr h91 := pt_TK.E h76I h91E tTd rfl (by omega)
                        have hM1 : pt_MR (pt_FF wr) K V (pw_g h 125 7) (pw_g h91 125 7) (0, S, dp, o, c) (0, 9 :: S, dp + 1, o + 1, c) := by rw [show pw_g h91 125 7 = pw_g h 125 7 + 1 by omega]; exact pt_MR.one (by omega) (pt_eoB zk zv (by omega))
                        have hC0 := pt_CD.E I h76E hp6 rfl (by omega)
                        have hC1 := pt_CD.E h76I h91E hC0 rfl (by omega)
                        refine pw_if E (pc' := 134) rfl (by decide) (by omega) (by omega) ?_ ?_
                        · intro hc95
                          change x93 = (0 : Int) at hc95
                          exfalso; omega
                        · intro hc96
                          change ¬ (x93 = (0 : Int)) at hc96
                          refine pw_ld E (pc' := 119) (st' := [.ref 141]) rfl (fun _ => rfl) ?_
                          refine pw_ld E (pc' := 120) (st' := [pw_i dp, .ref 141]) rfl (fun _ => rfl) ?_
                          refine pw_ld E (pc' := 121) (st' := [pw_i 1, pw_i dp, .ref 141]) rfl (fun _ => rfl) ?_
                          refine pw_add E (pc' := 122) rfl rfl ?_
                          obtain ⟨f97l, f97h, -⟩ := pw_obj (c := 125) h91I rfl
                          refine pw_call (m' := 248) (As := [.ref 141, pw_i (dp + 1)]) (rest := []) (ls'' := [some (.ref 141), some (pw_i (dp + 1)), none]) (by omega) E rfl (fun _ => pw_iV rfl rfl rfl rfl (pw_cellI f97h rfl)) (rfl : pm_ent 248 = some (2, 3, 12, 4, pmc_248)) rfl rfl (pw_and (pt_S248 (dp := dp + 1) (by omega) (by omega) (by omega) h91I tAf (by omega)) ((hR (by omega)).2 n K V P wr (9 :: S) (o + 1) b (c) (by omega) h91I tAf (by omega) tTf hp3 (by omega) (by omega) hC1 (pt_n81 (by decide)) (by rw [pt_tr1, pt_rk9]; decide))) ?_
                          rintro h98 v99 ⟨⟨h98I, h98E, ⟨tAb, tRb⟩, rfl⟩, ⟨-, -, ⟨tTb, tMb⟩, -⟩⟩
                          refine ⟨_, rfl, ?_⟩
                          have h98F := h91F.tr (h98E.wk (W' := [125, 146, 147]) (by first | rfl | simp))
                          show pw X d h98 252 125 [some (.ref 141), some (pw_i dp), some (pw_i x6), some (pw_i 0)] [] _
                          have tBb := tAb.2.2
                          have tCb := tRb.1.2.2.2.1
                          have tDb := tRb.1.2.1
                          refine pw_ld E (pc' := 126) (st' := [.ref 141]) rfl (fun _ => rfl) ?_
                          refine pw_bip E (pc' := 128) rfl rfl (by decide) ?_
                          obtain ⟨f100l, f100h, -⟩ := pw_obj (c := 125) h98I rfl
                          refine pw_call (m' := 257) (As := [.ref 141, pw_i 41]) (rest := []) (ls'' := [some (.ref 141), some (pw_i 41)]) (by omega) E rfl (fun _ => pw_iV rfl rfl rfl rfl (pw_cellI f100h rfl)) (rfl : pm_ent 257 = some (2, 2, 12, 4, pmc_257)) rfl rfl (cm_257_t (by omega) h98I (41) (by omega) (by omega) (by omega)) ?_
                          rintro h101 v102 ⟨h101I, h101E, hqtk, rfl⟩
                          refine ⟨_, rfl, ?_⟩
                          have h101F := h98F.tr (h101E.wk (W' := [125, 146, 147]) (by first | rfl | simp))
                          show pw X d h101 252 131 [some (.ref 141), some (pw_i dp), some (pw_i x6), some (pw_i 0)] [] _
                          have w41 := pt_sgI tTb (ch := 41) (by decide) (by decide)
                          have k8 := tTb.2.2.1
                          have hlt2 : pw_sg h98 41 = 1 → pw_g h98 125 7 < n := fun q => pw_A.lt tAb (by rw [tTb.1, (w41.resolve_right (fun z => by have := z.1; omega)).2.2.1]; decide)
                          have hpk := pw_gA (c := 128) (j := pw_g h98 125 7) h98I rfl (by decide) (by omega) (by omega)
                          have tAk : pw_A n h101 := ⟨hn1, by rw [pw_Eg (c := 127) h98I h101E rfl rfl]; exact tAb.2.1, by omega, by omega, by omega, by omega⟩
                          have tTk : pt_TK K V P wr h101 := pt_TK.E h98I h101E tTb rfl (by omega)
                          have hPT : pt_PT (pt_FF wr) K V P S dp o b c h h101 := by
                            have hplace := pw_gA (c := 128) (j := pw_g h98 125 7) h98I rfl (by decide) (by omega) (by omega)
                            rw [k8] at hplace hqtk
                            rcases tMb with ⟨z, f⟩ | ⟨z, c3, k3, m3⟩
                            · have hn : pw_sg h98 41 ≠ 1 := fun q => z (w41.resolve_right (fun y => by have := y.1; omega)).2.1
                              have e8 := (hqtk.2.1 hn).2.2 z
                              exact Or.inl ⟨by omega, by rw [e8]; exact pt_MF.tr hM1 f⟩
                            · rcases w41 with ⟨y1, -, yk, yv⟩ | ⟨y0, yn⟩
                              · obtain ⟨e7, e8⟩ := hqtk.1 y1
                                refine Or.inr ⟨by omega, c3, k3.E h98I h101E rfl (by omega), ?_⟩
                                rw [e7]
                                exact hM1.tr (pt_GG.close m3 (by omega) yk yv)
                              · obtain ⟨e7, e8, -⟩ := hqtk.2.1 (by omega)
                                have e8 := e8 z
                                exact Or.inl ⟨by omega, pt_MF.tr hM1 (pt_GG.noclose m3 (by omega) (by omega) (fun q => yn ⟨z, q.1, q.2⟩) e8)⟩
                          refine pw_goto E (pc' := 175) rfl (by decide) ?_
                          refine pw_vret E rfl ?_
                          exact ⟨h101I, h101F, ⟨tTk, hPT⟩, rfl⟩
                      · skip
                        have w40 := pt_sgI tTd (ch := 40) (by decide) (by decide)
                        rw [← hx93r.1, e7d] at w40
                        have n40 := (w40.resolve_left (fun q => by have := q.1; omega)).2
                        have tAg : pw_A n h91 := ⟨hn1, by rw [pw_Eg (c := 127) h76I h91E rfl rfl]; exact tAd.2.1, by omega, by omega, by omega, by omega⟩
                        have tTg : pt_TK K V P wr h91 := pt_TK.E h76I h91E tTd rfl (by omega)
                        have e7g : pw_g h91 125 7 = pw_g h 125 7 := by omega
                        have hC0 := pt_CD.E I h76E hp6 rfl (by omega)
                        have hC1 := pt_CD.E h76I h91E hC0 rfl (by omega)
                        refine pw_if E (pc' := 134) rfl (by decide) (by omega) (by omega) ?_ ?_
                        · intro hc104
                          change x93 = (0 : Int) at hc104
                          refine pw_ld E (pc' := 135) (st' := [.ref 141]) rfl (fun _ => rfl) ?_
                          refine pw_ld E (pc' := 136) (st' := [pw_i 0, .ref 141]) rfl (fun _ => rfl) ?_
                          refine pw_if E (pc' := 143) rfl (by decide) (by decide) (by decide) ?_ ?_
                          · intro hc105
                            change (0 : Int) = (0 : Int) at hc105
                            refine pw_ld E (pc' := 144) (st' := [pw_i 2, .ref 141]) rfl (fun _ => rfl) ?_
                            refine pw_ld E (pc' := 145) (st' := [pw_i 0, pw_i 2, .ref 141]) rfl (fun _ => rfl) ?_
                            refine pw_if E (pc' := 161) rfl (by decide) (by decide) (by decide) ?_ ?_
                            · intro hc106
                              change (0 : Int) = (0 : Int) at hc106
                              refine pw_ld E (pc' := 162) (st' := [pw_i x6, pw_i 2, .ref 141]) rfl (fun _ => rfl) ?_
                              have hk1 : K (pw_g h 125 7).toNat = 1 := by rcases hbg with q | q | q <;> omega
                              have hlt := pw_A.lt hp0 (by rw [hp2.1, hk1]; decide)
                              have hfa := oF ⟨hp4, hk1⟩
                              have hnn : V (pw_g h 125 7).toNat ≠ 19741 := fun q => n7 ⟨hp4, hk1, q⟩
                              have hf9 : 0 ≤ pt_FF wr (V (pw_g h 125 7).toNat) := by rcases hbg with q | q | q <;> first | exact q.2.resolve_left hnn | omega
                              have hFB := pt_FFB (wr := wr) (V := V (pw_g h 125 7).toNat)
                              have hes := pt_eoF (F := pt_FF wr) (S := S) (d := dp) (o := o) (c := c) hk1 hnn hf9 (by omega)
                              obtain ⟨f107l, f107h, -⟩ := pw_obj (c := 125) h91I rfl
                              refine pw_call (m' := 255) (As := [.ref 141, pw_i 2, pw_i x6]) (rest := []) (ls'' := [some (.ref 141), some (pw_i 2), some (pw_i x6)]) (by omega) E rfl (fun _ => pw_iV rfl rfl rfl rfl (pw_cellI f107h rfl)) (rfl : pm_ent 255 = some (3, 3, 12, 4, pmc_255)) rfl rfl (cm_255_t (by omega) h91I (2) (by omega) (by omega) (x6) (by omega) (by omega) (by omega)) ?_
                              rintro h108 v109 ⟨h108I, h108E, hqem, rfl⟩
                              refine ⟨_, rfl, ?_⟩
                              have h108F := h91F.tr (h108E.wk (W' := [125, 146, 147]) (by first | rfl | simp))
                              show pw X d h108 252 165 [some (.ref 141), some (pw_i dp), some (pw_i x6), some (pw_i 0)] [] _
                              have tEc := hqem.1
                              have tE7 := tEc.1
                              have tE8 := tEc.2.1
                              have tE32 := tEc.2.2.1
                              have tE45 := hqem.2
                              have tAec : pw_A n h108 := ⟨hn1, by rw [pw_Eg (c := 127) h91I h108E rfl rfl]; exact tAg.2.1, by omega, by omega, by omega, by omega⟩
                              have tTec : pt_TK K V P wr h108 := pt_TK.E h91I h108E tTg rfl (by omega)
                              have hCe : pt_CD h108 b ((10000 + pt_FF wr (V (pw_g h 125 7).toNat)) :: c) := pt_CD.em hC1 tEc (Or.inr (Or.inl ⟨rfl, by rw [hfa], by omega, by omega⟩))
                              refine pw_ld E (pc' := 166) (st' := [.ref 141]) rfl (fun _ => rfl) ?_
                              refine pw_ld E (pc' := 167) (st' := [.ref 141, .ref 141]) rfl (fun _ => rfl) ?_
                              refine pw_getI2 h108I E (c := 125) (k := 7) (pc' := 170) rfl rfl rfl rfl rfl rfl (fun hf110a hf110b => ?_)
                              refine pw_ld E (pc' := 171) (st' := [pw_i 1, pw_i (pw_g h108 125 7), .ref 141]) rfl (fun _ => rfl) ?_
                              refine pw_add E (pc' := 172) rfl rfl ?_
                              refine pw_putI h108I E (c := 125) (k := 7) (pc' := 175) rfl rfl rfl rfl (by omega) (by omega) (by omega) (by omega) rfl rfl ?_
                              intro h111I h111E
                              generalize h111w : pw_w h108 125 7 (pw_i ((pw_g h108 125 7) + 1)) = h111 at h111I h111E ⊢
                              have h111F := h108F.tr (h111E.wk (W' := [125, 146, 147]) (by first | rfl | simp))
                              have h1117 : pw_g h111 125 7 = pw_g h108 125 7 + 1 := by rw [← h111w]; exact pw_g_eq (c := 125) (k := 7) h108I rfl rfl (by omega) (by omega)
                              have h1118 : pw_g h111 125 8 = pw_g h108 125 8 := by rw [← h111w]; exact pw_g_ne (by omega)
                              have h11132 : pw_g h111 125 32 = pw_g h108 125 32 := by rw [← h111w]; exact pw_g_ne (by omega)
                              have h11145 : pw_g h111 125 45 = pw_g h108 125 45 := by rw [← h111w]; exact pw_g_ne (by omega)
                              have tAw : pw_A n h111 := ⟨hn1, by rw [pw_Eg (c := 127) h108I h111E rfl rfl]; exact tAec.2.1, by omega, by omega, by omega, by omega⟩
                              have tTw : pt_TK K V P wr h111 := pt_TK.E h108I h111E tTec rfl (by omega)
                              have hC4 := pt_CD.E h108I h111E hCe rfl (by omega)
                              refine pw_vret E rfl ?_
                              exact ⟨h111I, h111F, ⟨tTw, Or.inr ⟨by omega, _, hC4, by rw [show pw_g h111 125 7 = pw_g h 125 7 + 1 by omega]; exact pt_MR.one (by omega) hes⟩⟩, rfl⟩
                            · intro hc112
                              change ¬ ((0 : Int) = (0 : Int)) at hc112
                              exfalso; omega
                          · intro hc113
                            change ¬ ((0 : Int) = (0 : Int)) at hc113
                            exfalso; omega
                        · intro hc114
                          change ¬ (x93 = (0 : Int)) at hc114
                          exfalso; omega
                    · intro hc115
                      change ¬ (x78 = (0 : Int)) at hc115
                      exfalso; omega
                · intro hc116
                  change ¬ (pw_g h 125 8 ≤ (0 : Int)) at hc116
                  exfalso; omega
              · intro hc117
                change ¬ (dp ≠ (5 : Int)) at hc117
                refine pw_ld E (pc' := 72) (st' := [.ref 141]) rfl (fun _ => rfl) ?_
                refine pw_ld E (pc' := 73) (st' := [pw_i 5, .ref 141]) rfl (fun _ => rfl) ?_
                obtain ⟨f118l, f118h, -⟩ := pw_obj (c := 125) I rfl
                refine pw_call (m' := 245) (As := [.ref 141, pw_i 5]) (rest := []) (ls'' := [some (.ref 141), some (pw_i 5)]) (by omega) E rfl (fun _ => pw_iV rfl rfl rfl rfl (pw_cellI f118h rfl)) (rfl : pm_ent 245 = some (2, 2, 12, 4, pmc_245)) rfl rfl (cm_245_t (by omega) I (5) (by omega) (by omega)) ?_
                rintro h119 v120 ⟨h119I, h119E, hqwr, rfl⟩
                refine ⟨_, rfl, ?_⟩
                have h119F := E0.tr (h119E.wk (W' := [125, 146, 147]) (by first | rfl | simp))
                show pw X d h119 252 76 [some (.ref 141), some (pw_i dp), some (pw_i x6), some (pw_i 0)] [] _
                have hwf := hqwr.1 hp4
                have hpl := pw_gA (c := 128) (j := pw_g h 125 7) I rfl (by decide) (by omega) (by omega)
                rw [hp2.2.2.1] at hwf hpl
                have tAx : pw_A n h119 := ⟨hn1, by rw [pw_Eg (c := 127) I h119E rfl rfl]; exact hp0.2.1, by omega, by omega, by omega, by omega⟩
                have tTx : pt_TK K V P wr h119 := pt_TK.E I h119E hp2 rfl (by omega)
                have hes := pt_eoD (F := pt_FF wr) (S := S) (d := dp) (o := o) (c := c) hbg (by omega)
                have hMF : pt_MF (pt_FF wr) K V P (pw_g h 125 7) (0, S, dp, o, c) (pw_g h119 125 8) := pt_MF.one (by omega) (by omega) hes (by decide) (by decide) hwf
                have hf0 : pw_g h119 125 8 ≠ 0 := by have := pw_gA (c := 128) (j := pw_g h 125 7) I rfl (by decide) (by omega) (by omega); rw [hp2.2.2.1] at this; omega
                refine pw_ld E (pc' := 77) (st' := [.ref 141]) rfl (fun _ => rfl) ?_
                refine pw_getI2 h119I E (c := 125) (k := 8) (pc' := 80) rfl rfl rfl rfl rfl rfl (fun hf121a hf121b => ?_)
                refine pw_if E (pc' := 84) rfl (by decide) (by omega) (by omega) ?_ ?_
                · intro hc122
                  change pw_g h119 125 8 ≤ (0 : Int) at hc122
                  exfalso; omega
                · intro hc123
                  change ¬ (pw_g h119 125 8 ≤ (0 : Int)) at hc123
                  refine pw_vret E rfl ?_
                  exact ⟨h119I, h119F, ⟨tTx, Or.inl ⟨hf0, hMF⟩⟩, rfl⟩
            · intro hc124
              change ¬ (x69 ≠ (0 : Int)) at hc124
              exfalso; omega
          · skip
            refine pw_if E (pc' := 66) rfl (by decide) (by omega) (by omega) ?_ ?_
            · intro hc126
              change x69 ≠ (0 : Int) at hc126
              exfalso; omega
            · intro hc127
              change ¬ (x69 ≠ (0 : Int)) at hc127
              refine pw_ld E (pc' := 50) (st' := [.ref 141]) rfl (fun _ => rfl) ?_
              refine pw_bip E (pc' := 52) rfl rfl (by decide) ?_
              obtain ⟨f128l, f128h, -⟩ := pw_obj (c := 125) I rfl
              refine pw_call (m' := 244) (As := [.ref 141, pw_i 7]) (rest := []) (ls'' := [some (.ref 141), some (pw_i 7)]) (by omega) E rfl (fun _ => pw_iV rfl rfl rfl rfl (pw_cellI f128h rfl)) (rfl : pm_ent 244 = some (2, 2, 12, 1, pmc_244)) rfl rfl (cm_244 (by omega) I (7) (by omega) (by omega)) ?_
              rintro u130 v129 ⟨rfl, x131, rfl, hx131a, hx131b, hx131r⟩
              refine ⟨_, rfl, ?_⟩
              show pw X d h 252 55 [some (.ref 141), some (pw_i dp), some (pw_i x6), some (pw_i 0)] [pw_i x131] _
              change x131 = pw_wd h 7 ∧ (x131 = 1 → pw_g h 125 8 = 0 ∧ pw_g h 127 (pw_g h 125 7).toNat = 1) at hx131r
              rcases (by omega : x131 = 1 ∨ x131 = 0) with hb132 | hb132
              · skip
                refine pw_if E (pc' := 66) rfl (by decide) (by omega) (by omega) ?_ ?_
                · intro hc133
                  change x131 ≠ (0 : Int) at hc133
                  have s7 := pt_wdI hp2 (w := 7) (by decide) (by decide)
                  rw [← hx131r.1] at s7
                  have hbg : (K (pw_g h 125 7).toNat = 1 ∧ (V (pw_g h 125 7).toNat = 19741 ∨ 0 ≤ pt_FF wr (V (pw_g h 125 7).toNat))) ∨ (K (pw_g h 125 7).toNat = 3 ∧ V (pw_g h 125 7).toNat = 40) ∨ K (pw_g h 125 7).toNat = 2 := Or.inl ⟨(s7.resolve_right (fun q => by have := q.1; omega)).2.2.1, Or.inl (s7.resolve_right (fun q => by have := q.1; omega)).2.2.2⟩
                  refine pw_ld E (pc' := 67) (st' := [pw_i dp]) rfl (fun _ => rfl) ?_
                  refine pw_ld E (pc' := 68) (st' := [pw_i 5, pw_i dp]) rfl (fun _ => rfl) ?_
                  refine pw_if2 E (pc' := 76) rfl (by decide) (by omega) (by omega) (by decide) (by decide) ?_ ?_
                  · intro hc134
                    change dp ≠ (5 : Int) at hc134
                    refine pw_ld E (pc' := 77) (st' := [.ref 141]) rfl (fun _ => rfl) ?_
                    refine pw_getI2 I E (c := 125) (k := 8) (pc' := 80) rfl rfl rfl rfl rfl rfl (fun hf135a hf135b => ?_)
                    refine pw_if E (pc' := 84) rfl (by decide) (by omega) (by omega) ?_ ?_
                    · intro hc136
                      change pw_g h 125 8 ≤ (0 : Int) at hc136
                      refine pw_ld E (pc' := 85) (st' := [.ref 141]) rfl (fun _ => rfl) ?_
                      refine pw_bip E (pc' := 87) rfl rfl (by decide) ?_
                      obtain ⟨f137l, f137h, -⟩ := pw_obj (c := 125) I rfl
                      refine pw_call (m' := 247) (As := [.ref 141, pw_i 7]) (rest := []) (ls'' := [some (.ref 141), some (pw_i 7), none]) (by omega) E rfl (fun _ => pw_iV rfl rfl rfl rfl (pw_cellI f137h rfl)) (rfl : pm_ent 247 = some (2, 3, 12, 1, pmc_247)) rfl rfl (cm_247_t (by omega) I (7) (by omega) (by omega) (by omega)) ?_
                      rintro h138 v139 ⟨h138I, h138E, x140, rfl, hx140a, hx140b, hx140r⟩
                      refine ⟨_, rfl, ?_⟩
                      have h138F := E0.tr (h138E.wk (W' := [125, 146, 147]) (by first | rfl | simp))
                      show pw X d h138 252 90 [some (.ref 141), some (pw_i dp), some (pw_i x6), some (pw_i 0)] [pw_i x140] _
                      change x140 = pw_wd h 7 ∧ pw_g h138 125 7 = pw_g h 125 7 + x140 ∧ pw_g h138 125 8 = pw_g h 125 8 ∧ pw_g h138 125 32 = pw_g h 125 32 ∧ pw_g h138 125 45 = pw_g h 125 45 at hx140r
                      rcases (by omega : x140 = 1 ∨ x140 = 0) with hb141 | hb141
                      · skip
                        have w7 := pt_wdI hp2 (w := 7) (by decide) (by decide)
                        rw [← hx140r.1] at w7
                        obtain ⟨-, -, zk, zv⟩ := w7.resolve_right (fun q => by have := q.1; omega)
                        have hlt := pw_A.lt hp0 (by rw [hp2.1, zk]; decide)
                        have tAd : pw_A n h138 := ⟨hn1, by rw [pw_Eg (c := 127) I h138E rfl rfl]; exact hp0.2.1, by omega, by omega, by omega, by omega⟩
                        have tTd : pt_TK K V P wr h138 := pt_TK.E I h138E hp2 rfl (by omega)
                        have hM1 : pt_MR (pt_FF wr) K V (pw_g h 125 7) (pw_g h138 125 7) (0, S, dp, o, c) (0, 8 :: S, dp + 1, o, c) := by rw [show pw_g h138 125 7 = pw_g h 125 7 + 1 by omega]; exact pt_MR.one (by omega) (pt_eoN zk zv (by omega))
                        have hC1 := pt_CD.E I h138E hp6 rfl (by omega)
                        refine pw_if E (pc' := 109) rfl (by decide) (by omega) (by omega) ?_ ?_
                        · intro hc142
                          change x140 = (0 : Int) at hc142
                          exfalso; omega
                        · intro hc143
                          change ¬ (x140 = (0 : Int)) at hc143
                          refine pw_ld E (pc' := 94) (st' := [.ref 141]) rfl (fun _ => rfl) ?_
                          refine pw_ld E (pc' := 95) (st' := [pw_i dp, .ref 141]) rfl (fun _ => rfl) ?_
                          refine pw_ld E (pc' := 96) (st' := [pw_i 1, pw_i dp, .ref 141]) rfl (fun _ => rfl) ?_
                          refine pw_add E (pc' := 97) rfl rfl ?_
                          obtain ⟨f144l, f144h, -⟩ := pw_obj (c := 125) h138I rfl
                          refine pw_call (m' := 252) (As := [.ref 141, pw_i (dp + 1)]) (rest := []) (ls'' := [some (.ref 141), some (pw_i (dp + 1)), none, none]) (by omega) E rfl (fun _ => pw_iV rfl rfl rfl rfl (pw_cellI f144h rfl)) (rfl : pm_ent 252 = some (2, 4, 12, 4, pmc_252)) rfl rfl (pw_and (pt_S252 (dp := dp + 1) (by omega) (by omega) (by omega) h138I tAd (by omega)) ((hR (by omega)).1 n K V P wr (8 :: S) (o) b (c) (by omega) h138I tAd (by omega) tTd hp3 (by omega) (by omega) hC1)) ?_
                          rintro h145 v146 ⟨⟨h145I, h145E, ⟨tAb, tRb⟩, rfl⟩, ⟨-, -, ⟨tTb, tMb⟩, -⟩⟩
                          refine ⟨_, rfl, ?_⟩
                          have h145F := h138F.tr (h145E.wk (W' := [125, 146, 147]) (by first | rfl | simp))
                          show pw X d h145 252 100 [some (.ref 141), some (pw_i dp), some (pw_i x6), some (pw_i 0)] [] _
                          have tBb := tAb.2.2
                          have tCb := tRb.1.2.2.2.1
                          have tDb := tRb.1.2.1
                          refine pw_ld E (pc' := 101) (st' := [.ref 141]) rfl (fun _ => rfl) ?_
                          refine pw_ld E (pc' := 102) (st' := [pw_i 3, .ref 141]) rfl (fun _ => rfl) ?_
                          refine pw_ld E (pc' := 103) (st' := [pw_i 0, pw_i 3, .ref 141]) rfl (fun _ => rfl) ?_
                          obtain ⟨f147l, f147h, -⟩ := pw_obj (c := 125) h145I rfl
                          refine pw_call (m' := 255) (As := [.ref 141, pw_i 3, pw_i 0]) (rest := []) (ls'' := [some (.ref 141), some (pw_i 3), some (pw_i 0)]) (by omega) E rfl (fun _ => pw_iV rfl rfl rfl rfl (pw_cellI f147h rfl)) (rfl : pm_ent 255 = some (3, 3, 12, 4, pmc_255)) rfl rfl (cm_255_t (by omega) h145I (3) (by omega) (by omega) (0) (by omega) (by omega) (by omega)) ?_
                          rintro h148 v149 ⟨h148I, h148E, hqem, rfl⟩
                          refine ⟨_, rfl, ?_⟩
                          have h148F := h145F.tr (h148E.wk (W' := [125, 146, 147]) (by first | rfl | simp))
                          show pw X d h148 252 106 [some (.ref 141), some (pw_i dp), some (pw_i x6), some (pw_i 0)] [] _
                          have tEc := hqem.1
                          have tE7 := tEc.1
                          have tE8 := tEc.2.1
                          have tE32 := tEc.2.2.1
                          have tE45 := hqem.2
                          have tAec : pw_A n h148 := ⟨hn1, by rw [pw_Eg (c := 127) h145I h148E rfl rfl]; exact tAb.2.1, by omega, by omega, by omega, by omega⟩
                          have tTec : pt_TK K V P wr h148 := pt_TK.E h145I h148E tTb rfl (by omega)
                          have hPT : pt_PT (pt_FF wr) K V P S dp o b c h h148 := by
                            rcases tMb with ⟨z, f⟩ | ⟨z, c3, k3, m3⟩
                            · exact Or.inl ⟨by omega, by rw [tE8]; exact pt_MF.tr hM1 f⟩
                            · refine Or.inr ⟨by omega, _, pt_CD.em k3 tEc (Or.inr (Or.inr (Or.inl ⟨rfl, rfl⟩))), ?_⟩
                              rw [tE7]
                              rw [pt_fin_8] at m3
                              exact hM1.tr m3
                          refine pw_goto E (pc' := 175) rfl (by decide) ?_
                          refine pw_vret E rfl ?_
                          exact ⟨h148I, h148F, ⟨tTec, hPT⟩, rfl⟩
                      · skip
                        have w7 := pt_wdI hp2 (w := 7) (by decide) (by decide)
                        rw [← hx140r.1] at w7
                        have n7 := (w7.resolve_left (fun q => by have := q.1; omega)).2
                        have tAd : pw_A n h138 := ⟨hn1, by rw [pw_Eg (c := 127) I h138E rfl rfl]; exact hp0.2.1, by omega, by omega, by omega, by omega⟩
                        have tTd : pt_TK K V P wr h138 := pt_TK.E I h138E hp2 rfl (by omega)
                        have e7d : pw_g h138 125 7 = pw_g h 125 7 := by omega
                        refine pw_if E (pc' := 109) rfl (by decide) (by omega) (by omega) ?_ ?_
                        · intro hc151
                          change x140 = (0 : Int) at hc151
                          refine pw_ld E (pc' := 110) (st' := [.ref 141]) rfl (fun _ => rfl) ?_
                          refine pw_bip E (pc' := 112) rfl rfl (by decide) ?_
                          obtain ⟨f152l, f152h, -⟩ := pw_obj (c := 125) h138I rfl
                          refine pw_call (m' := 256) (As := [.ref 141, pw_i 40]) (rest := []) (ls'' := [some (.ref 141), some (pw_i 40), none]) (by omega) E rfl (fun _ => pw_iV rfl rfl rfl rfl (pw_cellI f152h rfl)) (rfl : pm_ent 256 = some (2, 3, 12, 1, pmc_256)) rfl rfl (cm_256_t (by omega) h138I (40) (by omega) (by omega) (by omega)) ?_
                          rintro h153 v154 ⟨h153I, h153E, x155, rfl, hx155a, hx155b, hx155r⟩
                          refine ⟨_, rfl, ?_⟩
                          have h153F := h138F.tr (h153E.wk (W' := [125, 146, 147]) (by first | rfl | simp))
                          show pw X d h153 252 115 [some (.ref 141), some (pw_i dp), some (pw_i x6), some (pw_i 0)] [pw_i x155] _
                          change x155 = pw_sg h138 40 ∧ pw_g h153 125 7 = pw_g h138 125 7 + x155 ∧ pw_g h153 125 8 = pw_g h138 125 8 ∧ pw_g h153 125 32 = pw_g h138 125 32 ∧ pw_g h153 125 45 = pw_g h138 125 45 at hx155r
                          rcases (by omega : x155 = 1 ∨ x155 = 0) with hb156 | hb156
                          · skip
                            have w40 := pt_sgI tTd (ch := 40) (by decide) (by decide)
                            rw [← hx155r.1, e7d] at w40
                            obtain ⟨-, -, zk, zv⟩ := w40.resolve_right (fun q => by have := q.1; omega)
                            have hlt := pw_A.lt hp0 (by rw [hp2.1, zk]; decide)
                            have tAf : pw_A n h153 := ⟨hn1, by rw [pw_Eg (c := 127) h138I h153E rfl rfl]; exact tAd.2.1, by omega, by omega, by omega, by omega⟩
                            have tTf : pt_TK K V P wr h153 := pt_TK.E h138I h153E tTd rfl (by omega)
                            have hM1 : pt_MR (pt_FF wr) K V (pw_g h 125 7) (pw_g h153 125 7) (0, S, dp, o, c) (0, 9 :: S, dp + 1, o + 1, c) := by rw [show pw_g h153 125 7 = pw_g h 125 7 + 1 by omega]; exact pt_MR.one (by omega) (pt_eoB zk zv (by omega))
                            have hC0 := pt_CD.E I h138E hp6 rfl (by omega)
                            have hC1 := pt_CD.E h138I h153E hC0 rfl (by omega)
                            refine pw_if E (pc' := 134) rfl (by decide) (by omega) (by omega) ?_ ?_
                            · intro hc157
                              change x155 = (0 : Int) at hc157
                              exfalso; omega
                            · intro hc158
                              change ¬ (x155 = (0 : Int)) at hc158
                              refine pw_ld E (pc' := 119) (st' := [.ref 141]) rfl (fun _ => rfl) ?_
                              refine pw_ld E (pc' := 120) (st' := [pw_i dp, .ref 141]) rfl (fun _ => rfl) ?_
                              refine pw_ld E (pc' := 121) (st' := [pw_i 1, pw_i dp, .ref 141]) rfl (fun _ => rfl) ?_
                              refine pw_add E (pc' := 122) rfl rfl ?_
                              obtain ⟨f159l, f159h, -⟩ := pw_obj (c := 125) h153I rfl
                              refine pw_call (m' := 248) (As := [.ref 141, pw_i (dp + 1)]) (rest := []) (ls'' := [some (.ref 141), some (pw_i (dp + 1)), none]) (by omega) E rfl (fun _ => pw_iV rfl rfl rfl rfl (pw_cellI f159h rfl)) (rfl : pm_ent 248 = some (2, 3, 12, 4, pmc_248)) rfl rfl (pw_and (pt_S248 (dp := dp + 1) (by omega) (by omega) (by omega) h153I tAf (by omega)) ((hR (by omega)).2 n K V P wr (9 :: S) (o + 1) b (c) (by omega) h153I tAf (by omega) tTf hp3 (by omega) (by omega) hC1 (pt_n81 (by decide)) (by rw [pt_tr1, pt_rk9]; decide))) ?_
                              rintro h160 v161 ⟨⟨h160I, h160E, ⟨tAb, tRb⟩, rfl⟩, ⟨-, -, ⟨tTb, tMb⟩, -⟩⟩
                              refine ⟨_, rfl, ?_⟩
                              have h160F := h153F.tr (h160E.wk (W' := [125, 146, 147]) (by first | rfl | simp))
                              show pw X d h160 252 125 [some (.ref 141), some (pw_i dp), some (pw_i x6), some (pw_i 0)] [] _
                              have tBb := tAb.2.2
                              have tCb := tRb.1.2.2.2.1
                              have tDb := tRb.1.2.1
                              refine pw_ld E (pc' := 126) (st' := [.ref 141]) rfl (fun _ => rfl) ?_
                              refine pw_bip E (pc' := 128) rfl rfl (by decide) ?_
                              obtain ⟨f162l, f162h, -⟩ := pw_obj (c := 125) h160I rfl
                              refine pw_call (m' := 257) (As := [.ref 141, pw_i 41]) (rest := []) (ls'' := [some (.ref 141), some (pw_i 41)]) (by omega) E rfl (fun _ => pw_iV rfl rfl rfl rfl (pw_cellI f162h rfl)) (rfl : pm_ent 257 = some (2, 2, 12, 4, pmc_257)) rfl rfl (cm_257_t (by omega) h160I (41) (by omega) (by omega) (by omega)) ?_
                              rintro h163 v164 ⟨h163I, h163E, hqtk, rfl⟩
                              refine ⟨_, rfl, ?_⟩
                              have h163F := h160F.tr (h163E.wk (W' := [125, 146, 147]) (by first | rfl | simp))
                              show pw X d h163 252 131 [some (.ref 141), some (pw_i dp), some (pw_i x6), some (pw_i 0)] [] _
                              have w41 := pt_sgI tTb (ch := 41) (by decide) (by decide)
                              have k8 := tTb.2.2.1
                              have hlt2 : pw_sg h160 41 = 1 → pw_g h160 125 7 < n := fun q => pw_A.lt tAb (by rw [tTb.1, (w41.resolve_right (fun z => by have := z.1; omega)).2.2.1]; decide)
                              have hpk := pw_gA (c := 128) (j := pw_g h160 125 7) h160I rfl (by decide) (by omega) (by omega)
                              have tAk : pw_A n h163 := ⟨hn1, by rw [pw_Eg (c := 127) h160I h163E rfl rfl]; exact tAb.2.1, by omega, by omega, by omega, by omega⟩
                              have tTk : pt_TK K V P wr h163 := pt_TK.E h160I h163E tTb rfl (by omega)
                              have hPT : pt_PT (pt_FF wr) K V P S dp o b c h h163 := by
                                have hplace := pw_gA (c := 128) (j := pw_g h160 125 7) h160I rfl (by decide) (by omega) (by omega)
                                rw [k8] at hplace hqtk
                                rcases tMb with ⟨z, f⟩ | ⟨z, c3, k3, m3⟩
                                · have hn : pw_sg h160 41 ≠ 1 := fun q => z (w41.resolve_right (fun y => by have := y.1; omega)).2.1
                                  have e8 := (hqtk.2.1 hn).2.2 z
                                  exact Or.inl ⟨by omega, by rw [e8]; exact pt_MF.tr hM1 f⟩
                                · rcases w41 with ⟨y1, -, yk, yv⟩ | ⟨y0, yn⟩
                                  · obtain ⟨e7, e8⟩ := hqtk.1 y1
                                    refine Or.inr ⟨by omega, c3, k3.E h160I h163E rfl (by omega), ?_⟩
                                    rw [e7]
                                    exact hM1.tr (pt_GG.close m3 (by omega) yk yv)
                                  · obtain ⟨e7, e8, -⟩ := hqtk.2.1 (by omega)
                                    have e8 := e8 z
                                    exact Or.inl ⟨by omega, pt_MF.tr hM1 (pt_GG.noclose m3 (by omega) (by omega) (fun q => yn ⟨z, q.1, q.2⟩) e8)⟩
                              refine pw_goto E (pc' := 175) rfl (by decide) ?_
                              refine pw_vret E rfl ?_
                              exact ⟨h163I, h163F, ⟨tTk, hPT⟩, rfl⟩
                          · skip
                            have w40 := pt_sgI tTd (ch := 40) (by decide) (by decide)
                            rw [← hx155r.1, e7d] at w40
                            have n40 := (w40.resolve_left (fun q => by have := q.1; omega)).2
                            have tAg : pw_A n h153 := ⟨hn1, by rw [pw_Eg (c := 127) h138I h153E rfl rfl]; exact tAd.2.1, by omega, by omega, by omega, by omega⟩
                            have tTg : pt_TK K V P wr h153 := pt_TK.E h138I h153E tTd rfl (by omega)
                            have e7g : pw_g h153 125 7 = pw_g h 125 7 := by omega
                            have hC0 := pt_CD.E I h138E hp6 rfl (by omega)
                            have hC1 := pt_CD.E h138I h153E hC0 rfl (by omega)
                            refine pw_if E (pc' := 134) rfl (by decide) (by omega) (by omega) ?_ ?_
                            · intro hc166
                              change x155 = (0 : Int) at hc166
                              refine pw_ld E (pc' := 135) (st' := [.ref 141]) rfl (fun _ => rfl) ?_
                              refine pw_ld E (pc' := 136) (st' := [pw_i 0, .ref 141]) rfl (fun _ => rfl) ?_
                              refine pw_if E (pc' := 143) rfl (by decide) (by decide) (by decide) ?_ ?_
                              · intro hc167
                                change (0 : Int) = (0 : Int) at hc167
                                refine pw_ld E (pc' := 144) (st' := [pw_i 2, .ref 141]) rfl (fun _ => rfl) ?_
                                refine pw_ld E (pc' := 145) (st' := [pw_i 0, pw_i 2, .ref 141]) rfl (fun _ => rfl) ?_
                                refine pw_if E (pc' := 161) rfl (by decide) (by decide) (by decide) ?_ ?_
                                · intro hc168
                                  change (0 : Int) = (0 : Int) at hc168
                                  refine pw_ld E (pc' := 162) (st' := [pw_i x6, pw_i 2, .ref 141]) rfl (fun _ => rfl) ?_
                                  have hk1 : K (pw_g h 125 7).toNat = 1 := by rcases hbg with q | q | q <;> omega
                                  have hlt := pw_A.lt hp0 (by rw [hp2.1, hk1]; decide)
                                  have hfa := oF ⟨hp4, hk1⟩
                                  have hnn : V (pw_g h 125 7).toNat ≠ 19741 := fun q => n7 ⟨hp4, hk1, q⟩
                                  have hf9 : 0 ≤ pt_FF wr (V (pw_g h 125 7).toNat) := by rcases hbg with q | q | q <;> first | exact q.2.resolve_left hnn | omega
                                  have hFB := pt_FFB (wr := wr) (V := V (pw_g h 125 7).toNat)
                                  have hes := pt_eoF (F := pt_FF wr) (S := S) (d := dp) (o := o) (c := c) hk1 hnn hf9 (by omega)
                                  obtain ⟨f169l, f169h, -⟩ := pw_obj (c := 125) h153I rfl
                                  refine pw_call (m' := 255) (As := [.ref 141, pw_i 2, pw_i x6]) (rest := []) (ls'' := [some (.ref 141), some (pw_i 2), some (pw_i x6)]) (by omega) E rfl (fun _ => pw_iV rfl rfl rfl rfl (pw_cellI f169h rfl)) (rfl : pm_ent 255 = some (3, 3, 12, 4, pmc_255)) rfl rfl (cm_255_t (by omega) h153I (2) (by omega) (by omega) (x6) (by omega) (by omega) (by omega)) ?_
                                  rintro h170 v171 ⟨h170I, h170E, hqem, rfl⟩
                                  refine ⟨_, rfl, ?_⟩
                                  have h170F := h153F.tr (h170E.wk (W' := [125, 146, 147]) (by first | rfl | simp))
                                  show pw X d h170 252 165 [some (.ref 141), some (pw_i dp), some (pw_i x6), some (pw_i 0)] [] _
                                  have tEc := hqem.1
                                  have tE7 := tEc.1
                                  have tE8 := tEc.2.1
                                  have tE32 := tEc.2.2.1
                                  have tE45 := hqem.2
                                  have tAec : pw_A n h170 := ⟨hn1, by rw [pw_Eg (c := 127) h153I h170E rfl rfl]; exact tAg.2.1, by omega, by omega, by omega, by omega⟩
                                  have tTec : pt_TK K V P wr h170 := pt_TK.E h153I h170E tTg rfl (by omega)
                                  have hCe : pt_CD h170 b ((10000 + pt_FF wr (V (pw_g h 125 7).toNat)) :: c) := pt_CD.em hC1 tEc (Or.inr (Or.inl ⟨rfl, by rw [hfa], by omega, by omega⟩))
                                  refine pw_ld E (pc' := 166) (st' := [.ref 141]) rfl (fun _ => rfl) ?_
                                  refine pw_ld E (pc' := 167) (st' := [.ref 141, .ref 141]) rfl (fun _ => rfl) ?_
                                  refine pw_getI2 h170I E (c := 125) (k := 7) (pc' := 170) rfl rfl rfl rfl rfl rfl (fun hf172a hf172b => ?_)
                                  refine pw_ld E (pc' := 171) (st' := [pw_i 1, pw_i (pw_g h170 125 7), .ref 141]) rfl (fun _ => rfl) ?_
                                  refine pw_add E (pc' := 172) rfl rfl ?_
                                  refine pw_putI h170I E (c := 125) (k := 7) (pc' := 175) rfl rfl rfl rfl (by omega) (by omega) (by omega) (by omega) rfl rfl ?_
                                  intro h173I h173E
                                  generalize h173w : pw_w h170 125 7 (pw_i ((pw_g h170 125 7) + 1)) = h173 at h173I h173E ⊢
                                  have h173F := h170F.tr (h173E.wk (W' := [125, 146, 147]) (by first | rfl | simp))
                                  have h1737 : pw_g h173 125 7 = pw_g h170 125 7 + 1 := by rw [← h173w]; exact pw_g_eq (c := 125) (k := 7) h170I rfl rfl (by omega) (by omega)
                                  have h1738 : pw_g h173 125 8 = pw_g h170 125 8 := by rw [← h173w]; exact pw_g_ne (by omega)
                                  have h17332 : pw_g h173 125 32 = pw_g h170 125 32 := by rw [← h173w]; exact pw_g_ne (by omega)
                                  have h17345 : pw_g h173 125 45 = pw_g h170 125 45 := by rw [← h173w]; exact pw_g_ne (by omega)
                                  have tAw : pw_A n h173 := ⟨hn1, by rw [pw_Eg (c := 127) h170I h173E rfl rfl]; exact tAec.2.1, by omega, by omega, by omega, by omega⟩
                                  have tTw : pt_TK K V P wr h173 := pt_TK.E h170I h173E tTec rfl (by omega)
                                  have hC4 := pt_CD.E h170I h173E hCe rfl (by omega)
                                  refine pw_vret E rfl ?_
                                  exact ⟨h173I, h173F, ⟨tTw, Or.inr ⟨by omega, _, hC4, by rw [show pw_g h173 125 7 = pw_g h 125 7 + 1 by omega]; exact pt_MR.one (by omega) hes⟩⟩, rfl⟩
                                · intro hc174
                                  change ¬ ((0 : Int) = (0 : Int)) at hc174
                                  exfalso; omega
                              · intro hc175
                                change ¬ ((0 : Int) = (0 : Int)) at hc175
                                exfalso; omega
                            · intro hc176
                              change ¬ (x155 = (0 : Int)) at hc176
                              exfalso; omega
                        · intro hc177
                          change ¬ (x140 = (0 : Int)) at hc177
                          exfalso; omega
                    · intro hc178
                      change ¬ (pw_g h 125 8 ≤ (0 : Int)) at hc178
                      exfalso; omega
                  · intro hc179
                    change ¬ (dp ≠ (5 : Int)) at hc179
                    refine pw_ld E (pc' := 72) (st' := [.ref 141]) rfl (fun _ => rfl) ?_
                    refine pw_ld E (pc' := 73) (st' := [pw_i 5, .ref 141]) rfl (fun _ => rfl) ?_
                    obtain ⟨f180l, f180h, -⟩ := pw_obj (c := 125) I rfl
                    refine pw_call (m' := 245) (As := [.ref 141, pw_i 5]) (rest := []) (ls'' := [some (.ref 141), some (pw_i 5)]) (by omega) E rfl (fun _ => pw_iV rfl rfl rfl rfl (pw_cellI f180h rfl)) (rfl : pm_ent 245 = some (2, 2, 12, 4, pmc_245)) rfl rfl (cm_245_t (by omega) I (5) (by omega) (by omega)) ?_
                    rintro h181 v182 ⟨h181I, h181E, hqwr, rfl⟩
                    refine ⟨_, rfl, ?_⟩
                    have h181F := E0.tr (h181E.wk (W' := [125, 146, 147]) (by first | rfl | simp))
                    show pw X d h181 252 76 [some (.ref 141), some (pw_i dp), some (pw_i x6), some (pw_i 0)] [] _
                    have hwf := hqwr.1 hp4
                    have hpl := pw_gA (c := 128) (j := pw_g h 125 7) I rfl (by decide) (by omega) (by omega)
                    rw [hp2.2.2.1] at hwf hpl
                    have tAx : pw_A n h181 := ⟨hn1, by rw [pw_Eg (c := 127) I h181E rfl rfl]; exact hp0.2.1, by omega, by omega, by omega, by omega⟩
                    have tTx : pt_TK K V P wr h181 := pt_TK.E I h181E hp2 rfl (by omega)
                    have hes := pt_eoD (F := pt_FF wr) (S := S) (d := dp) (o := o) (c := c) hbg (by omega)
                    have hMF : pt_MF (pt_FF wr) K V P (pw_g h 125 7) (0, S, dp, o, c) (pw_g h181 125 8) := pt_MF.one (by omega) (by omega) hes (by decide) (by decide) hwf
                    have hf0 : pw_g h181 125 8 ≠ 0 := by have := pw_gA (c := 128) (j := pw_g h 125 7) I rfl (by decide) (by omega) (by omega); rw [hp2.2.2.1] at this; omega
                    refine pw_ld E (pc' := 77) (st' := [.ref 141]) rfl (fun _ => rfl) ?_
                    refine pw_getI2 h181I E (c := 125) (k := 8) (pc' := 80) rfl rfl rfl rfl rfl rfl (fun hf183a hf183b => ?_)
                    refine pw_if E (pc' := 84) rfl (by decide) (by omega) (by omega) ?_ ?_
                    · intro hc184
                      change pw_g h181 125 8 ≤ (0 : Int) at hc184
                      exfalso; omega
                    · intro hc185
                      change ¬ (pw_g h181 125 8 ≤ (0 : Int)) at hc185
                      refine pw_vret E rfl ?_
                      exact ⟨h181I, h181F, ⟨tTx, Or.inl ⟨hf0, hMF⟩⟩, rfl⟩
                · intro hc186
                  change ¬ (x131 ≠ (0 : Int)) at hc186
                  exfalso; omega
              · skip
                refine pw_if E (pc' := 66) rfl (by decide) (by omega) (by omega) ?_ ?_
                · intro hc188
                  change x131 ≠ (0 : Int) at hc188
                  exfalso; omega
                · intro hc189
                  change ¬ (x131 ≠ (0 : Int)) at hc189
                  refine pw_ld E (pc' := 59) (st' := [.ref 141]) rfl (fun _ => rfl) ?_
                  refine pw_ld E (pc' := 60) (st' := [pw_i 1, .ref 141]) rfl (fun _ => rfl) ?_
                  obtain ⟨f190l, f190h, -⟩ := pw_obj (c := 125) I rfl
                  refine pw_call (m' := 245) (As := [.ref 141, pw_i 1]) (rest := []) (ls'' := [some (.ref 141), some (pw_i 1)]) (by omega) E rfl (fun _ => pw_iV rfl rfl rfl rfl (pw_cellI f190h rfl)) (rfl : pm_ent 245 = some (2, 2, 12, 4, pmc_245)) rfl rfl (cm_245_t (by omega) I (1) (by omega) (by omega)) ?_
                  rintro h191 v192 ⟨h191I, h191E, hqwr, rfl⟩
                  refine ⟨_, rfl, ?_⟩
                  have h191F := E0.tr (h191E.wk (W' := [125, 146, 147]) (by first | rfl | simp))
                  show pw X d h191 252 63 [some (.ref 141), some (pw_i dp), some (pw_i x6), some (pw_i 0)] [] _
                  refine pw_goto E (pc' := 76) rfl (by decide) ?_
                  have hwf := hqwr.1 hp4
                  have hpl := pw_gA (c := 128) (j := pw_g h 125 7) I rfl (by decide) (by omega) (by omega)
                  rw [hp2.2.2.1] at hwf hpl
                  have tAx : pw_A n h191 := ⟨hn1, by rw [pw_Eg (c := 127) I h191E rfl rfl]; exact hp0.2.1, by omega, by omega, by omega, by omega⟩
                  have tTx : pt_TK K V P wr h191 := pt_TK.E I h191E hp2 rfl (by omega)
                  have s40 := pt_sgI hp2 (ch := 40) (by decide) (by decide)
                  have s7 := pt_wdI hp2 (w := 7) (by decide) (by decide)
                  rw [← hx69r.1] at s40
                  rw [← hx131r.1] at s7
                  have s40 := (s40.resolve_left (fun q => by have := q.1; omega)).2
                  have s7 := (s7.resolve_left (fun q => by have := q.1; omega)).2
                  have hes := pt_eoW (F := pt_FF wr) (K := K (pw_g h 125 7).toNat) (V := V (pw_g h 125 7).toNat) (S := S) (d := dp) (o := o) (c := c) (by omega) (fun q => s40 ⟨hp4, q.1, q.2⟩) (fun q => s7 ⟨hp4, q.1, q.2⟩) (fun q => by have z := oF ⟨hp4, q⟩; have z2 := pt_FFB (wr := wr) (V := V (pw_g h 125 7).toNat); omega)
                  have hMF : pt_MF (pt_FF wr) K V P (pw_g h 125 7) (0, S, dp, o, c) (pw_g h191 125 8) := pt_MF.one (by omega) (by omega) hes (by decide) (by decide) hwf
                  have hf0 : pw_g h191 125 8 ≠ 0 := by have := pw_gA (c := 128) (j := pw_g h 125 7) I rfl (by decide) (by omega) (by omega); rw [hp2.2.2.1] at this; omega
                  refine pw_ld E (pc' := 77) (st' := [.ref 141]) rfl (fun _ => rfl) ?_
                  refine pw_getI2 h191I E (c := 125) (k := 8) (pc' := 80) rfl rfl rfl rfl rfl rfl (fun hf193a hf193b => ?_)
                  refine pw_if E (pc' := 84) rfl (by decide) (by omega) (by omega) ?_ ?_
                  · intro hc194
                    change pw_g h191 125 8 ≤ (0 : Int) at hc194
                    exfalso; omega
                  · intro hc195
                    change ¬ (pw_g h191 125 8 ≤ (0 : Int)) at hc195
                    refine pw_vret E rfl ?_
                    exact ⟨h191I, h191F, ⟨tTx, Or.inl ⟨hf0, hMF⟩⟩, rfl⟩
    · intro hc196
      change ¬ (pw_g h 127 ((pw_g h 125 7).toNat) ≠ (2 : Int)) at hc196
      refine pw_ld E (pc' := 27) (st' := [pw_i 1]) rfl (fun _ => rfl) ?_
      refine pw_goto E (pc' := 31) rfl (by decide) ?_
      have hK : pw_g h 127 (pw_g h 125 7).toNat = K (pw_g h 125 7).toNat := by rw [hp2.1]
      refine pw_istn E (pc' := 32) (ls' := [some (.ref 141), some (pw_i dp), some (pw_i x6), some (pw_i 1)]) rfl rfl rfl rfl ?_
      refine pw_ld E (pc' := 33) (st' := [pw_i x6]) rfl (fun _ => rfl) ?_
      refine pw_if E (pc' := 66) rfl (by decide) (by omega) (by omega) ?_ ?_
      · intro hc197
        change (0 : Int) ≤ x6 at hc197
        have hbg : (K (pw_g h 125 7).toNat = 1 ∧ (V (pw_g h 125 7).toNat = 19741 ∨ 0 ≤ pt_FF wr (V (pw_g h 125 7).toNat))) ∨ (K (pw_g h 125 7).toNat = 3 ∧ V (pw_g h 125 7).toNat = 40) ∨ K (pw_g h 125 7).toNat = 2 := Or.inr (Or.inr (by omega))
        refine pw_ld E (pc' := 67) (st' := [pw_i dp]) rfl (fun _ => rfl) ?_
        refine pw_ld E (pc' := 68) (st' := [pw_i 5, pw_i dp]) rfl (fun _ => rfl) ?_
        refine pw_if2 E (pc' := 76) rfl (by decide) (by omega) (by omega) (by decide) (by decide) ?_ ?_
        · intro hc198
          change dp ≠ (5 : Int) at hc198
          refine pw_ld E (pc' := 77) (st' := [.ref 141]) rfl (fun _ => rfl) ?_
          refine pw_getI2 I E (c := 125) (k := 8) (pc' := 80) rfl rfl rfl rfl rfl rfl (fun hf199a hf199b => ?_)
          refine pw_if E (pc' := 84) rfl (by decide) (by omega) (by omega) ?_ ?_
          · intro hc200
            change pw_g h 125 8 ≤ (0 : Int) at hc200
            refine pw_ld E (pc' := 85) (st' := [.ref 141]) rfl (fun _ => rfl) ?_
            refine pw_bip E (pc' := 87) rfl rfl (by decide) ?_
            obtain ⟨f201l, f201h, -⟩ := pw_obj (c := 125) I rfl
            refine pw_call (m' := 247) (As := [.ref 141, pw_i 7]) (rest := []) (ls'' := [some (.ref 141), some (pw_i 7), none]) (by omega) E rfl (fun _ => pw_iV rfl rfl rfl rfl (pw_cellI f201h rfl)) (rfl : pm_ent 247 = some (2, 3, 12, 1, pmc_247)) rfl rfl (cm_247_t (by omega) I (7) (by omega) (by omega) (by omega)) ?_
            rintro h202 v203 ⟨h202I, h202E, x204, rfl, hx204a, hx204b, hx204r⟩
            refine ⟨_, rfl, ?_⟩
            have h202F := E0.tr (h202E.wk (W' := [125, 146, 147]) (by first | rfl | simp))
            show pw X d h202 252 90 [some (.ref 141), some (pw_i dp), some (pw_i x6), some (pw_i 1)] [pw_i x204] _
            change x204 = pw_wd h 7 ∧ pw_g h202 125 7 = pw_g h 125 7 + x204 ∧ pw_g h202 125 8 = pw_g h 125 8 ∧ pw_g h202 125 32 = pw_g h 125 32 ∧ pw_g h202 125 45 = pw_g h 125 45 at hx204r
            rcases (by omega : x204 = 1 ∨ x204 = 0) with hb205 | hb205
            · skip
              have w7 := pt_wdI hp2 (w := 7) (by decide) (by decide)
              rw [← hx204r.1] at w7
              obtain ⟨-, -, zk, zv⟩ := w7.resolve_right (fun q => by have := q.1; omega)
              have hlt := pw_A.lt hp0 (by rw [hp2.1, zk]; decide)
              have tAd : pw_A n h202 := ⟨hn1, by rw [pw_Eg (c := 127) I h202E rfl rfl]; exact hp0.2.1, by omega, by omega, by omega, by omega⟩
              have tTd : pt_TK K V P wr h202 := pt_TK.E I h202E hp2 rfl (by omega)
              have hM1 : pt_MR (pt_FF wr) K V (pw_g h 125 7) (pw_g h202 125 7) (0, S, dp, o, c) (0, 8 :: S, dp + 1, o, c) := by rw [show pw_g h202 125 7 = pw_g h 125 7 + 1 by omega]; exact pt_MR.one (by omega) (pt_eoN zk zv (by omega))
              have hC1 := pt_CD.E I h202E hp6 rfl (by omega)
              refine pw_if E (pc' := 109) rfl (by decide) (by omega) (by omega) ?_ ?_
              · intro hc206
                change x204 = (0 : Int) at hc206
                exfalso; omega
              · intro hc207
                change ¬ (x204 = (0 : Int)) at hc207
                refine pw_ld E (pc' := 94) (st' := [.ref 141]) rfl (fun _ => rfl) ?_
                refine pw_ld E (pc' := 95) (st' := [pw_i dp, .ref 141]) rfl (fun _ => rfl) ?_
                refine pw_ld E (pc' := 96) (st' := [pw_i 1, pw_i dp, .ref 141]) rfl (fun _ => rfl) ?_
                refine pw_add E (pc' := 97) rfl rfl ?_
                obtain ⟨f208l, f208h, -⟩ := pw_obj (c := 125) h202I rfl
                refine pw_call (m' := 252) (As := [.ref 141, pw_i (dp + 1)]) (rest := []) (ls'' := [some (.ref 141), some (pw_i (dp + 1)), none, none]) (by omega) E rfl (fun _ => pw_iV rfl rfl rfl rfl (pw_cellI f208h rfl)) (rfl : pm_ent 252 = some (2, 4, 12, 4, pmc_252)) rfl rfl (pw_and (pt_S252 (dp := dp + 1) (by omega) (by omega) (by omega) h202I tAd (by omega)) ((hR (by omega)).1 n K V P wr (8 :: S) (o) b (c) (by omega) h202I tAd (by omega) tTd hp3 (by omega) (by omega) hC1)) ?_
                rintro h209 v210 ⟨⟨h209I, h209E, ⟨tAb, tRb⟩, rfl⟩, ⟨-, -, ⟨tTb, tMb⟩, -⟩⟩
                refine ⟨_, rfl, ?_⟩
                have h209F := h202F.tr (h209E.wk (W' := [125, 146, 147]) (by first | rfl | simp))
                show pw X d h209 252 100 [some (.ref 141), some (pw_i dp), some (pw_i x6), some (pw_i 1)] [] _
                have tBb := tAb.2.2
                have tCb := tRb.1.2.2.2.1
                have tDb := tRb.1.2.1
                refine pw_ld E (pc' := 101) (st' := [.ref 141]) rfl (fun _ => rfl) ?_
                refine pw_ld E (pc' := 102) (st' := [pw_i 3, .ref 141]) rfl (fun _ => rfl) ?_
                refine pw_ld E (pc' := 103) (st' := [pw_i 0, pw_i 3, .ref 141]) rfl (fun _ => rfl) ?_
                obtain ⟨f211l, f211h, -⟩ := pw_obj (c := 125) h209I rfl
                refine pw_call (m' := 255) (As := [.ref 141, pw_i 3, pw_i 0]) (rest := []) (ls'' := [some (.ref 141), some (pw_i 3), some (pw_i 0)]) (by omega) E rfl (fun _ => pw_iV rfl rfl rfl rfl (pw_cellI f211h rfl)) (rfl : pm_ent 255 = some (3, 3, 12, 4, pmc_255)) rfl rfl (cm_255_t (by omega) h209I (3) (by omega) (by omega) (0) (by omega) (by omega) (by omega)) ?_
                rintro h212 v213 ⟨h212I, h212E, hqem, rfl⟩
                refine ⟨_, rfl, ?_⟩
                have h212F := h209F.tr (h212E.wk (W' := [125, 146, 147]) (by first | rfl | simp))
                show pw X d h212 252 106 [some (.ref 141), some (pw_i dp), some (pw_i x6), some (pw_i 1)] [] _
                have tEc := hqem.1
                have tE7 := tEc.1
                have tE8 := tEc.2.1
                have tE32 := tEc.2.2.1
                have tE45 := hqem.2
                have tAec : pw_A n h212 := ⟨hn1, by rw [pw_Eg (c := 127) h209I h212E rfl rfl]; exact tAb.2.1, by omega, by omega, by omega, by omega⟩
                have tTec : pt_TK K V P wr h212 := pt_TK.E h209I h212E tTb rfl (by omega)
                have hPT : pt_PT (pt_FF wr) K V P S dp o b c h h212 := by
                  rcases tMb with ⟨z, f⟩ | ⟨z, c3, k3, m3⟩
                  · exact Or.inl ⟨by omega, by rw [tE8]; exact pt_MF.tr hM1 f⟩
                  · refine Or.inr ⟨by omega, _, pt_CD.em k3 tEc (Or.inr (Or.inr (Or.inl ⟨rfl, rfl⟩))), ?_⟩
                    rw [tE7]
                    rw [pt_fin_8] at m3
                    exact hM1.tr m3
                refine pw_goto E (pc' := 175) rfl (by decide) ?_
                refine pw_vret E rfl ?_
                exact ⟨h212I, h212F, ⟨tTec, hPT⟩, rfl⟩
            · skip
              have w7 := pt_wdI hp2 (w := 7) (by decide) (by decide)
              rw [← hx204r.1] at w7
              have n7 := (w7.resolve_left (fun q => by have := q.1; omega)).2
              have tAd : pw_A n h202 := ⟨hn1, by rw [pw_Eg (c := 127) I h202E rfl rfl]; exact hp0.2.1, by omega, by omega, by omega, by omega⟩
              have tTd : pt_TK K V P wr h202 := pt_TK.E I h202E hp2 rfl (by omega)
              have e7d : pw_g h202 125 7 = pw_g h 125 7 := by omega
              refine pw_if E (pc' := 109) rfl (by decide) (by omega) (by omega) ?_ ?_
              · intro hc215
                change x204 = (0 : Int) at hc215
                refine pw_ld E (pc' := 110) (st' := [.ref 141]) rfl (fun _ => rfl) ?_
                refine pw_bip E (pc' := 112) rfl rfl (by decide) ?_
                obtain ⟨f216l, f216h, -⟩ := pw_obj (c := 125) h202I rfl
                refine pw_call (m' := 256) (As := [.ref 141, pw_i 40]) (rest := []) (ls'' := [some (.ref 141), some (pw_i 40), none]) (by omega) E rfl (fun _ => pw_iV rfl rfl rfl rfl (pw_cellI f216h rfl)) (rfl : pm_ent 256 = some (2, 3, 12, 1, pmc_256)) rfl rfl (cm_256_t (by omega) h202I (40) (by omega) (by omega) (by omega)) ?_
                rintro h217 v218 ⟨h217I, h217E, x219, rfl, hx219a, hx219b, hx219r⟩
                refine ⟨_, rfl, ?_⟩
                have h217F := h202F.tr (h217E.wk (W' := [125, 146, 147]) (by first | rfl | simp))
                show pw X d h217 252 115 [some (.ref 141), some (pw_i dp), some (pw_i x6), some (pw_i 1)] [pw_i x219] _
                change x219 = pw_sg h202 40 ∧ pw_g h217 125 7 = pw_g h202 125 7 + x219 ∧ pw_g h217 125 8 = pw_g h202 125 8 ∧ pw_g h217 125 32 = pw_g h202 125 32 ∧ pw_g h217 125 45 = pw_g h202 125 45 at hx219r
                rcases (by omega : x219 = 1 ∨ x219 = 0) with hb220 | hb220
                · skip
                  have w40 := pt_sgI tTd (ch := 40) (by decide) (by decide)
                  rw [← hx219r.1, e7d] at w40
                  obtain ⟨-, -, zk, zv⟩ := w40.resolve_right (fun q => by have := q.1; omega)
                  have hlt := pw_A.lt hp0 (by rw [hp2.1, zk]; decide)
                  have tAf : pw_A n h217 := ⟨hn1, by rw [pw_Eg (c := 127) h202I h217E rfl rfl]; exact tAd.2.1, by omega, by omega, by omega, by omega⟩
                  have tTf : pt_TK K V P wr h217 := pt_TK.E h202I h217E tTd rfl (by omega)
                  have hM1 : pt_MR (pt_FF wr) K V (pw_g h 125 7) (pw_g h217 125 7) (0, S, dp, o, c) (0, 9 :: S, dp + 1, o + 1, c) := by rw [show pw_g h217 125 7 = pw_g h 125 7 + 1 by omega]; exact pt_MR.one (by omega) (pt_eoB zk zv (by omega))
                  have hC0 := pt_CD.E I h202E hp6 rfl (by omega)
                  have hC1 := pt_CD.E h202I h217E hC0 rfl (by omega)
                  refine pw_if E (pc' := 134) rfl (by decide) (by omega) (by omega) ?_ ?_
                  · intro hc221
                    change x219 = (0 : Int) at hc221
                    exfalso; omega
                  · intro hc222
                    change ¬ (x219 = (0 : Int)) at hc222
                    refine pw_ld E (pc' := 119) (st' := [.ref 141]) rfl (fun _ => rfl) ?_
                    refine pw_ld E (pc' := 120) (st' := [pw_i dp, .ref 141]) rfl (fun _ => rfl) ?_
                    refine pw_ld E (pc' := 121) (st' := [pw_i 1, pw_i dp, .ref 141]) rfl (fun _ => rfl) ?_
                    refine pw_add E (pc' := 122) rfl rfl ?_
                    obtain ⟨f223l, f223h, -⟩ := pw_obj (c := 125) h217I rfl
                    refine pw_call (m' := 248) (As := [.ref 141, pw_i (dp + 1)]) (rest := []) (ls'' := [some (.ref 141), some (pw_i (dp + 1)), none]) (by omega) E rfl (fun _ => pw_iV rfl rfl rfl rfl (pw_cellI f223h rfl)) (rfl : pm_ent 248 = some (2, 3, 12, 4, pmc_248)) rfl rfl (pw_and (pt_S248 (dp := dp + 1) (by omega) (by omega) (by omega) h217I tAf (by omega)) ((hR (by omega)).2 n K V P wr (9 :: S) (o + 1) b (c) (by omega) h217I tAf (by omega) tTf hp3 (by omega) (by omega) hC1 (pt_n81 (by decide)) (by rw [pt_tr1, pt_rk9]; decide))) ?_
                    rintro h224 v225 ⟨⟨h224I, h224E, ⟨tAb, tRb⟩, rfl⟩, ⟨-, -, ⟨tTb, tMb⟩, -⟩⟩
                    refine ⟨_, rfl, ?_⟩
                    have h224F := h217F.tr (h224E.wk (W' := [125, 146, 147]) (by first | rfl | simp))
                    show pw X d h224 252 125 [some (.ref 141), some (pw_i dp), some (pw_i x6), some (pw_i 1)] [] _
                    have tBb := tAb.2.2
                    have tCb := tRb.1.2.2.2.1
                    have tDb := tRb.1.2.1
                    refine pw_ld E (pc' := 126) (st' := [.ref 141]) rfl (fun _ => rfl) ?_
                    refine pw_bip E (pc' := 128) rfl rfl (by decide) ?_
                    obtain ⟨f226l, f226h, -⟩ := pw_obj (c := 125) h224I rfl
                    refine pw_call (m' := 257) (As := [.ref 141, pw_i 41]) (rest := []) (ls'' := [some (.ref 141), some (pw_i 41)]) (by omega) E rfl (fun _ => pw_iV rfl rfl rfl rfl (pw_cellI f226h rfl)) (rfl : pm_ent 257 = some (2, 2, 12, 4, pmc_257)) rfl rfl (cm_257_t (by omega) h224I (41) (by omega) (by omega) (by omega)) ?_
                    rintro h227 v228 ⟨h227I, h227E, hqtk, rfl⟩
                    refine ⟨_, rfl, ?_⟩
                    have h227F := h224F.tr (h227E.wk (W' := [125, 146, 147]) (by first | rfl | simp))
                    show pw X d h227 252 131 [some (.ref 141), some (pw_i dp), some (pw_i x6), some (pw_i 1)] [] _
                    have w41 := pt_sgI tTb (ch := 41) (by decide) (by decide)
                    have k8 := tTb.2.2.1
                    have hlt2 : pw_sg h224 41 = 1 → pw_g h224 125 7 < n := fun q => pw_A.lt tAb (by rw [tTb.1, (w41.resolve_right (fun z => by have := z.1; omega)).2.2.1]; decide)
                    have hpk := pw_gA (c := 128) (j := pw_g h224 125 7) h224I rfl (by decide) (by omega) (by omega)
                    have tAk : pw_A n h227 := ⟨hn1, by rw [pw_Eg (c := 127) h224I h227E rfl rfl]; exact tAb.2.1, by omega, by omega, by omega, by omega⟩
                    have tTk : pt_TK K V P wr h227 := pt_TK.E h224I h227E tTb rfl (by omega)
                    have hPT : pt_PT (pt_FF wr) K V P S dp o b c h h227 := by
                      have hplace := pw_gA (c := 128) (j := pw_g h224 125 7) h224I rfl (by decide) (by omega) (by omega)
                      rw [k8] at hplace hqtk
                      rcases tMb with ⟨z, f⟩ | ⟨z, c3, k3, m3⟩
                      · have hn : pw_sg h224 41 ≠ 1 := fun q => z (w41.resolve_right (fun y => by have := y.1; omega)).2.1
                        have e8 := (hqtk.2.1 hn).2.2 z
                        exact Or.inl ⟨by omega, by rw [e8]; exact pt_MF.tr hM1 f⟩
                      · rcases w41 with ⟨y1, -, yk, yv⟩ | ⟨y0, yn⟩
                        · obtain ⟨e7, e8⟩ := hqtk.1 y1
                          refine Or.inr ⟨by omega, c3, k3.E h224I h227E rfl (by omega), ?_⟩
                          rw [e7]
                          exact hM1.tr (pt_GG.close m3 (by omega) yk yv)
                        · obtain ⟨e7, e8, -⟩ := hqtk.2.1 (by omega)
                          have e8 := e8 z
                          exact Or.inl ⟨by omega, pt_MF.tr hM1 (pt_GG.noclose m3 (by omega) (by omega) (fun q => yn ⟨z, q.1, q.2⟩) e8)⟩
                    refine pw_goto E (pc' := 175) rfl (by decide) ?_
                    refine pw_vret E rfl ?_
                    exact ⟨h227I, h227F, ⟨tTk, hPT⟩, rfl⟩
                · skip
                  have w40 := pt_sgI tTd (ch := 40) (by decide) (by decide)
                  rw [← hx219r.1, e7d] at w40
                  have n40 := (w40.resolve_left (fun q => by have := q.1; omega)).2
                  have tAg : pw_A n h217 := ⟨hn1, by rw [pw_Eg (c := 127) h202I h217E rfl rfl]; exact tAd.2.1, by omega, by omega, by omega, by omega⟩
                  have tTg : pt_TK K V P wr h217 := pt_TK.E h202I h217E tTd rfl (by omega)
                  have e7g : pw_g h217 125 7 = pw_g h 125 7 := by omega
                  have hC0 := pt_CD.E I h202E hp6 rfl (by omega)
                  have hC1 := pt_CD.E h202I h217E hC0 rfl (by omega)
                  refine pw_if E (pc' := 134) rfl (by decide) (by omega) (by omega) ?_ ?_
                  · intro hc230
                    change x219 = (0 : Int) at hc230
                    refine pw_ld E (pc' := 135) (st' := [.ref 141]) rfl (fun _ => rfl) ?_
                    refine pw_ld E (pc' := 136) (st' := [pw_i 1, .ref 141]) rfl (fun _ => rfl) ?_
                    refine pw_if E (pc' := 143) rfl (by decide) (by decide) (by decide) ?_ ?_
                    · intro hc231
                      change (1 : Int) = (0 : Int) at hc231
                      exfalso; omega
                    · intro hc232
                      change ¬ ((1 : Int) = (0 : Int)) at hc232
                      refine pw_ld E (pc' := 140) (st' := [pw_i 1, .ref 141]) rfl (fun _ => rfl) ?_
                      refine pw_goto E (pc' := 144) rfl (by decide) ?_
                      refine pw_ld E (pc' := 145) (st' := [pw_i 1, pw_i 1, .ref 141]) rfl (fun _ => rfl) ?_
                      refine pw_if E (pc' := 161) rfl (by decide) (by decide) (by decide) ?_ ?_
                      · intro hc233
                        change (1 : Int) = (0 : Int) at hc233
                        exfalso; omega
                      · intro hc234
                        change ¬ ((1 : Int) = (0 : Int)) at hc234
                        refine pw_ld E (pc' := 149) (st' := [.ref 141, pw_i 1, .ref 141]) rfl (fun _ => rfl) ?_
                        refine pw_getR (b := 145) h217I E (c := 125) (k := 6) (pc' := 152) rfl rfl rfl rfl rfl rfl rfl ?_
                        refine pw_ld E (pc' := 153) (st' := [.ref 141, .ref 145, pw_i 1, .ref 141]) rfl (fun _ => rfl) ?_
                        refine pw_getI2 h217I E (c := 125) (k := 7) (pc' := 156) rfl rfl rfl rfl rfl rfl (fun hf235a hf235b => ?_)
                        refine pw_laldM h217I E (c := 129) (pc' := 157) rfl rfl rfl (by decide) (by omega) (by omega) rfl ?_
                        refine pw_l2iC E (pc' := 158) rfl rfl ?_
                        refine pw_goto E (pc' := 162) rfl (by decide) ?_
                        have hk2 : K (pw_g h 125 7).toNat = 2 := by omega
                        have hlt := pw_A.lt hp0 (by rw [hp2.1, hk2]; decide)
                        have hnv := hp3 _ (by omega) hk2
                        have hval : pw_gm h217 129 ((pw_g h217 125 7).toNat) = V (pw_g h 125 7).toNat := by rw [tTg.2.1, e7g]
                        have hes := pt_eoV (F := pt_FF wr) (S := S) (d := dp) (o := o) (c := c) hk2 (V := V (pw_g h 125 7).toNat) (by omega)
                        obtain ⟨f236l, f236h, -⟩ := pw_obj (c := 125) h217I rfl
                        refine pw_call (m' := 255) (As := [.ref 141, pw_i 1, pw_i (pw_gm h217 129 ((pw_g h217 125 7).toNat))]) (rest := []) (ls'' := [some (.ref 141), some (pw_i 1), some (pw_i (pw_gm h217 129 ((pw_g h217 125 7).toNat)))]) (by omega) E rfl (fun _ => pw_iV rfl rfl rfl rfl (pw_cellI f236h rfl)) (rfl : pm_ent 255 = some (3, 3, 12, 4, pmc_255)) rfl rfl (cm_255_t (by omega) h217I (1) (by omega) (by omega) (pw_gm h217 129 ((pw_g h217 125 7).toNat)) (by omega) (by omega) (by omega)) ?_
                        rintro h237 v238 ⟨h237I, h237E, hqem, rfl⟩
                        refine ⟨_, rfl, ?_⟩
                        have h237F := h217F.tr (h237E.wk (W' := [125, 146, 147]) (by first | rfl | simp))
                        show pw X d h237 252 165 [some (.ref 141), some (pw_i dp), some (pw_i x6), some (pw_i 1)] [] _
                        have tEc := hqem.1
                        have tE7 := tEc.1
                        have tE8 := tEc.2.1
                        have tE32 := tEc.2.2.1
                        have tE45 := hqem.2
                        have tAec : pw_A n h237 := ⟨hn1, by rw [pw_Eg (c := 127) h217I h237E rfl rfl]; exact tAg.2.1, by omega, by omega, by omega, by omega⟩
                        have tTec : pt_TK K V P wr h237 := pt_TK.E h217I h237E tTg rfl (by omega)
                        have hCe : pt_CD h237 b (V (pw_g h 125 7).toNat :: c) := pt_CD.em hC1 tEc (Or.inl ⟨rfl, hval, by omega, by omega⟩)
                        refine pw_ld E (pc' := 166) (st' := [.ref 141]) rfl (fun _ => rfl) ?_
                        refine pw_ld E (pc' := 167) (st' := [.ref 141, .ref 141]) rfl (fun _ => rfl) ?_
                        refine pw_getI2 h237I E (c := 125) (k := 7) (pc' := 170) rfl rfl rfl rfl rfl rfl (fun hf239a hf239b => ?_)
                        refine pw_ld E (pc' := 171) (st' := [pw_i 1, pw_i (pw_g h237 125 7), .ref 141]) rfl (fun _ => rfl) ?_
                        refine pw_add E (pc' := 172) rfl rfl ?_
                        refine pw_putI h237I E (c := 125) (k := 7) (pc' := 175) rfl rfl rfl rfl (by omega) (by omega) (by omega) (by omega) rfl rfl ?_
                        intro h240I h240E
                        generalize h240w : pw_w h237 125 7 (pw_i ((pw_g h237 125 7) + 1)) = h240 at h240I h240E ⊢
                        have h240F := h237F.tr (h240E.wk (W' := [125, 146, 147]) (by first | rfl | simp))
                        have h2407 : pw_g h240 125 7 = pw_g h237 125 7 + 1 := by rw [← h240w]; exact pw_g_eq (c := 125) (k := 7) h237I rfl rfl (by omega) (by omega)
                        have h2408 : pw_g h240 125 8 = pw_g h237 125 8 := by rw [← h240w]; exact pw_g_ne (by omega)
                        have h24032 : pw_g h240 125 32 = pw_g h237 125 32 := by rw [← h240w]; exact pw_g_ne (by omega)
                        have h24045 : pw_g h240 125 45 = pw_g h237 125 45 := by rw [← h240w]; exact pw_g_ne (by omega)
                        have tAw : pw_A n h240 := ⟨hn1, by rw [pw_Eg (c := 127) h237I h240E rfl rfl]; exact tAec.2.1, by omega, by omega, by omega, by omega⟩
                        have tTw : pt_TK K V P wr h240 := pt_TK.E h237I h240E tTec rfl (by omega)
                        have hC4 := pt_CD.E h237I h240E hCe rfl (by omega)
                        refine pw_vret E rfl ?_
                        exact ⟨h240I, h240F, ⟨tTw, Or.inr ⟨by omega, _, hC4, by rw [show pw_g h240 125 7 = pw_g h 125 7 + 1 by omega]; exact pt_MR.one (by omega) hes⟩⟩, rfl⟩
                  · intro hc241
                    change ¬ (x219 = (0 : Int)) at hc241
                    exfalso; omega
              · intro hc242
                change ¬ (x204 = (0 : Int)) at hc242
                exfalso; omega
          · intro hc243
            change ¬ (pw_g h 125 8 ≤ (0 : Int)) at hc243
            exfalso; omega
        · intro hc244
          change ¬ (dp ≠ (5 : Int)) at hc244
          refine pw_ld E (pc' := 72) (st' := [.ref 141]) rfl (fun _ => rfl) ?_
          refine pw_ld E (pc' := 73) (st' := [pw_i 5, .ref 141]) rfl (fun _ => rfl) ?_
          obtain ⟨f245l, f245h, -⟩ := pw_obj (c := 125) I rfl
          refine pw_call (m' := 245) (As := [.ref 141, pw_i 5]) (rest := []) (ls'' := [some (.ref 141), some (pw_i 5)]) (by omega) E rfl (fun _ => pw_iV rfl rfl rfl rfl (pw_cellI f245h rfl)) (rfl : pm_ent 245 = some (2, 2, 12, 4, pmc_245)) rfl rfl (cm_245_t (by omega) I (5) (by omega) (by omega)) ?_
          rintro h246 v247 ⟨h246I, h246E, hqwr, rfl⟩
          refine ⟨_, rfl, ?_⟩
          have h246F := E0.tr (h246E.wk (W' := [125, 146, 147]) (by first | rfl | simp))
          show pw X d h246 252 76 [some (.ref 141), some (pw_i dp), some (pw_i x6), some (pw_i 1)] [] _
          have hwf := hqwr.1 hp4
          have hpl := pw_gA (c := 128) (j := pw_g h 125 7) I rfl (by decide) (by omega) (by omega)
          rw [hp2.2.2.1] at hwf hpl
          have tAx : pw_A n h246 := ⟨hn1, by rw [pw_Eg (c := 127) I h246E rfl rfl]; exact hp0.2.1, by omega, by omega, by omega, by omega⟩
          have tTx : pt_TK K V P wr h246 := pt_TK.E I h246E hp2 rfl (by omega)
          have hes := pt_eoD (F := pt_FF wr) (S := S) (d := dp) (o := o) (c := c) hbg (by omega)
          have hMF : pt_MF (pt_FF wr) K V P (pw_g h 125 7) (0, S, dp, o, c) (pw_g h246 125 8) := pt_MF.one (by omega) (by omega) hes (by decide) (by decide) hwf
          have hf0 : pw_g h246 125 8 ≠ 0 := by have := pw_gA (c := 128) (j := pw_g h 125 7) I rfl (by decide) (by omega) (by omega); rw [hp2.2.2.1] at this; omega
          refine pw_ld E (pc' := 77) (st' := [.ref 141]) rfl (fun _ => rfl) ?_
          refine pw_getI2 h246I E (c := 125) (k := 8) (pc' := 80) rfl rfl rfl rfl rfl rfl (fun hf248a hf248b => ?_)
          refine pw_if E (pc' := 84) rfl (by decide) (by omega) (by omega) ?_ ?_
          · intro hc249
            change pw_g h246 125 8 ≤ (0 : Int) at hc249
            exfalso; omega
          · intro hc250
            change ¬ (pw_g h246 125 8 ≤ (0 : Int)) at hc250
            refine pw_vret E rfl ?_
            exact ⟨h246I, h246F, ⟨tTx, Or.inl ⟨hf0, hMF⟩⟩, rfl⟩
      · intro hc251
        change ¬ ((0 : Int) ≤ x6) at hc251
        refine pw_ld E (pc' := 37) (st' := [pw_i 1]) rfl (fun _ => rfl) ?_
        refine pw_if E (pc' := 66) rfl (by decide) (by decide) (by decide) ?_ ?_
        · intro hc252
          change (1 : Int) ≠ (0 : Int) at hc252
          have hbg : (K (pw_g h 125 7).toNat = 1 ∧ (V (pw_g h 125 7).toNat = 19741 ∨ 0 ≤ pt_FF wr (V (pw_g h 125 7).toNat))) ∨ (K (pw_g h 125 7).toNat = 3 ∧ V (pw_g h 125 7).toNat = 40) ∨ K (pw_g h 125 7).toNat = 2 := Or.inr (Or.inr (by omega))
          refine pw_ld E (pc' := 67) (st' := [pw_i dp]) rfl (fun _ => rfl) ?_
          refine pw_ld E (pc' := 68) (st' := [pw_i 5, pw_i dp]) rfl (fun _ => rfl) ?_
          refine pw_if2 E (pc' := 76) rfl (by decide) (by omega) (by omega) (by decide) (by decide) ?_ ?_
          · intro hc253
            change dp ≠ (5 : Int) at hc253
            refine pw_ld E (pc' := 77) (st' := [.ref 141]) rfl (fun _ => rfl) ?_
            refine pw_getI2 I E (c := 125) (k := 8) (pc' := 80) rfl rfl rfl rfl rfl rfl (fun hf254a hf254b => ?_)
            refine pw_if E (pc' := 84) rfl (by decide) (by omega) (by omega) ?_ ?_
            · intro hc255
              change pw_g h 125 8 ≤ (0 : Int) at hc255
              refine pw_ld E (pc' := 85) (st' := [.ref 141]) rfl (fun _ => rfl) ?_
              refine pw_bip E (pc' := 87) rfl rfl (by decide) ?_
              obtain ⟨f256l, f256h, -⟩ := pw_obj (c := 125) I rfl
              refine pw_call (m' := 247) (As := [.ref 141, pw_i 7]) (rest := []) (ls'' := [some (.ref 141), some (pw_i 7), none]) (by omega) E rfl (fun _ => pw_iV rfl rfl rfl rfl (pw_cellI f256h rfl)) (rfl : pm_ent 247 = some (2, 3, 12, 1, pmc_247)) rfl rfl (cm_247_t (by omega) I (7) (by omega) (by omega) (by omega)) ?_
              rintro h257 v258 ⟨h257I, h257E, x259, rfl, hx259a, hx259b, hx259r⟩
              refine ⟨_, rfl, ?_⟩
              have h257F := E0.tr (h257E.wk (W' := [125, 146, 147]) (by first | rfl | simp))
              show pw X d h257 252 90 [some (.ref 141), some (pw_i dp), some (pw_i x6), some (pw_i 1)] [pw_i x259] _
              change x259 = pw_wd h 7 ∧ pw_g h257 125 7 = pw_g h 125 7 + x259 ∧ pw_g h257 125 8 = pw_g h 125 8 ∧ pw_g h257 125 32 = pw_g h 125 32 ∧ pw_g h257 125 45 = pw_g h 125 45 at hx259r
              rcases (by omega : x259 = 1 ∨ x259 = 0) with hb260 | hb260
              · skip
                have w7 := pt_wdI hp2 (w := 7) (by decide) (by decide)
                rw [← hx259r.1] at w7
                obtain ⟨-, -, zk, zv⟩ := w7.resolve_right (fun q => by have := q.1; omega)
                have hlt := pw_A.lt hp0 (by rw [hp2.1, zk]; decide)
                have tAd : pw_A n h257 := ⟨hn1, by rw [pw_Eg (c := 127) I h257E rfl rfl]; exact hp0.2.1, by omega, by omega, by omega, by omega⟩
                have tTd : pt_TK K V P wr h257 := pt_TK.E I h257E hp2 rfl (by omega)
                have hM1 : pt_MR (pt_FF wr) K V (pw_g h 125 7) (pw_g h257 125 7) (0, S, dp, o, c) (0, 8 :: S, dp + 1, o, c) := by rw [show pw_g h257 125 7 = pw_g h 125 7 + 1 by omega]; exact pt_MR.one (by omega) (pt_eoN zk zv (by omega))
                have hC1 := pt_CD.E I h257E hp6 rfl (by omega)
                refine pw_if E (pc' := 109) rfl (by decide) (by omega) (by omega) ?_ ?_
                · intro hc261
                  change x259 = (0 : Int) at hc261
                  exfalso; omega
                · intro hc262
                  change ¬ (x259 = (0 : Int)) at hc262
                  refine pw_ld E (pc' := 94) (st' := [.ref 141]) rfl (fun _ => rfl) ?_
                  refine pw_ld E (pc' := 95) (st' := [pw_i dp, .ref 141]) rfl (fun _ => rfl) ?_
                  refine pw_ld E (pc' := 96) (st' := [pw_i 1, pw_i dp, .ref 141]) rfl (fun _ => rfl) ?_
                  refine pw_add E (pc' := 97) rfl rfl ?_
                  obtain ⟨f263l, f263h, -⟩ := pw_obj (c := 125) h257I rfl
                  refine pw_call (m' := 252) (As := [.ref 141, pw_i (dp + 1)]) (rest := []) (ls'' := [some (.ref 141), some (pw_i (dp + 1)), none, none]) (by omega) E rfl (fun _ => pw_iV rfl rfl rfl rfl (pw_cellI f263h rfl)) (rfl : pm_ent 252 = some (2, 4, 12, 4, pmc_252)) rfl rfl (pw_and (pt_S252 (dp := dp + 1) (by omega) (by omega) (by omega) h257I tAd (by omega)) ((hR (by omega)).1 n K V P wr (8 :: S) (o) b (c) (by omega) h257I tAd (by omega) tTd hp3 (by omega) (by omega) hC1)) ?_
                  rintro h264 v265 ⟨⟨h264I, h264E, ⟨tAb, tRb⟩, rfl⟩, ⟨-, -, ⟨tTb, tMb⟩, -⟩⟩
                  refine ⟨_, rfl, ?_⟩
                  have h264F := h257F.tr (h264E.wk (W' := [125, 146, 147]) (by first | rfl | simp))
                  show pw X d h264 252 100 [some (.ref 141), some (pw_i dp), some (pw_i x6), some (pw_i 1)] [] _
                  have tBb := tAb.2.2
                  have tCb := tRb.1.2.2.2.1
                  have tDb := tRb.1.2.1
                  refine pw_ld E (pc' := 101) (st' := [.ref 141]) rfl (fun _ => rfl) ?_
                  refine pw_ld E (pc' := 102) (st' := [pw_i 3, .ref 141]) rfl (fun _ => rfl) ?_
                  refine pw_ld E (pc' := 103) (st' := [pw_i 0, pw_i 3, .ref 141]) rfl (fun _ => rfl) ?_
                  obtain ⟨f266l, f266h, -⟩ := pw_obj (c := 125) h264I rfl
                  refine pw_call (m' := 255) (As := [.ref 141, pw_i 3, pw_i 0]) (rest := []) (ls'' := [some (.ref 141), some (pw_i 3), some (pw_i 0)]) (by omega) E rfl (fun _ => pw_iV rfl rfl rfl rfl (pw_cellI f266h rfl)) (rfl : pm_ent 255 = some (3, 3, 12, 4, pmc_255)) rfl rfl (cm_255_t (by omega) h264I (3) (by omega) (by omega) (0) (by omega) (by omega) (by omega)) ?_
                  rintro h267 v268 ⟨h267I, h267E, hqem, rfl⟩
                  refine ⟨_, rfl, ?_⟩
                  have h267F := h264F.tr (h267E.wk (W' := [125, 146, 147]) (by first | rfl | simp))
                  show pw X d h267 252 106 [some (.ref 141), some (pw_i dp), some (pw_i x6), some (pw_i 1)] [] _
                  have tEc := hqem.1
                  have tE7 := tEc.1
                  have tE8 := tEc.2.1
                  have tE32 := tEc.2.2.1
                  have tE45 := hqem.2
                  have tAec : pw_A n h267 := ⟨hn1, by rw [pw_Eg (c := 127) h264I h267E rfl rfl]; exact tAb.2.1, by omega, by omega, by omega, by omega⟩
                  have tTec : pt_TK K V P wr h267 := pt_TK.E h264I h267E tTb rfl (by omega)
                  have hPT : pt_PT (pt_FF wr) K V P S dp o b c h h267 := by
                    rcases tMb with ⟨z, f⟩ | ⟨z, c3, k3, m3⟩
                    · exact Or.inl ⟨by omega, by rw [tE8]; exact pt_MF.tr hM1 f⟩
                    · refine Or.inr ⟨by omega, _, pt_CD.em k3 tEc (Or.inr (Or.inr (Or.inl ⟨rfl, rfl⟩))), ?_⟩
                      rw [tE7]
                      rw [pt_fin_8] at m3
                      exact hM1.tr m3
                  refine pw_goto E (pc' := 175) rfl (by decide) ?_
                  refine pw_vret E rfl ?_
                  exact ⟨h267I, h267F, ⟨tTec, hPT⟩, rfl⟩
              · skip
                have w7 := pt_wdI hp2 (w := 7) (by decide) (by decide)
                rw [← hx259r.1] at w7
                have n7 := (w7.resolve_left (fun q => by have := q.1; omega)).2
                have tAd : pw_A n h257 := ⟨hn1, by rw [pw_Eg (c := 127) I h257E rfl rfl]; exact hp0.2.1, by omega, by omega, by omega, by omega⟩
                have tTd : pt_TK K V P wr h257 := pt_TK.E I h257E hp2 rfl (by omega)
                have e7d : pw_g h257 125 7 = pw_g h 125 7 := by omega
                refine pw_if E (pc' := 109) rfl (by decide) (by omega) (by omega) ?_ ?_
                · intro hc270
                  change x259 = (0 : Int) at hc270
                  refine pw_ld E (pc' := 110) (st' := [.ref 141]) rfl (fun _ => rfl) ?_
                  refine pw_bip E (pc' := 112) rfl rfl (by decide) ?_
                  obtain ⟨f271l, f271h, -⟩ := pw_obj (c := 125) h257I rfl
                  refine pw_call (m' := 256) (As := [.ref 141, pw_i 40]) (rest := []) (ls'' := [some (.ref 141), some (pw_i 40), none]) (by omega) E rfl (fun _ => pw_iV rfl rfl rfl rfl (pw_cellI f271h rfl)) (rfl : pm_ent 256 = some (2, 3, 12, 1, pmc_256)) rfl rfl (cm_256_t (by omega) h257I (40) (by omega) (by omega) (by omega)) ?_
                  rintro h272 v273 ⟨h272I, h272E, x274, rfl, hx274a, hx274b, hx274r⟩
                  refine ⟨_, rfl, ?_⟩
                  have h272F := h257F.tr (h272E.wk (W' := [125, 146, 147]) (by first | rfl | simp))
                  show pw X d h272 252 115 [some (.ref 141), some (pw_i dp), some (pw_i x6), some (pw_i 1)] [pw_i x274] _
                  change x274 = pw_sg h257 40 ∧ pw_g h272 125 7 = pw_g h257 125 7 + x274 ∧ pw_g h272 125 8 = pw_g h257 125 8 ∧ pw_g h272 125 32 = pw_g h257 125 32 ∧ pw_g h272 125 45 = pw_g h257 125 45 at hx274r
                  rcases (by omega : x274 = 1 ∨ x274 = 0) with hb275 | hb275
                  · skip
                    have w40 := pt_sgI tTd (ch := 40) (by decide) (by decide)
                    rw [← hx274r.1, e7d] at w40
                    obtain ⟨-, -, zk, zv⟩ := w40.resolve_right (fun q => by have := q.1; omega)
                    have hlt := pw_A.lt hp0 (by rw [hp2.1, zk]; decide)
                    have tAf : pw_A n h272 := ⟨hn1, by rw [pw_Eg (c := 127) h257I h272E rfl rfl]; exact tAd.2.1, by omega, by omega, by omega, by omega⟩
                    have tTf : pt_TK K V P wr h272 := pt_TK.E h257I h272E tTd rfl (by omega)
                    have hM1 : pt_MR (pt_FF wr) K V (pw_g h 125 7) (pw_g h272 125 7) (0, S, dp, o, c) (0, 9 :: S, dp + 1, o + 1, c) := by rw [show pw_g h272 125 7 = pw_g h 125 7 + 1 by omega]; exact pt_MR.one (by omega) (pt_eoB zk zv (by omega))
                    have hC0 := pt_CD.E I h257E hp6 rfl (by omega)
                    have hC1 := pt_CD.E h257I h272E hC0 rfl (by omega)
                    refine pw_if E (pc' := 134) rfl (by decide) (by omega) (by omega) ?_ ?_
                    · intro hc276
                      change x274 = (0 : Int) at hc276
                      exfalso; omega
                    · intro hc277
                      change ¬ (x274 = (0 : Int)) at hc277
                      refine pw_ld E (pc' := 119) (st' := [.ref 141]) rfl (fun _ => rfl) ?_
                      refine pw_ld E (pc' := 120) (st' := [pw_i dp, .ref 141]) rfl (fun _ => rfl) ?_
                      refine pw_ld E (pc' := 121) (st' := [pw_i 1, pw_i dp, .ref 141]) rfl (fun _ => rfl) ?_
                      refine pw_add E (pc' := 122) rfl rfl ?_
                      obtain ⟨f278l, f278h, -⟩ := pw_obj (c := 125) h272I rfl
                      refine pw_call (m' := 248) (As := [.ref 141, pw_i (dp + 1)]) (rest := []) (ls'' := [some (.ref 141), some (pw_i (dp + 1)), none]) (by omega) E rfl (fun _ => pw_iV rfl rfl rfl rfl (pw_cellI f278h rfl)) (rfl : pm_ent 248 = some (2, 3, 12, 4, pmc_248)) rfl rfl (pw_and (pt_S248 (dp := dp + 1) (by omega) (by omega) (by omega) h272I tAf (by omega)) ((hR (by omega)).2 n K V P wr (9 :: S) (o + 1) b (c) (by omega) h272I tAf (by omega) tTf hp3 (by omega) (by omega) hC1 (pt_n81 (by decide)) (by rw [pt_tr1, pt_rk9]; decide))) ?_
                      rintro h279 v280 ⟨⟨h279I, h279E, ⟨tAb, tRb⟩, rfl⟩, ⟨-, -, ⟨tTb, tMb⟩, -⟩⟩
                      refine ⟨_, rfl, ?_⟩
                      have h279F := h272F.tr (h279E.wk (W' := [125, 146, 147]) (by first | rfl | simp))
                      show pw X d h279 252 125 [some (.ref 141), some (pw_i dp), some (pw_i x6), some (pw_i 1)] [] _
                      have tBb := tAb.2.2
                      have tCb := tRb.1.2.2.2.1
                      have tDb := tRb.1.2.1
                      refine pw_ld E (pc' := 126) (st' := [.ref 141]) rfl (fun _ => rfl) ?_
                      refine pw_bip E (pc' := 128) rfl rfl (by decide) ?_
                      obtain ⟨f281l, f281h, -⟩ := pw_obj (c := 125) h279I rfl
                      refine pw_call (m' := 257) (As := [.ref 141, pw_i 41]) (rest := []) (ls'' := [some (.ref 141), some (pw_i 41)]) (by omega) E rfl (fun _ => pw_iV rfl rfl rfl rfl (pw_cellI f281h rfl)) (rfl : pm_ent 257 = some (2, 2, 12, 4, pmc_257)) rfl rfl (cm_257_t (by omega) h279I (41) (by omega) (by omega) (by omega)) ?_
                      rintro h282 v283 ⟨h282I, h282E, hqtk, rfl⟩
                      refine ⟨_, rfl, ?_⟩
                      have h282F := h279F.tr (h282E.wk (W' := [125, 146, 147]) (by first | rfl | simp))
                      show pw X d h282 252 131 [some (.ref 141), some (pw_i dp), some (pw_i x6), some (pw_i 1)] [] _
                      have w41 := pt_sgI tTb (ch := 41) (by decide) (by decide)
                      have k8 := tTb.2.2.1
                      have hlt2 : pw_sg h279 41 = 1 → pw_g h279 125 7 < n := fun q => pw_A.lt tAb (by rw [tTb.1, (w41.resolve_right (fun z => by have := z.1; omega)).2.2.1]; decide)
                      have hpk := pw_gA (c := 128) (j := pw_g h279 125 7) h279I rfl (by decide) (by omega) (by omega)
                      have tAk : pw_A n h282 := ⟨hn1, by rw [pw_Eg (c := 127) h279I h282E rfl rfl]; exact tAb.2.1, by omega, by omega, by omega, by omega⟩
                      have tTk : pt_TK K V P wr h282 := pt_TK.E h279I h282E tTb rfl (by omega)
                      have hPT : pt_PT (pt_FF wr) K V P S dp o b c h h282 := by
                        have hplace := pw_gA (c := 128) (j := pw_g h279 125 7) h279I rfl (by decide) (by omega) (by omega)
                        rw [k8] at hplace hqtk
                        rcases tMb with ⟨z, f⟩ | ⟨z, c3, k3, m3⟩
                        · have hn : pw_sg h279 41 ≠ 1 := fun q => z (w41.resolve_right (fun y => by have := y.1; omega)).2.1
                          have e8 := (hqtk.2.1 hn).2.2 z
                          exact Or.inl ⟨by omega, by rw [e8]; exact pt_MF.tr hM1 f⟩
                        · rcases w41 with ⟨y1, -, yk, yv⟩ | ⟨y0, yn⟩
                          · obtain ⟨e7, e8⟩ := hqtk.1 y1
                            refine Or.inr ⟨by omega, c3, k3.E h279I h282E rfl (by omega), ?_⟩
                            rw [e7]
                            exact hM1.tr (pt_GG.close m3 (by omega) yk yv)
                          · obtain ⟨e7, e8, -⟩ := hqtk.2.1 (by omega)
                            have e8 := e8 z
                            exact Or.inl ⟨by omega, pt_MF.tr hM1 (pt_GG.noclose m3 (by omega) (by omega) (fun q => yn ⟨z, q.1, q.2⟩) e8)⟩
                      refine pw_goto E (pc' := 175) rfl (by decide) ?_
                      refine pw_vret E rfl ?_
                      exact ⟨h282I, h282F, ⟨tTk, hPT⟩, rfl⟩
                  · skip
                    have w40 := pt_sgI tTd (ch := 40) (by decide) (by decide)
                    rw [← hx274r.1, e7d] at w40
                    have n40 := (w40.resolve_left (fun q => by have := q.1; omega)).2
                    have tAg : pw_A n h272 := ⟨hn1, by rw [pw_Eg (c := 127) h257I h272E rfl rfl]; exact tAd.2.1, by omega, by omega, by omega, by omega⟩
                    have tTg : pt_TK K V P wr h272 := pt_TK.E h257I h272E tTd rfl (by omega)
                    have e7g : pw_g h272 125 7 = pw_g h 125 7 := by omega
                    have hC0 := pt_CD.E I h257E hp6 rfl (by omega)
                    have hC1 := pt_CD.E h257I h272E hC0 rfl (by omega)
                    refine pw_if E (pc' := 134) rfl (by decide) (by omega) (by omega) ?_ ?_
                    · intro hc285
                      change x274 = (0 : Int) at hc285
                      refine pw_ld E (pc' := 135) (st' := [.ref 141]) rfl (fun _ => rfl) ?_
                      refine pw_ld E (pc' := 136) (st' := [pw_i 1, .ref 141]) rfl (fun _ => rfl) ?_
                      refine pw_if E (pc' := 143) rfl (by decide) (by decide) (by decide) ?_ ?_
                      · intro hc286
                        change (1 : Int) = (0 : Int) at hc286
                        exfalso; omega
                      · intro hc287
                        change ¬ ((1 : Int) = (0 : Int)) at hc287
                        refine pw_ld E (pc' := 140) (st' := [pw_i 1, .ref 141]) rfl (fun _ => rfl) ?_
                        refine pw_goto E (pc' := 144) rfl (by decide) ?_
                        refine pw_ld E (pc' := 145) (st' := [pw_i 1, pw_i 1, .ref 141]) rfl (fun _ => rfl) ?_
                        refine pw_if E (pc' := 161) rfl (by decide) (by decide) (by decide) ?_ ?_
                        · intro hc288
                          change (1 : Int) = (0 : Int) at hc288
                          exfalso; omega
                        · intro hc289
                          change ¬ ((1 : Int) = (0 : Int)) at hc289
                          refine pw_ld E (pc' := 149) (st' := [.ref 141, pw_i 1, .ref 141]) rfl (fun _ => rfl) ?_
                          refine pw_getR (b := 145) h272I E (c := 125) (k := 6) (pc' := 152) rfl rfl rfl rfl rfl rfl rfl ?_
                          refine pw_ld E (pc' := 153) (st' := [.ref 141, .ref 145, pw_i 1, .ref 141]) rfl (fun _ => rfl) ?_
                          refine pw_getI2 h272I E (c := 125) (k := 7) (pc' := 156) rfl rfl rfl rfl rfl rfl (fun hf290a hf290b => ?_)
                          refine pw_laldM h272I E (c := 129) (pc' := 157) rfl rfl rfl (by decide) (by omega) (by omega) rfl ?_
                          refine pw_l2iC E (pc' := 158) rfl rfl ?_
                          refine pw_goto E (pc' := 162) rfl (by decide) ?_
                          have hk2 : K (pw_g h 125 7).toNat = 2 := by omega
                          have hlt := pw_A.lt hp0 (by rw [hp2.1, hk2]; decide)
                          have hnv := hp3 _ (by omega) hk2
                          have hval : pw_gm h272 129 ((pw_g h272 125 7).toNat) = V (pw_g h 125 7).toNat := by rw [tTg.2.1, e7g]
                          have hes := pt_eoV (F := pt_FF wr) (S := S) (d := dp) (o := o) (c := c) hk2 (V := V (pw_g h 125 7).toNat) (by omega)
                          obtain ⟨f291l, f291h, -⟩ := pw_obj (c := 125) h272I rfl
                          refine pw_call (m' := 255) (As := [.ref 141, pw_i 1, pw_i (pw_gm h272 129 ((pw_g h272 125 7).toNat))]) (rest := []) (ls'' := [some (.ref 141), some (pw_i 1), some (pw_i (pw_gm h272 129 ((pw_g h272 125 7).toNat)))]) (by omega) E rfl (fun _ => pw_iV rfl rfl rfl rfl (pw_cellI f291h rfl)) (rfl : pm_ent 255 = some (3, 3, 12, 4, pmc_255)) rfl rfl (cm_255_t (by omega) h272I (1) (by omega) (by omega) (pw_gm h272 129 ((pw_g h272 125 7).toNat)) (by omega) (by omega) (by omega)) ?_
                          rintro h292 v293 ⟨h292I, h292E, hqem, rfl⟩
                          refine ⟨_, rfl, ?_⟩
                          have h292F := h272F.tr (h292E.wk (W' := [125, 146, 147]) (by first | rfl | simp))
                          show pw X d h292 252 165 [some (.ref 141), some (pw_i dp), some (pw_i x6), some (pw_i 1)] [] _
                          have tEc := hqem.1
                          have tE7 := tEc.1
                          have tE8 := tEc.2.1
                          have tE32 := tEc.2.2.1
                          have tE45 := hqem.2
                          have tAec : pw_A n h292 := ⟨hn1, by rw [pw_Eg (c := 127) h272I h292E rfl rfl]; exact tAg.2.1, by omega, by omega, by omega, by omega⟩
                          have tTec : pt_TK K V P wr h292 := pt_TK.E h272I h292E tTg rfl (by omega)
                          have hCe : pt_CD h292 b (V (pw_g h 125 7).toNat :: c) := pt_CD.em hC1 tEc (Or.inl ⟨rfl, hval, by omega, by omega⟩)
                          refine pw_ld E (pc' := 166) (st' := [.ref 141]) rfl (fun _ => rfl) ?_
                          refine pw_ld E (pc' := 167) (st' := [.ref 141, .ref 141]) rfl (fun _ => rfl) ?_
                          refine pw_getI2 h292I E (c := 125) (k := 7) (pc' := 170) rfl rfl rfl rfl rfl rfl (fun hf294a hf294b => ?_)
                          refine pw_ld E (pc' := 171) (st' := [pw_i 1, pw_i (pw_g h292 125 7), .ref 141]) rfl (fun _ => rfl) ?_
                          refine pw_add E (pc' := 172) rfl rfl ?_
                          refine pw_putI h292I E (c := 125) (k := 7) (pc' := 175) rfl rfl rfl rfl (by omega) (by omega) (by omega) (by omega) rfl rfl ?_
                          intro h295I h295E
                          generalize h295w : pw_w h292 125 7 (pw_i ((pw_g h292 125 7) + 1)) = h295 at h295I h295E ⊢
                          have h295F := h292F.tr (h295E.wk (W' := [125, 146, 147]) (by first | rfl | simp))
                          have h2957 : pw_g h295 125 7 = pw_g h292 125 7 + 1 := by rw [← h295w]; exact pw_g_eq (c := 125) (k := 7) h292I rfl rfl (by omega) (by omega)
                          have h2958 : pw_g h295 125 8 = pw_g h292 125 8 := by rw [← h295w]; exact pw_g_ne (by omega)
                          have h29532 : pw_g h295 125 32 = pw_g h292 125 32 := by rw [← h295w]; exact pw_g_ne (by omega)
                          have h29545 : pw_g h295 125 45 = pw_g h292 125 45 := by rw [← h295w]; exact pw_g_ne (by omega)
                          have tAw : pw_A n h295 := ⟨hn1, by rw [pw_Eg (c := 127) h292I h295E rfl rfl]; exact tAec.2.1, by omega, by omega, by omega, by omega⟩
                          have tTw : pt_TK K V P wr h295 := pt_TK.E h292I h295E tTec rfl (by omega)
                          have hC4 := pt_CD.E h292I h295E hCe rfl (by omega)
                          refine pw_vret E rfl ?_
                          exact ⟨h295I, h295F, ⟨tTw, Or.inr ⟨by omega, _, hC4, by rw [show pw_g h295 125 7 = pw_g h 125 7 + 1 by omega]; exact pt_MR.one (by omega) hes⟩⟩, rfl⟩
                    · intro hc296
                      change ¬ (x274 = (0 : Int)) at hc296
                      exfalso; omega
                · intro hc297
                  change ¬ (x259 = (0 : Int)) at hc297
                  exfalso; omega
            · intro hc298
              change ¬ (pw_g h 125 8 ≤ (0 : Int)) at hc298
              exfalso; omega
          · intro hc299
            change ¬ (dp ≠ (5 : Int)) at hc299
            refine pw_ld E (pc' := 72) (st' := [.ref 141]) rfl (fun _ => rfl) ?_
            refine pw_ld E (pc' := 73) (st' := [pw_i 5, .ref 141]) rfl (fun _ => rfl) ?_
            obtain ⟨f300l, f300h, -⟩ := pw_obj (c := 125) I rfl
            refine pw_call (m' := 245) (As := [.ref 141, pw_i 5]) (rest := []) (ls'' := [some (.ref 141), some (pw_i 5)]) (by omega) E rfl (fun _ => pw_iV rfl rfl rfl rfl (pw_cellI f300h rfl)) (rfl : pm_ent 245 = some (2, 2, 12, 4, pmc_245)) rfl rfl (cm_245_t (by omega) I (5) (by omega) (by omega)) ?_
            rintro h301 v302 ⟨h301I, h301E, hqwr, rfl⟩
            refine ⟨_, rfl, ?_⟩
            have h301F := E0.tr (h301E.wk (W' := [125, 146, 147]) (by first | rfl | simp))
            show pw X d h301 252 76 [some (.ref 141), some (pw_i dp), some (pw_i x6), some (pw_i 1)] [] _
            have hwf := hqwr.1 hp4
            have hpl := pw_gA (c := 128) (j := pw_g h 125 7) I rfl (by decide) (by omega) (by omega)
            rw [hp2.2.2.1] at hwf hpl
            have tAx : pw_A n h301 := ⟨hn1, by rw [pw_Eg (c := 127) I h301E rfl rfl]; exact hp0.2.1, by omega, by omega, by omega, by omega⟩
            have tTx : pt_TK K V P wr h301 := pt_TK.E I h301E hp2 rfl (by omega)
            have hes := pt_eoD (F := pt_FF wr) (S := S) (d := dp) (o := o) (c := c) hbg (by omega)
            have hMF : pt_MF (pt_FF wr) K V P (pw_g h 125 7) (0, S, dp, o, c) (pw_g h301 125 8) := pt_MF.one (by omega) (by omega) hes (by decide) (by decide) hwf
            have hf0 : pw_g h301 125 8 ≠ 0 := by have := pw_gA (c := 128) (j := pw_g h 125 7) I rfl (by decide) (by omega) (by omega); rw [hp2.2.2.1] at this; omega
            refine pw_ld E (pc' := 77) (st' := [.ref 141]) rfl (fun _ => rfl) ?_
            refine pw_getI2 h301I E (c := 125) (k := 8) (pc' := 80) rfl rfl rfl rfl rfl rfl (fun hf303a hf303b => ?_)
            refine pw_if E (pc' := 84) rfl (by decide) (by omega) (by omega) ?_ ?_
            · intro hc304
              change pw_g h301 125 8 ≤ (0 : Int) at hc304
              exfalso; omega
            · intro hc305
              change ¬ (pw_g h301 125 8 ≤ (0 : Int)) at hc305
              refine pw_vret E rfl ?_
              exact ⟨h301I, h301F, ⟨tTx, Or.inl ⟨hf0, hMF⟩⟩, rfl⟩
        · intro hc306
          change ¬ ((1 : Int) ≠ (0 : Int)) at hc306
          exfalso; omega
  · intro hc307
    change ¬ (pw_g h 125 8 ≤ (0 : Int)) at hc307
    exfalso; omega
