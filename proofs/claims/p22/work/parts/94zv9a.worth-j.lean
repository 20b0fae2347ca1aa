section
/-! the model's values, exactly -/
set_option maxHeartbeats 4000000 in
theorem cm_264_x {X : List (Nat × List Value)} {d : Nat} {h : pm_H} (hd : 2 ≤ d) (I : pw_I h) (f : Int) (hf1 : 0 ≤ f) (hf2 : f ≤ 9900) (cd : List Int) (hp0 : pt_cl h f.toNat cd) (hp1 : pw_g h 146 (f.toNat + cd.length) = 0) (hp2 : pe_ok 9 cd) (hp3 : pe_h cd = 1) (hp4 : f + cd.length < 9900) : pw X d h 264 0 [some (.ref 141), some (pw_i f), none, none, none] [] (fun h' v => pw_I h' ∧ pw_E [150] h h' ∧ ∃ a : Int, v = .inl (some (pw_i a)) ∧ (-2147483648) ≤ a ∧ a ≤ 2147483647 ∧ (a = (pe_s (pe_F h 149 10) cd).getD 0 0)) := by
  have E : pm_ent 264 = some (2, 5, 12, 0, pmc_264) := rfl
  have E0 : pw_E [150] h h := pw_E.rf _ _
  refine pw_ld E (pc' := 1) (st' := [pw_i 0]) rfl (fun _ => rfl) ?_
  refine pw_istn E (pc' := 2) (ls' := [some (.ref 141), some (pw_i f), some (pw_i 0), none, none]) rfl rfl rfl rfl ?_
  refine pw_ld E (pc' := 3) (st' := [pw_i f]) rfl (fun _ => rfl) ?_
  refine pw_istn E (pc' := 4) (ls' := [some (.ref 141), some (pw_i f), some (pw_i 0), some (pw_i f), none]) rfl rfl rfl rfl ?_
  have L4 : ∀ (n4 : Nat) (k4_2 : Int) (k4_3 : Int) (k4_4 : Option Value) (gh4 : pm_H), pw_I gh4 → pw_E [150] h gh4 → 0 ≤ k4_2 → k4_2 ≤ 40 → 0 ≤ k4_3 → k4_3 ≤ 9899 → pe_PL gh4 (pe_F h 149 10) f cd (k4_3) (k4_2) → (9900 - k4_3).toNat = n4 → pw X d gh4 264 4 [some (.ref 141), some (pw_i f), some (pw_i k4_2), some (pw_i k4_3), k4_4] [] (fun h' v => pw_I h' ∧ pw_E [150] h h' ∧ ∃ a : Int, v = .inl (some (pw_i a)) ∧ (-2147483648) ≤ a ∧ a ≤ 2147483647 ∧ (a = (pe_s (pe_F h 149 10) cd).getD 0 0)) := by
    intro n4
    induction n4 using Nat.strongRecOn with
    | ind n4 ih4 =>
      intro k4_2 k4_3 k4_4 gh4 I4 E4 k4_2a k4_2b k4_3a k4_3b hx4_0 hm4
      refine pw_ld E (pc' := 5) (st' := [.ref 141]) rfl (fun _ => rfl) ?_
      obtain ⟨j, hj1, hj2, hj3, hj4⟩ := hx4_0
      have hop : pw_g gh4 146 (k4_3).toNat = pw_g h 146 (f.toNat + j) := by rw [pw_Eg (c := 146) I E4 rfl rfl, show (k4_3).toNat = f.toNat + j by omega]
      have har : pw_g gh4 147 (k4_3).toNat = pw_g h 147 (f.toNat + j) := by rw [pw_Eg (c := 147) I E4 rfl rfl, show (k4_3).toNat = f.toNat + j by omega]
      refine pw_getR (b := 162) I4 E (c := 125) (k := 33) (pc' := 8) rfl rfl rfl rfl rfl rfl rfl ?_
      refine pw_ld E (pc' := 9) (st' := [pw_i k4_3, .ref 162]) rfl (fun _ => rfl) ?_
      refine pw_ald2 I4 E (c := 146) (pc' := 10) rfl rfl rfl (by decide) rfl (by decide) (by omega) (by omega) rfl (fun hf1a hf1b => ?_)
      refine pw_if E (pc' := 140) rfl (by decide) (by omega) (by omega) ?_ ?_
      · intro hc2
        change pw_g gh4 146 (k4_3.toNat) = (0 : Int) at hc2
        refine pw_ld E (pc' := 141) (st' := [.ref 141]) rfl (fun _ => rfl) ?_
        refine pw_getR (b := 166) I4 E (c := 125) (k := 37) (pc' := 144) rfl rfl rfl rfl rfl rfl rfl ?_
        refine pw_ld E (pc' := 145) (st' := [pw_i 0, .ref 166]) rfl (fun _ => rfl) ?_
        refine pw_ald2 I4 E (c := 150) (pc' := 146) rfl rfl rfl (by decide) rfl (by decide) (by omega) (by omega) rfl (fun hf3a hf3b => ?_)
        have hje : j = cd.length := by
          by_cases q : j < cd.length
          · obtain ⟨x, -, hx2, -⟩ := pe_step hp0 hp2 j q
            unfold pt_en at hx2; omega
          · omega
        rw [hje, pe_drN] at hj3 hj4
        rw [hj3, hp3] at hj4
        have hpv : pw_g gh4 150 (Int.toNat 0) = (pe_s (pe_F h 149 10) cd).getD 0 0 := by rw [← hj4]; rfl
        refine pw_iret E rfl ?_
        exact ⟨I4, E4, ⟨_, rfl, by omega, by omega, hpv⟩⟩
      · intro hc4
        change ¬ (pw_g gh4 146 (k4_3.toNat) = (0 : Int)) at hc4
        have hjn : j < cd.length := Nat.lt_of_le_of_ne hj1 (fun q => by rw [q, hp1] at hop; omega)
        obtain ⟨x, hx1, hx2, hx3⟩ := pe_step hp0 hp2 j hjn
        rw [← hop, ← har] at hx2
        have hkB := pe_hB _ hx3.1
        have hS : px_st (pw_g gh4 150) (k4_2).toNat = pe_s (pe_F h 149 10) (pe_dr cd j) := hj4
        refine pw_ld E (pc' := 14) (st' := [.ref 141]) rfl (fun _ => rfl) ?_
        refine pw_getR (b := 162) I4 E (c := 125) (k := 33) (pc' := 17) rfl rfl rfl rfl rfl rfl rfl ?_
        refine pw_ld E (pc' := 18) (st' := [pw_i k4_3, .ref 162]) rfl (fun _ => rfl) ?_
        refine pw_ald2 I4 E (c := 146) (pc' := 19) rfl rfl rfl (by decide) rfl (by decide) (by omega) (by omega) rfl (fun hf5a hf5b => ?_)
        refine pw_ist E (pc' := 21) (ls' := [some (.ref 141), some (pw_i f), some (pw_i k4_2), some (pw_i k4_3), some (pw_i (pw_g gh4 146 (k4_3.toNat)))]) rfl rfl rfl rfl ?_
        refine pw_ld E (pc' := 23) (st' := [pw_i (pw_g gh4 146 (k4_3.toNat))]) rfl (fun _ => rfl) ?_
        refine pw_ld E (pc' := 24) (st' := [pw_i 1, pw_i (pw_g gh4 146 (k4_3.toNat))]) rfl (fun _ => rfl) ?_
        refine pw_if2 E (pc' := 33) rfl (by decide) (by omega) (by omega) (by decide) (by decide) ?_ ?_
        · intro hc6
          change pw_g gh4 146 (k4_3.toNat) = (1 : Int) at hc6
          refine pw_ld E (pc' := 34) (st' := [.ref 141]) rfl (fun _ => rfl) ?_
          refine pw_getR (b := 166) I4 E (c := 125) (k := 37) (pc' := 37) rfl rfl rfl rfl rfl rfl rfl ?_
          refine pw_ld E (pc' := 38) (st' := [pw_i k4_2, .ref 166]) rfl (fun _ => rfl) ?_
          refine pw_ld E (pc' := 40) (st' := [pw_i (pw_g gh4 146 (k4_3.toNat)), pw_i k4_2, .ref 166]) rfl (fun _ => rfl) ?_
          refine pw_ld E (pc' := 41) (st' := [pw_i 1, pw_i (pw_g gh4 146 (k4_3.toNat)), pw_i k4_2, .ref 166]) rfl (fun _ => rfl) ?_
          refine pw_if2 E (pc' := 53) rfl (by decide) (by omega) (by omega) (by decide) (by decide) ?_ ?_
          · intro hc7
            change pw_g gh4 146 (k4_3.toNat) ≠ (1 : Int) at hc7
            exfalso; omega
          · intro hc8
            change ¬ (pw_g gh4 146 (k4_3.toNat) ≠ (1 : Int)) at hc8
            have hw : pw_g gh4 147 (k4_3.toNat) = x ∧ 0 ≤ x ∧ x ≤ 9999 := by
              have hxo := hx2
              unfold pt_en at hxo
              clear hkB hx3 hx2 hop har hj1 hj3 hp4
              rcases hxo with q | q | q | q | q | q | q | q | q | q <;> omega
            obtain ⟨-, hk1, hk2, hk3, hk4, hk5⟩ := hx3
            have hq1 := hk1 hw.2.1
            clear hk1 hk2 hk3 hk5
            refine pw_ld E (pc' := 45) (st' := [.ref 141, pw_i k4_2, .ref 166]) rfl (fun _ => rfl) ?_
            refine pw_getR (b := 163) I4 E (c := 125) (k := 34) (pc' := 48) rfl rfl rfl rfl rfl rfl rfl ?_
            refine pw_ld E (pc' := 49) (st' := [pw_i k4_3, .ref 163, pw_i k4_2, .ref 166]) rfl (fun _ => rfl) ?_
            refine pw_ald2 I4 E (c := 147) (pc' := 50) rfl rfl rfl (by decide) rfl (by decide) (by omega) (by omega) rfl (fun hf9a hf9b => ?_)
            refine pw_goto E (pc' := 64) rfl (by decide) ?_
            refine pw_ast0 I4 E (c := 150) (pc' := 65) rfl rfl rfl (by decide) rfl (by decide) (by omega) (by omega) rfl (by omega) (by omega) (by omega) (by omega) rfl ?_
            intro h10I h10E
            generalize h10w : pw_w gh4 150 (k4_2.toNat) (pw_i (pw_g gh4 147 (k4_3.toNat))) = h10 at h10I h10E ⊢
            have h10F := E4.tr (h10E.wk (W' := [150]) (by first | rfl | simp))
            refine pw_inc E (pc' := 68) (ls' := [some (.ref 141), some (pw_i f), some (pw_i (k4_2 + 1)), some (pw_i k4_3), some (pw_i (pw_g gh4 146 (k4_3.toNat)))]) rfl rfl rfl rfl ?_
            refine pw_goto E (pc' := 134) rfl (by decide) ?_
            have hhx : pe_h (x :: pe_dr cd j) = pe_h (pe_dr cd j) + (if 0 ≤ x then 1 else if x = -8 then 0 else -1) := rfl
            rw [if_pos (by omega)] at hhx
            have hv : pw_g h10 150 (k4_2).toNat = pw_g gh4 147 (k4_3.toNat) := by rw [← h10w]; exact pw_g_eqA I4 rfl (by omega) (by omega) (by omega)
            have hF : (if 10000 ≤ x then (pe_F h 149 10) (x - 10000) else x) = pw_g gh4 147 (k4_3.toNat) := by
              rw [if_neg (by omega)]; omega
            have hPL : pe_PL h10 (pe_F h 149 10) f cd (k4_3 + 1) (k4_2 + 1) := ⟨j + 1, by omega, by omega, by rw [hx1, hhx]; omega, by
              rw [hx1, show (k4_2 + 1).toNat = (k4_2).toNat + 1 by omega]
              show _ = pe_1 (pe_F h 149 10) x (pe_s (pe_F h 149 10) (pe_dr cd j))
              rw [pe_num (by omega), hF, ← hS, pe_push (w := pw_g gh4 150) (fun q hq => by rw [← h10w]; exact pw_g_ne (fun z => hq (by omega))), hv]⟩
            refine pw_inc E (pc' := 137) (ls' := [some (.ref 141), some (pw_i f), some (pw_i (k4_2 + 1)), some (pw_i (k4_3 + 1)), some (pw_i (pw_g gh4 146 (k4_3.toNat)))]) rfl rfl rfl rfl ?_
            refine pw_goto E (pc' := 4) rfl (by decide) ?_
            exact ih4 _ (by omega) (k4_2 + 1) (k4_3 + 1) (some (pw_i (pw_g gh4 146 (k4_3.toNat)))) h10 h10I h10F (by omega) (by omega) (by omega) (by omega) hPL rfl
        · intro hc11
          change ¬ (pw_g gh4 146 (k4_3.toNat) = (1 : Int)) at hc11
          refine pw_ld E (pc' := 29) (st' := [pw_i (pw_g gh4 146 (k4_3.toNat))]) rfl (fun _ => rfl) ?_
          refine pw_ld E (pc' := 30) (st' := [pw_i 2, pw_i (pw_g gh4 146 (k4_3.toNat))]) rfl (fun _ => rfl) ?_
          refine pw_if2 E (pc' := 71) rfl (by decide) (by omega) (by omega) (by decide) (by decide) ?_ ?_
          · intro hc12
            change pw_g gh4 146 (k4_3.toNat) ≠ (2 : Int) at hc12
            refine pw_ld E (pc' := 73) (st' := [pw_i (pw_g gh4 146 (k4_3.toNat))]) rfl (fun _ => rfl) ?_
            refine pw_ld E (pc' := 74) (st' := [pw_i 3, pw_i (pw_g gh4 146 (k4_3.toNat))]) rfl (fun _ => rfl) ?_
            refine pw_if2 E (pc' := 104) rfl (by decide) (by omega) (by omega) (by decide) (by decide) ?_ ?_
            · intro hc13
              change pw_g gh4 146 (k4_3.toNat) ≠ (3 : Int) at hc13
              have hw : (x < 0 ∧ x ≠ -8) ∧ (((pw_g gh4 146 (k4_3.toNat)) = 4 ∧ -x = 5) ∨ ((pw_g gh4 146 (k4_3.toNat)) = 5 ∧ -x = 6) ∨ ((pw_g gh4 146 (k4_3.toNat)) = 6 ∧ -x = 7) ∨ ((pw_g gh4 146 (k4_3.toNat)) = 7 ∧ -x = 3) ∨ ((pw_g gh4 146 (k4_3.toNat)) = 8 ∧ -x = 4) ∨ ((pw_g gh4 146 (k4_3.toNat)) = 9 ∧ -x = 1) ∨ ((pw_g gh4 146 (k4_3.toNat)) = 10 ∧ -x = 2)) := by
                have hxo := hx2
                unfold pt_en at hxo
                clear hkB hx3 hx2 hop har hj1 hj3 hp4
                rcases hxo with q | q | q | q | q | q | q | q | q | q <;> omega
              obtain ⟨-, hk1, hk2, hk3, hk4, hk5⟩ := hx3
              have hx0 := hw.1
              have hop4 := hw.2
              have hq2 := hk3 hx0.1 hx0.2
              clear hw
              clear hk1 hk2 hk3 hk5
              refine pw_inc E (pc' := 107) (ls' := [some (.ref 141), some (pw_i f), some (pw_i (k4_2 + (-1))), some (pw_i k4_3), some (pw_i (pw_g gh4 146 (k4_3.toNat)))]) rfl rfl rfl rfl ?_
              refine pw_ld E (pc' := 108) (st' := [.ref 141]) rfl (fun _ => rfl) ?_
              refine pw_getR (b := 166) I4 E (c := 125) (k := 37) (pc' := 111) rfl rfl rfl rfl rfl rfl rfl ?_
              refine pw_ld E (pc' := 112) (st' := [pw_i (k4_2 + (-1)), .ref 166]) rfl (fun _ => rfl) ?_
              refine pw_ld E (pc' := 113) (st' := [pw_i 1, pw_i (k4_2 + (-1)), .ref 166]) rfl (fun _ => rfl) ?_
              refine pw_sub E (pc' := 114) rfl rfl ?_
              refine pw_ld E (pc' := 116) (st' := [pw_i (pw_g gh4 146 (k4_3.toNat)), pw_i ((k4_2 + (-1)) - 1), .ref 166]) rfl (fun _ => rfl) ?_
              refine pw_ld E (pc' := 117) (st' := [.ref 141, pw_i (pw_g gh4 146 (k4_3.toNat)), pw_i ((k4_2 + (-1)) - 1), .ref 166]) rfl (fun _ => rfl) ?_
              refine pw_getR (b := 166) I4 E (c := 125) (k := 37) (pc' := 120) rfl rfl rfl rfl rfl rfl rfl ?_
              refine pw_ld E (pc' := 121) (st' := [pw_i (k4_2 + (-1)), .ref 166, pw_i (pw_g gh4 146 (k4_3.toNat)), pw_i ((k4_2 + (-1)) - 1), .ref 166]) rfl (fun _ => rfl) ?_
              refine pw_ld E (pc' := 122) (st' := [pw_i 1, pw_i (k4_2 + (-1)), .ref 166, pw_i (pw_g gh4 146 (k4_3.toNat)), pw_i ((k4_2 + (-1)) - 1), .ref 166]) rfl (fun _ => rfl) ?_
              refine pw_sub E (pc' := 123) rfl rfl ?_
              refine pw_ald2 I4 E (c := 150) (pc' := 124) rfl rfl rfl (by decide) rfl (by decide) (by omega) (by omega) rfl (fun hf14a hf14b => ?_)
              refine pw_ld E (pc' := 125) (st' := [.ref 141, pw_i (pw_g gh4 150 (((k4_2 + (-1)) - 1).toNat)), pw_i (pw_g gh4 146 (k4_3.toNat)), pw_i ((k4_2 + (-1)) - 1), .ref 166]) rfl (fun _ => rfl) ?_
              refine pw_getR (b := 166) I4 E (c := 125) (k := 37) (pc' := 128) rfl rfl rfl rfl rfl rfl rfl ?_
              refine pw_ld E (pc' := 129) (st' := [pw_i (k4_2 + (-1)), .ref 166, pw_i (pw_g gh4 150 (((k4_2 + (-1)) - 1).toNat)), pw_i (pw_g gh4 146 (k4_3.toNat)), pw_i ((k4_2 + (-1)) - 1), .ref 166]) rfl (fun _ => rfl) ?_
              refine pw_ald2 I4 E (c := 150) (pc' := 130) rfl rfl rfl (by decide) rfl (by decide) (by omega) (by omega) rfl (fun hf15a hf15b => ?_)
              refine pw_call (m' := 265) (As := [pw_i (pw_g gh4 146 (k4_3.toNat)), pw_i (pw_g gh4 150 (((k4_2 + (-1)) - 1).toNat)), pw_i (pw_g gh4 150 ((k4_2 + (-1)).toNat))]) (rest := [pw_i ((k4_2 + (-1)) - 1), .ref 166]) (ls'' := [some (pw_i (pw_g gh4 146 (k4_3.toNat))), some (pw_i (pw_g gh4 150 (((k4_2 + (-1)) - 1).toNat))), some (pw_i (pw_g gh4 150 ((k4_2 + (-1)).toNat)))]) (Nat.le_trans (by decide) hd) E rfl (fun _ => pw_iS rfl rfl rfl) (rfl : pm_ent 265 = some (3, 3, 12, 0, pmc_265)) rfl rfl (cm_265_x (pw_dp hd (by decide)) I4 (pw_g gh4 146 (k4_3.toNat)) (by omega) (by omega) (pw_g gh4 150 (((k4_2 + (-1)) - 1).toNat)) (by omega) (by omega) (pw_g gh4 150 ((k4_2 + (-1)).toNat)) (by omega) (by omega) (-x) hop4) ?_
              rintro u17 v16 ⟨rfl, x18, rfl, hx18a, hx18b, hx18r⟩
              refine ⟨_, rfl, ?_⟩
              show pw X d gh4 264 133 [some (.ref 141), some (pw_i f), some (pw_i (k4_2 + (-1))), some (pw_i k4_3), some (pw_i (pw_g gh4 146 (k4_3.toNat)))] [pw_i x18, pw_i ((k4_2 + (-1)) - 1), .ref 166] _
              change x18 = pe_op (-x) (pw_g gh4 150 (((k4_2 + (-1)) - 1).toNat)) (pw_g gh4 150 ((k4_2 + (-1)).toNat)) at hx18r
              refine pw_ast0 I4 E (c := 150) (pc' := 134) rfl rfl rfl (by decide) rfl (by decide) (by omega) (by omega) rfl (by omega) (by omega) (by omega) (by omega) rfl ?_
              intro h19I h19E
              generalize h19w : pw_w gh4 150 (((k4_2 + (-1)) - 1).toNat) (pw_i x18) = h19 at h19I h19E ⊢
              have h19F := E4.tr (h19E.wk (W' := [150]) (by first | rfl | simp))
              have hhx : pe_h (x :: pe_dr cd j) = pe_h (pe_dr cd j) + (if 0 ≤ x then 1 else if x = -8 then 0 else -1) := rfl
              rw [if_neg (by omega), if_neg hx0.2] at hhx
              have e1 : (k4_2 + (-1)).toNat = (k4_2 - 2).toNat + 1 := by omega
              have e2 : (k4_2).toNat = (k4_2 - 2).toNat + 2 := by omega
              have e3 : (k4_2 + (-1) - 1).toNat = (k4_2 - 2).toNat := by omega
              have hv : pw_g h19 150 (k4_2 - 2).toNat = x18 := by rw [← h19w, show (k4_2 - 2).toNat = (((k4_2 + (-1)) - 1).toNat) by omega]; exact pw_g_eqA I4 rfl (by omega) (by omega) (by omega)
              have hr := hx18r
              rw [e1, e3] at hr
              have hPL : pe_PL h19 (pe_F h 149 10) f cd (k4_3 + 1) (k4_2 + (-1)) := ⟨j + 1, by omega, by omega, by rw [hx1, hhx]; omega, by
                rw [hx1]
                show _ = pe_1 (pe_F h 149 10) x (pe_s (pe_F h 149 10) (pe_dr cd j))
                rw [← hS, e1, e2, show x = -(-x) by omega]
                exact pe_bin (by omega) (by omega) (fun q hq => by rw [← h19w]; exact pw_g_ne (fun z => hq (by omega))) (hv.trans hr)⟩
              refine pw_inc E (pc' := 137) (ls' := [some (.ref 141), some (pw_i f), some (pw_i (k4_2 + (-1))), some (pw_i (k4_3 + 1)), some (pw_i (pw_g gh4 146 (k4_3.toNat)))]) rfl rfl rfl rfl ?_
              refine pw_goto E (pc' := 4) rfl (by decide) ?_
              exact ih4 _ (by omega) (k4_2 + (-1)) (k4_3 + 1) (some (pw_i (pw_g gh4 146 (k4_3.toNat)))) h19 h19I h19F (by omega) (by omega) (by omega) (by omega) hPL rfl
            · intro hc20
              change ¬ (pw_g gh4 146 (k4_3.toNat) ≠ (3 : Int)) at hc20
              have hw : x = -8 := by
                have hxo := hx2
                unfold pt_en at hxo
                clear hkB hx3 hx2 hop har hj1 hj3 hp4
                rcases hxo with q | q | q | q | q | q | q | q | q | q <;> omega
              obtain ⟨-, hk1, hk2, hk3, hk4, hk5⟩ := hx3
              have hx8 := hw
              have hq1 := hk2 hx8
              clear hk1 hk2 hk3 hk5
              refine pw_ld E (pc' := 78) (st' := [.ref 141]) rfl (fun _ => rfl) ?_
              refine pw_getR (b := 166) I4 E (c := 125) (k := 37) (pc' := 81) rfl rfl rfl rfl rfl rfl rfl ?_
              refine pw_ld E (pc' := 82) (st' := [pw_i k4_2, .ref 166]) rfl (fun _ => rfl) ?_
              refine pw_ld E (pc' := 83) (st' := [pw_i 1, pw_i k4_2, .ref 166]) rfl (fun _ => rfl) ?_
              refine pw_sub E (pc' := 84) rfl rfl ?_
              refine pw_ld E (pc' := 85) (st' := [.ref 141, pw_i (k4_2 - 1), .ref 166]) rfl (fun _ => rfl) ?_
              refine pw_getR (b := 166) I4 E (c := 125) (k := 37) (pc' := 88) rfl rfl rfl rfl rfl rfl rfl ?_
              refine pw_ld E (pc' := 89) (st' := [pw_i k4_2, .ref 166, pw_i (k4_2 - 1), .ref 166]) rfl (fun _ => rfl) ?_
              refine pw_ld E (pc' := 90) (st' := [pw_i 1, pw_i k4_2, .ref 166, pw_i (k4_2 - 1), .ref 166]) rfl (fun _ => rfl) ?_
              refine pw_sub E (pc' := 91) rfl rfl ?_
              refine pw_ald2 I4 E (c := 150) (pc' := 92) rfl rfl rfl (by decide) rfl (by decide) (by omega) (by omega) rfl (fun hf21a hf21b => ?_)
              refine pw_if E (pc' := 99) rfl (by decide) (by omega) (by omega) ?_ ?_
              · intro hc22
                change pw_g gh4 150 ((k4_2 - 1).toNat) ≠ (0 : Int) at hc22
                refine pw_ld E (pc' := 100) (st' := [pw_i 0, pw_i (k4_2 - 1), .ref 166]) rfl (fun _ => rfl) ?_
                refine pw_ast0 I4 E (c := 150) (pc' := 101) rfl rfl rfl (by decide) rfl (by decide) (by omega) (by omega) rfl (by omega) (by omega) (by omega) (by omega) rfl ?_
                intro h23I h23E
                generalize h23w : pw_w gh4 150 ((k4_2 - 1).toNat) (pw_i 0) = h23 at h23I h23E ⊢
                have h23F := E4.tr (h23E.wk (W' := [150]) (by first | rfl | simp))
                refine pw_goto E (pc' := 134) rfl (by decide) ?_
                have hhx : pe_h (x :: pe_dr cd j) = pe_h (pe_dr cd j) + (if 0 ≤ x then 1 else if x = -8 then 0 else -1) := rfl
                rw [if_neg (by omega), if_pos hx8] at hhx
                have e1 : (k4_2).toNat = (k4_2 - 1).toNat + 1 := by omega
                have hv : pw_g h23 150 (k4_2 - 1).toNat = 0 := by rw [← h23w]; exact pw_g_eqA I4 rfl (by omega) (by omega) (by omega)
                have hPL : pe_PL h23 (pe_F h 149 10) f cd (k4_3 + 1) (k4_2) := ⟨j + 1, by omega, by omega, by rw [hx1, hhx]; omega, by
                  rw [hx1]
                  show _ = pe_1 (pe_F h 149 10) x (pe_s (pe_F h 149 10) (pe_dr cd j))
                  rw [← hS, hx8, e1]
                  exact pe_not (fun q hq => by rw [← h23w]; exact pw_g_ne (fun z => hq (by omega))) hv (by first | exact (if_pos (by omega)).symm | exact (if_neg (by omega)).symm)⟩
                refine pw_inc E (pc' := 137) (ls' := [some (.ref 141), some (pw_i f), some (pw_i k4_2), some (pw_i (k4_3 + 1)), some (pw_i (pw_g gh4 146 (k4_3.toNat)))]) rfl rfl rfl rfl ?_
                refine pw_goto E (pc' := 4) rfl (by decide) ?_
                exact ih4 _ (by omega) (k4_2) (k4_3 + 1) (some (pw_i (pw_g gh4 146 (k4_3.toNat)))) h23 h23I h23F (by omega) (by omega) (by omega) (by omega) hPL rfl
              · intro hc24
                change ¬ (pw_g gh4 150 ((k4_2 - 1).toNat) ≠ (0 : Int)) at hc24
                refine pw_ld E (pc' := 96) (st' := [pw_i 1, pw_i (k4_2 - 1), .ref 166]) rfl (fun _ => rfl) ?_
                refine pw_goto E (pc' := 100) rfl (by decide) ?_
                refine pw_ast0 I4 E (c := 150) (pc' := 101) rfl rfl rfl (by decide) rfl (by decide) (by omega) (by omega) rfl (by omega) (by omega) (by omega) (by omega) rfl ?_
                intro h25I h25E
                generalize h25w : pw_w gh4 150 ((k4_2 - 1).toNat) (pw_i 1) = h25 at h25I h25E ⊢
                have h25F := E4.tr (h25E.wk (W' := [150]) (by first | rfl | simp))
                refine pw_goto E (pc' := 134) rfl (by decide) ?_
                have hhx : pe_h (x :: pe_dr cd j) = pe_h (pe_dr cd j) + (if 0 ≤ x then 1 else if x = -8 then 0 else -1) := rfl
                rw [if_neg (by omega), if_pos hx8] at hhx
                have e1 : (k4_2).toNat = (k4_2 - 1).toNat + 1 := by omega
                have hv : pw_g h25 150 (k4_2 - 1).toNat = 1 := by rw [← h25w]; exact pw_g_eqA I4 rfl (by omega) (by omega) (by omega)
                have hPL : pe_PL h25 (pe_F h 149 10) f cd (k4_3 + 1) (k4_2) := ⟨j + 1, by omega, by omega, by rw [hx1, hhx]; omega, by
                  rw [hx1]
                  show _ = pe_1 (pe_F h 149 10) x (pe_s (pe_F h 149 10) (pe_dr cd j))
                  rw [← hS, hx8, e1]
                  exact pe_not (fun q hq => by rw [← h25w]; exact pw_g_ne (fun z => hq (by omega))) hv (by first | exact (if_pos (by omega)).symm | exact (if_neg (by omega)).symm)⟩
                refine pw_inc E (pc' := 137) (ls' := [some (.ref 141), some (pw_i f), some (pw_i k4_2), some (pw_i (k4_3 + 1)), some (pw_i (pw_g gh4 146 (k4_3.toNat)))]) rfl rfl rfl rfl ?_
                refine pw_goto E (pc' := 4) rfl (by decide) ?_
                exact ih4 _ (by omega) (k4_2) (k4_3 + 1) (some (pw_i (pw_g gh4 146 (k4_3.toNat)))) h25 h25I h25F (by omega) (by omega) (by omega) (by omega) hPL rfl
          · intro hc26
            change ¬ (pw_g gh4 146 (k4_3.toNat) ≠ (2 : Int)) at hc26
            refine pw_ld E (pc' := 34) (st' := [.ref 141]) rfl (fun _ => rfl) ?_
            refine pw_getR (b := 166) I4 E (c := 125) (k := 37) (pc' := 37) rfl rfl rfl rfl rfl rfl rfl ?_
            refine pw_ld E (pc' := 38) (st' := [pw_i k4_2, .ref 166]) rfl (fun _ => rfl) ?_
            refine pw_ld E (pc' := 40) (st' := [pw_i (pw_g gh4 146 (k4_3.toNat)), pw_i k4_2, .ref 166]) rfl (fun _ => rfl) ?_
            refine pw_ld E (pc' := 41) (st' := [pw_i 1, pw_i (pw_g gh4 146 (k4_3.toNat)), pw_i k4_2, .ref 166]) rfl (fun _ => rfl) ?_
            refine pw_if2 E (pc' := 53) rfl (by decide) (by omega) (by omega) (by decide) (by decide) ?_ ?_
            · intro hc27
              change pw_g gh4 146 (k4_3.toNat) ≠ (1 : Int) at hc27
              have hw : x = 10000 + pw_g gh4 147 (k4_3.toNat) ∧ 0 ≤ pw_g gh4 147 (k4_3.toNat) ∧ pw_g gh4 147 (k4_3.toNat) ≤ 9 := by
                have hxo := hx2
                unfold pt_en at hxo
                clear hkB hx3 hx2 hop har hj1 hj3 hp4
                rcases hxo with q | q | q | q | q | q | q | q | q | q <;> omega
              obtain ⟨-, hk1, hk2, hk3, hk4, hk5⟩ := hx3
              have hq1 := hk1 (by omega)
              clear hk1 hk2 hk3 hk5
              refine pw_ld E (pc' := 54) (st' := [.ref 141, pw_i k4_2, .ref 166]) rfl (fun _ => rfl) ?_
              refine pw_getR (b := 165) I4 E (c := 125) (k := 36) (pc' := 57) rfl rfl rfl rfl rfl rfl rfl ?_
              refine pw_ld E (pc' := 58) (st' := [.ref 141, .ref 165, pw_i k4_2, .ref 166]) rfl (fun _ => rfl) ?_
              refine pw_getR (b := 163) I4 E (c := 125) (k := 34) (pc' := 61) rfl rfl rfl rfl rfl rfl rfl ?_
              refine pw_ld E (pc' := 62) (st' := [pw_i k4_3, .ref 163, .ref 165, pw_i k4_2, .ref 166]) rfl (fun _ => rfl) ?_
              refine pw_ald2 I4 E (c := 147) (pc' := 63) rfl rfl rfl (by decide) rfl (by decide) (by omega) (by omega) rfl (fun hf28a hf28b => ?_)
              refine pw_ald2 I4 E (c := 149) (pc' := 64) rfl rfl rfl (by decide) rfl (by decide) (by omega) (by omega) rfl (fun hf29a hf29b => ?_)
              refine pw_ast0 I4 E (c := 150) (pc' := 65) rfl rfl rfl (by decide) rfl (by decide) (by omega) (by omega) rfl (by omega) (by omega) (by omega) (by omega) rfl ?_
              intro h30I h30E
              generalize h30w : pw_w gh4 150 (k4_2.toNat) (pw_i (pw_g gh4 149 ((pw_g gh4 147 (k4_3.toNat)).toNat))) = h30 at h30I h30E ⊢
              have h30F := E4.tr (h30E.wk (W' := [150]) (by first | rfl | simp))
              refine pw_inc E (pc' := 68) (ls' := [some (.ref 141), some (pw_i f), some (pw_i (k4_2 + 1)), some (pw_i k4_3), some (pw_i (pw_g gh4 146 (k4_3.toNat)))]) rfl rfl rfl rfl ?_
              refine pw_goto E (pc' := 134) rfl (by decide) ?_
              have hhx : pe_h (x :: pe_dr cd j) = pe_h (pe_dr cd j) + (if 0 ≤ x then 1 else if x = -8 then 0 else -1) := rfl
              rw [if_pos (by omega)] at hhx
              have hv : pw_g h30 150 (k4_2).toNat = pw_g gh4 149 ((pw_g gh4 147 (k4_3.toNat)).toNat) := by rw [← h30w]; exact pw_g_eqA I4 rfl (by omega) (by omega) (by omega)
              have hF : (if 10000 ≤ x then (pe_F h 149 10) (x - 10000) else x) = pw_g gh4 149 ((pw_g gh4 147 (k4_3.toNat)).toNat) := by
                rw [if_pos (by omega)]; unfold pe_F; rw [if_pos ⟨by omega, by omega⟩, show (x - 10000).toNat = (pw_g gh4 147 (k4_3.toNat)).toNat by omega]; exact (pw_Eg (c := 149) I E4 rfl rfl _).symm
              have hPL : pe_PL h30 (pe_F h 149 10) f cd (k4_3 + 1) (k4_2 + 1) := ⟨j + 1, by omega, by omega, by rw [hx1, hhx]; omega, by
                rw [hx1, show (k4_2 + 1).toNat = (k4_2).toNat + 1 by omega]
                show _ = pe_1 (pe_F h 149 10) x (pe_s (pe_F h 149 10) (pe_dr cd j))
                rw [pe_num (by omega), hF, ← hS, pe_push (w := pw_g gh4 150) (fun q hq => by rw [← h30w]; exact pw_g_ne (fun z => hq (by omega))), hv]⟩
              refine pw_inc E (pc' := 137) (ls' := [some (.ref 141), some (pw_i f), some (pw_i (k4_2 + 1)), some (pw_i (k4_3 + 1)), some (pw_i (pw_g gh4 146 (k4_3.toNat)))]) rfl rfl rfl rfl ?_
              refine pw_goto E (pc' := 4) rfl (by decide) ?_
              exact ih4 _ (by omega) (k4_2 + 1) (k4_3 + 1) (some (pw_i (pw_g gh4 146 (k4_3.toNat)))) h30 h30I h30F (by omega) (by omega) (by omega) (by omega) hPL rfl
            · intro hc31
              change ¬ (pw_g gh4 146 (k4_3.toNat) ≠ (1 : Int)) at hc31
              exfalso; omega
  exact L4 _ (0) (f) (none) h I E0 (by omega) (by omega) (by omega) (by omega) pe_PL.z rfl
end
section
/-! a line of a law of the model, exactly -/
set_option maxHeartbeats 4000000 in
theorem cm_263_x {X : List (Nat × List Value)} {d : Nat} {h : pm_H} (hd : 3 ≤ d) (I : pw_I h) (l : Int) (hl1 : 0 ≤ l) (hl2 : l ≤ 3) (li : Int) (hli1 : 0 ≤ li) (hli2 : li ≤ 3) (th : Int → Int) (C : Int → List Int) (hp0 : pt_MS h l th C) (hp1 : th li = 1) (hp2 : pe_ok 9 (C li)) (hp3 : pe_h (C li) = 1) : pw X d h 263 0 [some (.ref 141), some (pw_i l), some (pw_i li)] [] (fun h' v => pw_I h' ∧ pw_E [150] h h' ∧ ∃ a : Int, v = .inl (some (pw_i a)) ∧ (-2147483648) ≤ a ∧ a ≤ 2147483647 ∧ (a = ((pe_s (pe_F h 149 10) (C li)).getD 0 0))) := by
  have E : pm_ent 263 = some (3, 3, 12, 0, pmc_263) := rfl
  have E0 : pw_E [150] h h := pw_E.rf _ _
  refine pw_ld E (pc' := 1) (st' := [.ref 141]) rfl (fun _ => rfl) ?_
  refine pw_sip E (pc' := 4) rfl rfl (by decide) ?_
  refine pw_ld E (pc' := 5) (st' := [pw_i l, pw_i 1100, .ref 141]) rfl (fun _ => rfl) ?_
  refine pw_mul E (pc' := 6) rfl rfl ?_
  refine pw_ld E (pc' := 7) (st' := [.ref 141, pw_i (1100 * l), .ref 141]) rfl (fun _ => rfl) ?_
  refine pw_getR (b := 161) I E (c := 125) (k := 31) (pc' := 10) rfl rfl rfl rfl rfl rfl rfl ?_
  refine pw_ld E (pc' := 11) (st' := [pw_i 4, .ref 161, pw_i (1100 * l), .ref 141]) rfl (fun _ => rfl) ?_
  refine pw_ld E (pc' := 12) (st' := [pw_i l, pw_i 4, .ref 161, pw_i (1100 * l), .ref 141]) rfl (fun _ => rfl) ?_
  refine pw_mul E (pc' := 13) rfl rfl ?_
  refine pw_ld E (pc' := 14) (st' := [pw_i li, pw_i (4 * l), .ref 161, pw_i (1100 * l), .ref 141]) rfl (fun _ => rfl) ?_
  refine pw_add E (pc' := 15) rfl rfl ?_
  refine pw_ald2 I E (c := 145) (pc' := 16) rfl rfl rfl (by decide) rfl (by decide) (by omega) (by omega) rfl (fun hf1a hf1b => ?_)
  refine pw_add E (pc' := 17) rfl rfl ?_
  obtain ⟨-, hb0, bs1, bs2, bs3⟩ := (hp0 li (by omega) (by omega)).resolve_right (fun q => by have := q.1; omega)
  have hS1 : pt_cl h ((1100 * l) + (pw_g h 145 (((4 * l) + li).toNat))).toNat (C li) := bs1
  have hS2 : pw_g h 146 (((1100 * l) + (pw_g h 145 (((4 * l) + li).toNat))).toNat + (C li).length) = 0 := by rw [show ((1100 * l) + (pw_g h 145 (((4 * l) + li).toNat))).toNat + (C li).length = (1100 * l + (pw_g h 145 (4 * l + li).toNat) + ((C li).length : Int)).toNat by omega]; exact bs2
  have hok := hp2
  have hh1 := hp3
  obtain ⟨f2l, f2h, -⟩ := pw_obj (c := 125) I rfl
  refine pw_call (m' := 264) (As := [.ref 141, pw_i ((1100 * l) + (pw_g h 145 (((4 * l) + li).toNat)))]) (rest := []) (ls'' := [some (.ref 141), some (pw_i ((1100 * l) + (pw_g h 145 (((4 * l) + li).toNat)))), none, none, none]) (Nat.le_trans (by decide) hd) E rfl (fun _ => pw_iV rfl rfl rfl rfl (pw_cellI f2h rfl)) (rfl : pm_ent 264 = some (2, 5, 12, 0, pmc_264)) rfl rfl (cm_264_x (pw_dp hd (by decide)) I ((1100 * l) + (pw_g h 145 (((4 * l) + li).toNat))) (by omega) (by omega) (C li) hS1 hS2 hok hh1 (by omega)) ?_
  rintro h3 v4 ⟨h3I, h3E, x5, rfl, hx5a, hx5b, hx5r⟩
  refine ⟨_, rfl, ?_⟩
  have h3F := E0.tr (h3E.wk (W' := [150]) (by first | rfl | simp))
  show pw X d h3 263 20 [some (.ref 141), some (pw_i l), some (pw_i li)] [pw_i x5] _
  change x5 = (pe_s (pe_F h 149 10) (C li)).getD 0 0 at hx5r
  refine pw_iret E rfl ?_
  exact ⟨h3I, h3F, ⟨_, rfl, by omega, by omega, hx5r⟩⟩
set_option maxHeartbeats 4000000 in
theorem cm_262_x {X : List (Nat × List Value)} {d : Nat} {h : pm_H} (hd : 4 ≤ d) (I : pw_I h) (l : Int) (hl1 : 0 ≤ l) (hl2 : l ≤ 3) (li : Int) (hli1 : 0 ≤ li) (hli2 : li ≤ 3) (th : Int → Int) (C : Int → List Int) (hp0 : pt_MS h l th C) (hp1 : th li = 1 → pe_ok 9 (C li) ∧ pe_h (C li) = 1) : pw X d h 262 0 [some (.ref 141), some (pw_i l), some (pw_i li)] [] (fun h' v => pw_I h' ∧ pw_E [150] h h' ∧ ∃ a : Int, v = .inl (some (pw_i a)) ∧ 0 ≤ a ∧ a ≤ 1 ∧ ((a = 1 ∧ th li = 1 ∧ ((pe_s (pe_F h 149 10) (C li)).getD 0 0) ≠ 0) ∨ (a = 0 ∧ ¬ (th li = 1 ∧ ((pe_s (pe_F h 149 10) (C li)).getD 0 0) ≠ 0)))) := by
  have E : pm_ent 262 = some (3, 3, 12, 1, pmc_262) := rfl
  have E0 : pw_E [150] h h := pw_E.rf _ _
  refine pw_ld E (pc' := 1) (st' := [.ref 141]) rfl (fun _ => rfl) ?_
  refine pw_getR (b := 161) I E (c := 125) (k := 31) (pc' := 4) rfl rfl rfl rfl rfl rfl rfl ?_
  refine pw_ld E (pc' := 5) (st' := [pw_i 4, .ref 161]) rfl (fun _ => rfl) ?_
  refine pw_ld E (pc' := 6) (st' := [pw_i l, pw_i 4, .ref 161]) rfl (fun _ => rfl) ?_
  refine pw_mul E (pc' := 7) rfl rfl ?_
  refine pw_ld E (pc' := 8) (st' := [pw_i li, pw_i (4 * l), .ref 161]) rfl (fun _ => rfl) ?_
  refine pw_add E (pc' := 9) rfl rfl ?_
  refine pw_ald2 I E (c := 145) (pc' := 10) rfl rfl rfl (by decide) rfl (by decide) (by omega) (by omega) rfl (fun hf1a hf1b => ?_)
  refine pw_if E (pc' := 26) rfl (by decide) (by omega) (by omega) ?_ ?_
  · intro hc2
    change pw_g h 145 (((4 * l) + li).toNat) < (0 : Int) at hc2
    have hth0 : th li = 0 := by
      rcases hp0 li (by omega) (by omega) with ⟨-, q, -⟩ | ⟨q, -⟩
      · exfalso; omega
      · exact q
    refine pw_ld E (pc' := 27) (st' := [pw_i 0]) rfl (fun _ => rfl) ?_
    refine pw_zret E rfl (by omega) ?_
    exact ⟨I, E0, ⟨_, rfl, by omega, by omega, Or.inr ⟨rfl, fun q => by have := q.1; omega⟩⟩⟩
  · intro hc3
    change ¬ (pw_g h 145 (((4 * l) + li).toNat) < (0 : Int)) at hc3
    have hth : th li = 1 := by
      rcases hp0 li (by omega) (by omega) with ⟨q, -⟩ | ⟨-, q⟩
      · exact q
      · exfalso; omega
    obtain ⟨hok, hh1⟩ := hp1 hth
    refine pw_ld E (pc' := 14) (st' := [.ref 141]) rfl (fun _ => rfl) ?_
    refine pw_ld E (pc' := 15) (st' := [pw_i l, .ref 141]) rfl (fun _ => rfl) ?_
    refine pw_ld E (pc' := 16) (st' := [pw_i li, pw_i l, .ref 141]) rfl (fun _ => rfl) ?_
    obtain ⟨f4l, f4h, -⟩ := pw_obj (c := 125) I rfl
    refine pw_call (m' := 263) (As := [.ref 141, pw_i l, pw_i li]) (rest := []) (ls'' := [some (.ref 141), some (pw_i l), some (pw_i li)]) (Nat.le_trans (by decide) hd) E rfl (fun _ => pw_iV rfl rfl rfl rfl (pw_cellI f4h rfl)) (rfl : pm_ent 263 = some (3, 3, 12, 0, pmc_263)) rfl rfl (cm_263_x (pw_dp hd (by decide)) I (l) (by omega) (by omega) (li) (by omega) (by omega) th C hp0 hth hok hh1) ?_
    rintro h5 v6 ⟨h5I, h5E, x7, rfl, hx7a, hx7b, hx7r⟩
    refine ⟨_, rfl, ?_⟩
    have h5F := E0.tr (h5E.wk (W' := [150]) (by first | rfl | simp))
    show pw X d h5 262 19 [some (.ref 141), some (pw_i l), some (pw_i li)] [pw_i x7] _
    change x7 = ((pe_s (pe_F h 149 10) (C li)).getD 0 0) at hx7r
    refine pw_if E (pc' := 26) rfl (by decide) (by omega) (by omega) ?_ ?_
    · intro hc8
      change x7 = (0 : Int) at hc8
      refine pw_ld E (pc' := 27) (st' := [pw_i 0]) rfl (fun _ => rfl) ?_
      refine pw_zret E rfl (by omega) ?_
      exact ⟨h5I, h5F, ⟨_, rfl, by omega, by omega, Or.inr ⟨rfl, fun q => q.2 (by omega)⟩⟩⟩
    · intro hc9
      change ¬ (x7 = (0 : Int)) at hc9
      refine pw_ld E (pc' := 23) (st' := [pw_i 1]) rfl (fun _ => rfl) ?_
      refine pw_goto E (pc' := 27) rfl (by decide) ?_
      refine pw_zret E rfl (by omega) ?_
      exact ⟨h5I, h5F, ⟨_, rfl, by omega, by omega, Or.inl ⟨rfl, hth, by omega⟩⟩⟩
set_option maxHeartbeats 4000000 in
theorem cm_266_x {X : List (Nat × List Value)} {d : Nat} {h : pm_H} (hd : 4 ≤ d) (I : pw_I h) (l : Int) (hl1 : 0 ≤ l) (hl2 : l ≤ 3) (li : Int) (hli1 : 0 ≤ li) (hli2 : li ≤ 3) (was : Int) (hwas1 : 0 ≤ was) (hwas2 : was ≤ 99) (th : Int → Int) (C : Int → List Int) (hp0 : pt_MS h l th C) (hp1 : th li = 1 → pe_ok 9 (C li) ∧ pe_h (C li) = 1) : pw X d h 266 0 [some (.ref 141), some (pw_i l), some (pw_i li), some (pw_i was), none] [] (fun h' v => pw_I h' ∧ pw_E [150] h h' ∧ ∃ a : Int, v = .inl (some (pw_i a)) ∧ 0 ≤ a ∧ a ≤ 99 ∧ ((th li = 0 ∧ a = was) ∨ (th li = 1 ∧ ((((pe_s (pe_F h 149 10) (C li)).getD 0 0) < 0 ∧ a = 0) ∨ (99 < ((pe_s (pe_F h 149 10) (C li)).getD 0 0) ∧ a = 99) ∨ (0 ≤ ((pe_s (pe_F h 149 10) (C li)).getD 0 0) ∧ ((pe_s (pe_F h 149 10) (C li)).getD 0 0) ≤ 99 ∧ a = ((pe_s (pe_F h 149 10) (C li)).getD 0 0)))))) := by
  have E : pm_ent 266 = some (4, 5, 12, 0, pmc_266) := rfl
  have E0 : pw_E [150] h h := pw_E.rf _ _
  refine pw_ld E (pc' := 1) (st' := [.ref 141]) rfl (fun _ => rfl) ?_
  refine pw_getR (b := 161) I E (c := 125) (k := 31) (pc' := 4) rfl rfl rfl rfl rfl rfl rfl ?_
  refine pw_ld E (pc' := 5) (st' := [pw_i 4, .ref 161]) rfl (fun _ => rfl) ?_
  refine pw_ld E (pc' := 6) (st' := [pw_i l, pw_i 4, .ref 161]) rfl (fun _ => rfl) ?_
  refine pw_mul E (pc' := 7) rfl rfl ?_
  refine pw_ld E (pc' := 8) (st' := [pw_i li, pw_i (4 * l), .ref 161]) rfl (fun _ => rfl) ?_
  refine pw_add E (pc' := 9) rfl rfl ?_
  refine pw_ald2 I E (c := 145) (pc' := 10) rfl rfl rfl (by decide) rfl (by decide) (by omega) (by omega) rfl (fun hf1a hf1b => ?_)
  refine pw_if E (pc' := 15) rfl (by decide) (by omega) (by omega) ?_ ?_
  · intro hc2
    change (0 : Int) ≤ pw_g h 145 (((4 * l) + li).toNat) at hc2
    have hth : th li = 1 := by
      rcases hp0 li (by omega) (by omega) with ⟨q, -⟩ | ⟨-, q⟩
      · exact q
      · exfalso; omega
    obtain ⟨hok, hh1⟩ := hp1 hth
    refine pw_ld E (pc' := 16) (st' := [.ref 141]) rfl (fun _ => rfl) ?_
    refine pw_ld E (pc' := 17) (st' := [pw_i l, .ref 141]) rfl (fun _ => rfl) ?_
    refine pw_ld E (pc' := 18) (st' := [pw_i li, pw_i l, .ref 141]) rfl (fun _ => rfl) ?_
    obtain ⟨f3l, f3h, -⟩ := pw_obj (c := 125) I rfl
    refine pw_call (m' := 263) (As := [.ref 141, pw_i l, pw_i li]) (rest := []) (ls'' := [some (.ref 141), some (pw_i l), some (pw_i li)]) (Nat.le_trans (by decide) hd) E rfl (fun _ => pw_iV rfl rfl rfl rfl (pw_cellI f3h rfl)) (rfl : pm_ent 263 = some (3, 3, 12, 0, pmc_263)) rfl rfl (cm_263_x (pw_dp hd (by decide)) I (l) (by omega) (by omega) (li) (by omega) (by omega) th C hp0 hth hok hh1) ?_
    rintro h4 v5 ⟨h4I, h4E, x6, rfl, hx6a, hx6b, hx6r⟩
    refine ⟨_, rfl, ?_⟩
    have h4F := E0.tr (h4E.wk (W' := [150]) (by first | rfl | simp))
    show pw X d h4 266 21 [some (.ref 141), some (pw_i l), some (pw_i li), some (pw_i was), none] [pw_i x6] _
    change x6 = ((pe_s (pe_F h 149 10) (C li)).getD 0 0) at hx6r
    refine pw_ist E (pc' := 23) (ls' := [some (.ref 141), some (pw_i l), some (pw_i li), some (pw_i was), some (pw_i x6)]) rfl rfl rfl rfl ?_
    refine pw_ld E (pc' := 25) (st' := [pw_i x6]) rfl (fun _ => rfl) ?_
    refine pw_if E (pc' := 32) rfl (by decide) (by omega) (by omega) ?_ ?_
    · intro hc7
      change (0 : Int) ≤ x6 at hc7
      refine pw_ld E (pc' := 34) (st' := [pw_i x6]) rfl (fun _ => rfl) ?_
      refine pw_bip E (pc' := 36) rfl rfl (by decide) ?_
      refine pw_if2 E (pc' := 44) rfl (by decide) (by omega) (by omega) (by decide) (by decide) ?_ ?_
      · intro hc8
        change x6 ≤ (99 : Int) at hc8
        refine pw_ld E (pc' := 46) (st' := [pw_i x6]) rfl (fun _ => rfl) ?_
        refine pw_iret E rfl ?_
        exact ⟨h4I, h4F, ⟨_, rfl, by omega, by omega, Or.inr ⟨hth, Or.inr (Or.inr ⟨by omega, by omega, hx6r⟩)⟩⟩⟩
      · intro hc9
        change ¬ (x6 ≤ (99 : Int)) at hc9
        refine pw_bip E (pc' := 41) rfl rfl (by decide) ?_
        refine pw_goto E (pc' := 46) rfl (by decide) ?_
        refine pw_iret E rfl ?_
        exact ⟨h4I, h4F, ⟨_, rfl, by omega, by omega, Or.inr ⟨hth, Or.inr (Or.inl ⟨by omega, rfl⟩)⟩⟩⟩
    · intro hc10
      change ¬ ((0 : Int) ≤ x6) at hc10
      refine pw_ld E (pc' := 29) (st' := [pw_i 0]) rfl (fun _ => rfl) ?_
      refine pw_goto E (pc' := 46) rfl (by decide) ?_
      refine pw_iret E rfl ?_
      exact ⟨h4I, h4F, ⟨_, rfl, by omega, by omega, Or.inr ⟨hth, Or.inl ⟨by omega, rfl⟩⟩⟩⟩
  · intro hc11
    change ¬ ((0 : Int) ≤ pw_g h 145 (((4 * l) + li).toNat)) at hc11
    have hth0 : th li = 0 := by
      rcases hp0 li (by omega) (by omega) with ⟨-, q, -⟩ | ⟨q, -⟩
      · exfalso; omega
      · exact q
    refine pw_ld E (pc' := 14) (st' := [pw_i was]) rfl (fun _ => rfl) ?_
    refine pw_iret E rfl ?_
    exact ⟨I, E0, ⟨_, rfl, by omega, by omega, Or.inl ⟨hth0, rfl⟩⟩⟩
end
section
/-! worlds: a law runs -/
def pu_cl (x : Int) : Int := if x < 0 then 0 else if 99 < x then 99 else x
/-- the facts, from what stood the month before -/
def pu_ft (p wg fl bk m tr dr : Int) (j : Int) : Int := if j = 0 then max 0 p / 100 else if j = 1 then max 0 p % 100 else if j = 2 then wg else if j = 3 then fl else if j = 4 then max 0 (fl - wg) else if j = 5 then bk else if j = 6 then m else if j = 7 then tr else if j = 8 then dr else if j = 9 then (if p = -1 then 1 else 0) else 0
def pu_v (F : Int → Int) (C : Int → List Int) (k : Int) : Int := (pe_s F (C k)).getD 0 0
/-- is it open -/
def pu_o (th : Int → Int) (C : Int → List Int) (F : Int → Int) (p : Int) : Int := if p = -1 then (if th 3 = 1 then (if pu_v F C 3 = 0 then 0 else 1) else 0) else (if th 2 = 1 then (if pu_v F C 2 = 0 then 1 else 0) else 1)
def pu_n (th : Int → Int) (C : Int → List Int) (F : Int → Int) (k : Int) : Int := if th k = 1 then pu_cl (pu_v F C k) else F k
def pu_lv (th : Int → Int) (C : Int → List Int) (F : Int → Int) (p : Int) : Int := if pu_o th C F p = 1 then pu_n th C F 0 * 100 + pu_n th C F 1 else -1
def pu_g (g : Int) : Int := (g * 1103515245 + 12345) % 2147483648
def pu_d (g : Int) : Int := g / 65536 % 10
theorem pu_gB (g : Int) : 0 ≤ pu_g g ∧ pu_g g ≤ 2147483647 := by
  unfold pu_g
  omega
theorem pu_dB {g : Int} : 0 ≤ pu_d g ∧ pu_d g ≤ 9 := by
  unfold pu_d
  omega
theorem pu_clB (x : Int) : 0 ≤ pu_cl x ∧ pu_cl x ≤ 99 := by
  unfold pu_cl
  by_cases a : x < 0
  · rw [if_pos a]; omega
  rw [if_neg a]
  by_cases b : 99 < x
  · rw [if_pos b]; omega
  · rw [if_neg b]; omega
theorem pu_ft0 {p wg fl bk m tr dr : Int} : pu_ft p wg fl bk m tr dr 0 = max 0 p / 100 := rfl
theorem pu_ft1 {p wg fl bk m tr dr : Int} : pu_ft p wg fl bk m tr dr 1 = max 0 p % 100 := rfl
theorem pu_nB {th : Int → Int} {C : Int → List Int} {p wg fl bk m tr dr k : Int} (hp : p ≤ 9999) (hk : k = 0 ∨ k = 1) : 0 ≤ pu_n th C (pu_ft p wg fl bk m tr dr) k ∧ pu_n th C (pu_ft p wg fl bk m tr dr) k ≤ 99 := by
  unfold pu_n
  by_cases a : th k = 1
  · rw [if_pos a]; exact pu_clB _
  · rw [if_neg a]
    rcases hk with rfl | rfl
    · rw [pu_ft0]; omega
    · rw [pu_ft1]; omega
theorem pu_lvB {th : Int → Int} {C : Int → List Int} {p wg fl bk m tr dr : Int} (hp : p ≤ 9999) : -1 ≤ pu_lv th C (pu_ft p wg fl bk m tr dr) p ∧ pu_lv th C (pu_ft p wg fl bk m tr dr) p ≤ 9999 := by
  have a := pu_nB (th := th) (C := C) (wg := wg) (fl := fl) (bk := bk) (m := m) (tr := tr) (dr := dr) hp (Or.inl rfl)
  have b := pu_nB (th := th) (C := C) (wg := wg) (fl := fl) (bk := bk) (m := m) (tr := tr) (dr := dr) hp (Or.inr rfl)
  unfold pu_lv
  split <;> omega
section Pu
variable {td bk wg fl tr : Nat → Int} {th : Int → Int} {C : Int → List Int}
def pu_F (bk wg fl tr : Nat → Int) (g p : Int) (k m : Nat) : Int → Int := pu_ft p (wg k) (fl (12 * bk k + m).toNat) (bk k) m (tr (12 * bk k + m).toNat) (pu_d g)
/-- a kitchen in a month -/
def pu_k (td bk wg fl tr : Nat → Int) (th : Int → Int) (C : Int → List Int) (m k : Nat) (s : Int × (Nat → Int)) : Int × (Nat → Int) := if td k = 0 then s else (pu_g s.1, fun c => if c = 12 * k + m then pu_lv th C (pu_F bk wg fl tr (pu_g s.1) (s.2 (12 * k + m - 1)) k m) (s.2 (12 * k + m - 1)) else s.2 c)
/-- the first n kitchens in a month -/
def pu_ks (td bk wg fl tr : Nat → Int) (th : Int → Int) (C : Int → List Int) (m : Nat) : Nat → Int × (Nat → Int) → Int × (Nat → Int)
  | 0, s => s
  | n + 1, s => pu_k td bk wg fl tr th C m n (pu_ks td bk wg fl tr th C m n s)
/-- the months 1 to n -/
def pu_ms (td bk wg fl tr : Nat → Int) (th : Int → Int) (C : Int → List Int) : Nat → Int × (Nat → Int) → Int × (Nat → Int)
  | 0, s => s
  | n + 1, s => pu_ks td bk wg fl tr th C (n + 1) 24 (pu_ms td bk wg fl tr th C n s)
theorem pu_k.o {m k c : Nat} {s : Int × (Nat → Int)} (hm : m < 12) (hc : c % 12 ≠ m) : (pu_k td bk wg fl tr th C m k s).2 c = s.2 c := by
  unfold pu_k
  by_cases q : td k = 0
  · rw [if_pos q]
  · rw [if_neg q]
    exact if_neg (fun e => hc (by omega))
theorem pu_ks.o {m c : Nat} {s : Int × (Nat → Int)} (hm : m < 12) (hc : c % 12 ≠ m) : ∀ n : Nat, (pu_ks td bk wg fl tr th C m n s).2 c = s.2 c := by
  intro n
  induction n with
  | zero => rfl
  | succ n ih => exact (pu_k.o hm hc).trans ih
/-- later months leave the earlier ones -/
theorem pu_ms.o {c n : Nat} {s : Int × (Nat → Int)} (hc : c % 12 ≤ n) : ∀ e : Nat, n + e < 12 → (pu_ms td bk wg fl tr th C (n + e) s).2 c = (pu_ms td bk wg fl tr th C n s).2 c := by
  intro e
  induction e with
  | zero => intro _; rfl
  | succ e ih =>
    intro he
    exact (pu_ks.o (m := n + e + 1) (by omega) (by omega) 24).trans (ih (by omega))
/-- what a row may hold -/
def pu_B (r : Nat → Int) : Prop := ∀ c : Nat, c < 288 → r c ≤ 9999
theorem pu_k.b {m k : Nat} {s : Int × (Nat → Int)} (hk : k < 24) (hm : m < 12) (hb : pu_B s.2) : pu_B (pu_k td bk wg fl tr th C m k s).2 := by
  intro c hc
  unfold pu_k
  by_cases q : td k = 0
  · rw [if_pos q]; exact hb c hc
  · rw [if_neg q]
    show (if c = 12 * k + m then _ else s.2 c) ≤ 9999
    by_cases e : c = 12 * k + m
    · rw [if_pos e]
      exact (pu_lvB (hb _ (by omega))).2
    · rw [if_neg e]; exact hb c hc
end Pu
end
section
/-! worlds: what the two heaps say -/
theorem pu_clM (x : Int) : max 0 (min 99 x) = pu_cl x := by
  unfold pu_cl
  by_cases a : x < 0
  · rw [if_pos a]; omega
  rw [if_neg a]
  by_cases b : 99 < x
  · rw [if_pos b]; omega
  · rw [if_neg b]; omega
/-- the facts lie in a row -/
theorem pu_FE {h : pm_H} {r : Nat} {p wg fl bk m tr dr : Int} (e0 : pw_g h r 0 = max 0 p / 100) (e1 : pw_g h r 1 = max 0 p % 100) (e2 : pw_g h r 2 = wg) (e3 : pw_g h r 3 = fl) (e4 : pw_g h r 4 = max 0 (fl - wg)) (e5 : pw_g h r 5 = bk) (e6 : pw_g h r 6 = m) (e7 : pw_g h r 7 = tr) (e8 : pw_g h r 8 = dr) (e9 : pw_g h r 9 = if p = -1 then 1 else 0) : pe_F h r 10 = pu_ft p wg fl bk m tr dr := by
  funext j
  unfold pe_F
  by_cases q : 0 ≤ j ∧ j < 10
  · rw [if_pos q]
    rcases (by omega : j = 0 ∨ j = 1 ∨ j = 2 ∨ j = 3 ∨ j = 4 ∨ j = 5 ∨ j = 6 ∨ j = 7 ∨ j = 8 ∨ j = 9) with rfl | rfl | rfl | rfl | rfl | rfl | rfl | rfl | rfl | rfl
    · exact e0
    · exact e1
    · exact e2
    · exact e3
    · exact e4
    · exact e5
    · exact e6
    · exact e7
    · exact e8
    · exact e9
  · rw [if_neg q]
    unfold pu_ft
    rw [if_neg (by omega), if_neg (by omega), if_neg (by omega), if_neg (by omega), if_neg (by omega), if_neg (by omega), if_neg (by omega), if_neg (by omega), if_neg (by omega), if_neg (by omega)]
/-- the class's world -/
def px_ws (h : pm_H) : Int × (Nat → Int) := (pw_gm h 96 5, pw_g h 98)
theorem pu_k1 {td bk wg fl tr : Nat → Int} {th : Int → Int} {C : Int → List Int} {m k : Nat} {g : Int} {r r' : Nat → Int} {v : Int} (ht : td k ≠ 0) (hv : v = pu_lv th C (pu_F bk wg fl tr (pu_g g) (r (12 * k + m - 1)) k m) (r (12 * k + m - 1))) (h1 : r' (12 * k + m) = v) (h2 : ∀ j : Nat, j ≠ 12 * k + m → r' j = r j) : (pu_g g, r') = pu_k td bk wg fl tr th C m k (g, r) := by
  unfold pu_k
  rw [if_neg ht]
  refine congrArg (Prod.mk _) (funext fun c => ?_)
  by_cases e : c = 12 * k + m
  · rw [if_pos e, e, h1]
    exact hv
  · rw [if_neg e]
    exact h2 c e
theorem pu_clI {x : Int} (h0 : 0 ≤ x) (h1 : x ≤ 99) : pu_cl x = x := by
  unfold pu_cl
  rw [if_neg (by omega), if_neg (by omega)]
theorem pu_nE {th : Int → Int} {C : Int → List Int} {F : Int → Int} {k x y : Int} (h : (th k = 1 ∧ x = (pe_s F (C k)).getD 0 0) ∨ (th k = 0 ∧ x = F k)) (h0 : 0 ≤ F k) (h1 : F k ≤ 99) (hy : y = pu_cl x) : y = pu_n th C F k := by
  unfold pu_n pu_v
  rcases h with ⟨a, b⟩ | ⟨a, b⟩
  · rw [if_pos a, hy, b]
  · rw [if_neg (by omega), hy, b, pu_clI h0 h1]
theorem pe_Fcg {h h' : pm_H} {r : Nat} {n : Int} (e : ∀ j : Nat, pw_g h' r j = pw_g h r j) : pe_F h' r n = pe_F h r n := by
  funext j
  unfold pe_F
  by_cases q : 0 ≤ j ∧ j < n
  · rw [if_pos q, if_pos q, e]
  · rw [if_neg q, if_neg q]
theorem pe_F0 {h : pm_H} {r : Nat} {n j : Int} (h0 : 0 ≤ j) (h1 : j < n) : pe_F h r n j = pw_g h r j.toNat := if_pos ⟨h0, h1⟩
/-- a Script stays, whatever else is written -/
theorem px_SC.fr {wr : Int} {W : List Nat} {h h' : pm_H} {c : Nat} {th : Int → Int} {C : Int → List Int} {N : Int → Int} (I : pw_I h) (hc : pw_Sc c) (E : pw_E W h h') (n : ∀ x : Nat, (c ≤ x ∧ x ≤ c + 4) ∨ x = c + 6 ∨ 170 ≤ x → x ∉ W) (H : px_SC wr h c th C N) : px_SC wr h' c th C N := by
  have hl := px_len I
  have hcc := hc
  unfold pw_Sc at hcc
  have o : ∀ x j : Nat, c + 1 ≤ x → x ≤ c + 4 → pw_g h' x j = pw_g h x j := fun x j a b => by
    unfold pw_g pw_at
    rw [E.2.1 x (by omega) (n x (Or.inl ⟨by omega, b⟩))]
  have e : h'[c]? = h[c]? := E.2.1 c (by omega) (n c (Or.inl ⟨Nat.le_refl _, by omega⟩))
  have q1 : px_cq h' c = px_cq h c := by unfold px_cq; rw [e]
  obtain ⟨Fs, Fv, F1, F2, -, Fq, Fl, rfl, Fh, -, -⟩ := pw_fld (c := c) (k := 0) I (pw_Sc_o hc) rfl
  have Fc := px_cqE F1 F2
  have Fle : px_cq h c < h.length := by rw [Fc]; exact (List.getElem?_eq_some_iff.mp Fh).1
  intro k k0 k3
  obtain ⟨m1, m2⟩ := H k k0 k3
  refine ⟨(o _ _ (by omega) (by omega)).trans m1, m2.imp id (fun ⟨b1, ⟨b2, b3, b4, b5, b7⟩, b6⟩ => ?_)⟩
  have e2 : h'[px_cq h c]? = h[px_cq h c]? := E.2.1 _ Fle (n _ (Or.inr b7))
  have q2 : ∀ j : Nat, px_cw h' c j = px_cw h c j := fun j => by
    unfold px_cw pw_g pw_at
    rw [q1, e2]
  have q3 : px_cn h' c = px_cn h c := by
    unfold px_cn
    rw [q1, e2]
  refine ⟨b1, ⟨?_, ?_, ?_, ?_, ?_⟩, fun z => (o _ _ (by omega) (by omega)).trans (b6 z)⟩
  · rw [o _ _ (by omega) (by omega)]; exact b2
  · rw [o _ _ (by omega) (by omega), o _ _ (by omega) (by omega)]; exact b3
  · rw [o _ _ (by omega) (by omega), q3]; exact b4
  · rw [o _ _ (by omega) (by omega), o _ _ (by omega) (by omega), ← b5]
    exact px_st_cg _ (fun j _ => q2 _)
  · rw [q1]; exact b7
theorem px_n96 {c : Nat} (hc : pw_Sc c) : [c + 5].contains 96 = false := by
  rcases hc with rfl | rfl | rfl | rfl | rfl | rfl | rfl | rfl <;> rfl
theorem px_n98 {c : Nat} (hc : pw_Sc c) : [c + 5].contains 98 = false := by
  rcases hc with rfl | rfl | rfl | rfl | rfl | rfl | rfl | rfl <;> rfl
theorem px_n99 {c : Nat} (hc : pw_Sc c) : [c + 5].contains 99 = false := by
  rcases hc with rfl | rfl | rfl | rfl | rfl | rfl | rfl | rfl <;> rfl
/-- month 0 of a world, the first n kitchens -/
def pu_r1 (r : Nat → Int) (n : Int) (j : Nat) : Int := if j % 12 = 0 ∧ (j : Int) < 12 * n ∧ r j = -2 then 0 else r j
theorem pu_r1z (r : Nat → Int) (j : Nat) : pu_r1 r 0 j = r j := by
  unfold pu_r1
  rw [if_neg (fun q => by have := q.2.1; omega)]
theorem pu_r1o {r : Nat → Int} {n : Int} {j : Nat} (h : ¬ (j % 12 = 0 ∧ (j : Int) < 12 * n ∧ r j = -2)) : pu_r1 r n j = r j := if_neg h
theorem pu_r1n {r : Nat → Int} {n : Int} {j : Nat} (n0 : 0 ≤ n) (q : j ≠ (n * 12 + 0).toNat) : pu_r1 r (n + 1) j = pu_r1 r n j := by
  unfold pu_r1
  by_cases a : j % 12 = 0 ∧ (j : Int) < 12 * n ∧ r j = -2
  · rw [if_pos a, if_pos ⟨a.1, by omega, a.2.2⟩]
  · rw [if_neg a, if_neg (fun z => a ⟨z.1, by have := z.2.1; omega, z.2.2⟩)]
theorem pu_r1a {r r1 r2 : Nat → Int} {n : Int} (n0 : 0 ≤ n) (H : ∀ j : Nat, r1 j = pu_r1 r n j) (a : r1 (n * 12 + 0).toNat = -2) (b : r2 (n * 12 + 0).toNat = 0) (e : ∀ j : Nat, j ≠ (n * 12 + 0).toNat → r2 j = r1 j) : ∀ j : Nat, r2 j = pu_r1 r (n + 1) j := by
  intro j
  by_cases q : j = (n * 12 + 0).toNat
  · have hr : r j = -2 := by
      rw [← pu_r1o (r := r) (n := n) (j := j) (fun z => by have := z.2.1; omega), ← H, q]
      exact a
    have e1 : pu_r1 r (n + 1) j = 0 := if_pos ⟨by omega, by omega, hr⟩
    rw [e1, q]
    exact b
  · rw [e j q, H, pu_r1n n0 q]
theorem pu_r1b {r r1 : Nat → Int} {n : Int} (n0 : 0 ≤ n) (H : ∀ j : Nat, r1 j = pu_r1 r n j) (a : r1 (n * 12 + 0).toNat ≠ -2) : ∀ j : Nat, r1 j = pu_r1 r (n + 1) j := by
  intro j
  by_cases q : j = (n * 12 + 0).toNat
  · have h1 := H j
    have h2 : pu_r1 r n j = r j := pu_r1o (fun z => by have := z.2.1; omega)
    have h3 : r j ≠ -2 := by
      rw [← h2, ← h1, q]
      exact a
    rw [h1, h2]
    exact (if_neg (fun z => h3 z.2.2)).symm
  · rw [H, pu_r1n n0 q]
def px_r1 (h hb : pm_H) (sd n : Int) : Prop := pw_gm hb 96 5 = sd ∧ ∀ j : Nat, pw_g hb 98 j = pu_r1 (pw_g h 11) n j
def px_mo (h hb : pm_H) (th : Int → Int) (C : Int → List Int) (sd m : Int) : Prop := px_ws hb = pu_ms (pw_g h 2) (pw_g h 4) (pw_g h 5) (pw_g h 8) (pw_g h 9) th C (m - 1).toNat (sd, pu_r1 (pw_g h 11) 24)
def px_kt (h hb hd : pm_H) (th : Int → Int) (C : Int → List Int) (m k : Int) : Prop := px_ws hd = pu_ks (pw_g h 2) (pw_g h 4) (pw_g h 5) (pw_g h 8) (pw_g h 9) th C ((m - 1).toNat + 1) k.toNat (px_ws hb)
theorem px_r1.mo {h hb : pm_H} {th : Int → Int} {C : Int → List Int} {sd : Int} (H : px_r1 h hb sd 24) : px_mo h hb th C sd 1 := by
  show px_ws hb = (sd, pu_r1 (pw_g h 11) 24)
  unfold px_ws
  rw [H.1, funext H.2]
theorem px_kt.z {h hb : pm_H} {th : Int → Int} {C : Int → List Int} {m : Int} : px_kt h hb hb th C m 0 := rfl
theorem px_kt.no {h hb hd : pm_H} {th : Int → Int} {C : Int → List Int} {m k : Int} (k0 : 0 ≤ k) (H : px_kt h hb hd th C m k) (ht : pw_g h 2 k.toNat = 0) : px_kt h hb hd th C m (k + 1) := by
  unfold px_kt at H ⊢
  rw [show (k + 1).toNat = k.toNat + 1 by omega]
  show _ = pu_k _ _ _ _ _ th C _ k.toNat (pu_ks _ _ _ _ _ th C _ k.toNat (px_ws hb))
  rw [← H]
  unfold pu_k
  rw [if_pos ht]
theorem px_kt.mo {h hb hd : pm_H} {th : Int → Int} {C : Int → List Int} {sd m : Int} (m1 : 1 ≤ m) (H : px_mo h hb th C sd m) (K : px_kt h hb hd th C m 24) : px_mo h hd th C sd (m + 1) := by
  unfold px_mo at H ⊢
  unfold px_kt at K
  rw [K, H, show (m + 1 - 1).toNat = (m - 1).toNat + 1 by omega]
  rfl
theorem px_live {h hd h' : pm_H} {th : Int → Int} {C : Int → List Int} {k mo : Int} (k0 : 0 ≤ k) (k1 : k ≤ 23) (m1 : 1 ≤ mo) (m2 : mo ≤ 11) (e4 : ∀ j : Nat, pw_g hd 4 j = pw_g h 4 j) (e5 : ∀ j : Nat, pw_g hd 5 j = pw_g h 5 j) (e8 : ∀ j : Nat, pw_g hd 8 j = pw_g h 8 j) (e9 : ∀ j : Nat, pw_g hd 9 j = pw_g h 9 j) (ht : pw_g h 2 k.toNat ≠ 0) (p1 : pw_gm h' 96 5 = pu_g (pw_gm hd 96 5)) (p2 : pw_g h' 98 (k * 12 + mo).toNat = pu_lv th C (pu_ft (pw_g hd 98 (k * 12 + (mo - 1)).toNat) (pw_g hd 5 k.toNat) (pw_g hd 8 ((pw_g hd 4 k.toNat) * 12 + mo).toNat) (pw_g hd 4 k.toNat) mo (pw_g hd 9 ((pw_g hd 4 k.toNat) * 12 + mo).toNat) (pu_d (pu_g (pw_gm hd 96 5)))) (pw_g hd 98 (k * 12 + (mo - 1)).toNat)) (p3 : ∀ j : Nat, j ≠ (k * 12 + mo).toNat → pw_g h' 98 j = pw_g hd 98 j) : px_ws h' = pu_k (pw_g h 2) (pw_g h 4) (pw_g h 5) (pw_g h 8) (pw_g h 9) th C ((mo - 1).toNat + 1) k.toNat (px_ws hd) := by
  unfold px_ws
  rw [p1]
  have i1 : (k * 12 + mo).toNat = 12 * k.toNat + ((mo - 1).toNat + 1) := by omega
  have i2 : (k * 12 + (mo - 1)).toNat = 12 * k.toNat + ((mo - 1).toNat + 1) - 1 := by omega
  rw [i1] at p2 p3
  rw [i2, e4, e5, e8, e9] at p2
  refine pu_k1 ht ?_ p2 p3
  unfold pu_F
  rw [show (12 * pw_g h 4 k.toNat + (((mo - 1).toNat + 1 : Nat) : Int)) = pw_g h 4 k.toNat * 12 + mo by omega, show (((mo - 1).toNat + 1 : Nat) : Int) = mo by omega]
theorem px_kt.yes {h hb hd h' : pm_H} {th : Int → Int} {C : Int → List Int} {m k : Int} (k0 : 0 ≤ k) (H : px_kt h hb hd th C m k) (L : px_ws h' = pu_k (pw_g h 2) (pw_g h 4) (pw_g h 5) (pw_g h 8) (pw_g h 9) th C ((m - 1).toNat + 1) k.toNat (px_ws hd)) : px_kt h hb h' th C m (k + 1) := by
  unfold px_kt at H ⊢
  rw [show (k + 1).toNat = k.toNat + 1 by omega, L, H]
  rfl
theorem px_n9 {c x : Nat} (hc : pw_Sc c) (hx : x = 2 ∨ x = 4 ∨ x = 5 ∨ x = 8 ∨ x = 9 ∨ x = 11) : [96, 98, 99, c + 5].contains x = false := by
  rcases hc with rfl | rfl | rfl | rfl | rfl | rfl | rfl | rfl <;> rcases hx with rfl | rfl | rfl | rfl | rfl | rfl <;> rfl
end
section
/-! the class's world, exactly -/
set_option maxHeartbeats 4000000 in
theorem cm_19_97x {X : List (Nat × List Value)} {d : Nat} {h : pm_H} (hd : 1 ≤ d) (I : pw_I h) (k : Int) (hk1 : 0 ≤ k) (hk2 : k ≤ 23) (mo : Int) (hmo1 : 0 ≤ mo) (hmo2 : mo ≤ 11) : pw X d h 19 0 [some (.ref 113), some (pw_i k), some (pw_i mo)] [] (fun h' v => h = h' ∧ ∃ a : Int, v = .inl (some (pw_i a)) ∧ 0 ≤ a ∧ a ≤ 1 ∧ ((a = 1 ∧ pw_g h 98 (k * 12 + mo).toNat = -2) ∨ (a = 0 ∧ pw_g h 98 (k * 12 + mo).toNat ≠ -2))) := by
  have E : pm_ent 19 = some (3, 3, 2, 1, pmc_19) := rfl
  refine pw_ld E (pc' := 1) (st' := [.ref 113]) rfl (fun _ => rfl) ?_
  refine pw_getR (b := 114) I E (c := 97) (k := 0) (pc' := 4) rfl rfl rfl rfl rfl rfl rfl ?_
  refine pw_ld E (pc' := 5) (st' := [pw_i k, .ref 114]) rfl (fun _ => rfl) ?_
  refine pw_bip E (pc' := 7) rfl rfl (by decide) ?_
  refine pw_mul E (pc' := 8) rfl rfl ?_
  refine pw_ld E (pc' := 9) (st' := [pw_i mo, pw_i (k * 12), .ref 114]) rfl (fun _ => rfl) ?_
  refine pw_add E (pc' := 10) rfl rfl ?_
  refine pw_ald2 I E (c := 98) (pc' := 11) rfl rfl rfl (by decide) rfl (by decide) (by omega) (by omega) rfl (fun hf1a hf1b => ?_)
  refine pw_bip E (pc' := 13) rfl rfl (by decide) ?_
  refine pw_if2 E (pc' := 20) rfl (by decide) (by omega) (by omega) (by decide) (by decide) ?_ ?_
  · intro hc2
    change pw_g h 98 (((k * 12) + mo).toNat) ≠ ((-2) : Int) at hc2
    refine pw_ld E (pc' := 21) (st' := [pw_i 0]) rfl (fun _ => rfl) ?_
    refine pw_zret E rfl (by omega) ?_
    exact ⟨rfl, ⟨_, rfl, by omega, by omega, by omega⟩⟩
  · intro hc3
    change ¬ (pw_g h 98 (((k * 12) + mo).toNat) ≠ ((-2) : Int)) at hc3
    refine pw_ld E (pc' := 17) (st' := [pw_i 1]) rfl (fun _ => rfl) ?_
    refine pw_goto E (pc' := 21) rfl (by decide) ?_
    refine pw_zret E rfl (by omega) ?_
    exact ⟨rfl, ⟨_, rfl, by omega, by omega, by omega⟩⟩
set_option maxHeartbeats 4000000 in
theorem cm_26_97x {X : List (Nat × List Value)} {d : Nat} {h : pm_H} (hd : 1 ≤ d) (I : pw_I h) (k : Int) (hk1 : 0 ≤ k) (hk2 : k ≤ 23) (mo : Int) (hmo1 : 0 ≤ mo) (hmo2 : mo ≤ 11) : pw X d h 26 0 [some (.ref 113), some (pw_i k), some (pw_i mo)] [] (fun h' v => h = h' ∧ ∃ a : Int, v = .inl (some (pw_i a)) ∧ 0 ≤ a ∧ a ≤ 1 ∧ ((a = 1 ∧ pw_g h 98 (k * 12 + mo).toNat = -1) ∨ (a = 0 ∧ pw_g h 98 (k * 12 + mo).toNat ≠ -1))) := by
  have E : pm_ent 26 = some (3, 3, 2, 1, pmc_26) := rfl
  refine pw_ld E (pc' := 1) (st' := [.ref 113]) rfl (fun _ => rfl) ?_
  refine pw_getR (b := 114) I E (c := 97) (k := 0) (pc' := 4) rfl rfl rfl rfl rfl rfl rfl ?_
  refine pw_ld E (pc' := 5) (st' := [pw_i k, .ref 114]) rfl (fun _ => rfl) ?_
  refine pw_bip E (pc' := 7) rfl rfl (by decide) ?_
  refine pw_mul E (pc' := 8) rfl rfl ?_
  refine pw_ld E (pc' := 9) (st' := [pw_i mo, pw_i (k * 12), .ref 114]) rfl (fun _ => rfl) ?_
  refine pw_add E (pc' := 10) rfl rfl ?_
  refine pw_ald2 I E (c := 98) (pc' := 11) rfl rfl rfl (by decide) rfl (by decide) (by omega) (by omega) rfl (fun hf1a hf1b => ?_)
  refine pw_ld E (pc' := 12) (st' := [pw_i ((-1)), pw_i (pw_g h 98 (((k * 12) + mo).toNat))]) rfl (fun _ => rfl) ?_
  refine pw_if2 E (pc' := 19) rfl (by decide) (by omega) (by omega) (by decide) (by decide) ?_ ?_
  · intro hc2
    change pw_g h 98 (((k * 12) + mo).toNat) ≠ ((-1) : Int) at hc2
    refine pw_ld E (pc' := 20) (st' := [pw_i 0]) rfl (fun _ => rfl) ?_
    refine pw_zret E rfl (by omega) ?_
    exact ⟨rfl, ⟨_, rfl, by omega, by omega, by omega⟩⟩
  · intro hc3
    change ¬ (pw_g h 98 (((k * 12) + mo).toNat) ≠ ((-1) : Int)) at hc3
    refine pw_ld E (pc' := 16) (st' := [pw_i 1]) rfl (fun _ => rfl) ?_
    refine pw_goto E (pc' := 20) rfl (by decide) ?_
    refine pw_zret E rfl (by omega) ?_
    exact ⟨rfl, ⟨_, rfl, by omega, by omega, by omega⟩⟩
set_option maxHeartbeats 4000000 in
theorem cm_21_97x {X : List (Nat × List Value)} {d : Nat} {h : pm_H} (hd : 1 ≤ d) (I : pw_I h) (k : Int) (hk1 : 0 ≤ k) (hk2 : k ≤ 23) (mo : Int) (hmo1 : 0 ≤ mo) (hmo2 : mo ≤ 11) : pw X d h 21 0 [some (.ref 113), some (pw_i k), some (pw_i mo)] [] (fun h' v => h = h' ∧ ∃ a : Int, v = .inl (some (pw_i a)) ∧ 0 ≤ a ∧ a ≤ 99 ∧ (a = max 0 (pw_g h 98 (k * 12 + mo).toNat) / 100)) := by
  have E : pm_ent 21 = some (3, 3, 2, 0, pmc_21) := rfl
  refine pw_ld E (pc' := 1) (st' := [pw_i 0]) rfl (fun _ => rfl) ?_
  refine pw_ld E (pc' := 2) (st' := [.ref 113, pw_i 0]) rfl (fun _ => rfl) ?_
  refine pw_getR (b := 114) I E (c := 97) (k := 0) (pc' := 5) rfl rfl rfl rfl rfl rfl rfl ?_
  refine pw_ld E (pc' := 6) (st' := [pw_i k, .ref 114, pw_i 0]) rfl (fun _ => rfl) ?_
  refine pw_bip E (pc' := 8) rfl rfl (by decide) ?_
  refine pw_mul E (pc' := 9) rfl rfl ?_
  refine pw_ld E (pc' := 10) (st' := [pw_i mo, pw_i (k * 12), .ref 114, pw_i 0]) rfl (fun _ => rfl) ?_
  refine pw_add E (pc' := 11) rfl rfl ?_
  refine pw_ald2 I E (c := 98) (pc' := 12) rfl rfl rfl (by decide) rfl (by decide) (by omega) (by omega) rfl (fun hf1a hf1b => ?_)
  refine pw_max E rfl rfl (by decide) (by decide) (by omega) (by omega) rfl ?_
  refine pw_bip E (pc' := 17) rfl rfl (by decide) ?_
  refine pw_div E (pc' := 18) rfl rfl (by omega) (by omega) (by decide) (by decide) ?_
  refine pw_iret E rfl ?_
  exact ⟨rfl, ⟨_, rfl, by omega, by omega, by omega⟩⟩
set_option maxHeartbeats 4000000 in
theorem cm_22_97x {X : List (Nat × List Value)} {d : Nat} {h : pm_H} (hd : 1 ≤ d) (I : pw_I h) (k : Int) (hk1 : 0 ≤ k) (hk2 : k ≤ 23) (mo : Int) (hmo1 : 0 ≤ mo) (hmo2 : mo ≤ 11) : pw X d h 22 0 [some (.ref 113), some (pw_i k), some (pw_i mo)] [] (fun h' v => h = h' ∧ ∃ a : Int, v = .inl (some (pw_i a)) ∧ 0 ≤ a ∧ a ≤ 99 ∧ (a = max 0 (pw_g h 98 (k * 12 + mo).toNat) % 100)) := by
  have E : pm_ent 22 = some (3, 3, 2, 0, pmc_22) := rfl
  refine pw_ld E (pc' := 1) (st' := [pw_i 0]) rfl (fun _ => rfl) ?_
  refine pw_ld E (pc' := 2) (st' := [.ref 113, pw_i 0]) rfl (fun _ => rfl) ?_
  refine pw_getR (b := 114) I E (c := 97) (k := 0) (pc' := 5) rfl rfl rfl rfl rfl rfl rfl ?_
  refine pw_ld E (pc' := 6) (st' := [pw_i k, .ref 114, pw_i 0]) rfl (fun _ => rfl) ?_
  refine pw_bip E (pc' := 8) rfl rfl (by decide) ?_
  refine pw_mul E (pc' := 9) rfl rfl ?_
  refine pw_ld E (pc' := 10) (st' := [pw_i mo, pw_i (k * 12), .ref 114, pw_i 0]) rfl (fun _ => rfl) ?_
  refine pw_add E (pc' := 11) rfl rfl ?_
  refine pw_ald2 I E (c := 98) (pc' := 12) rfl rfl rfl (by decide) rfl (by decide) (by omega) (by omega) rfl (fun hf1a hf1b => ?_)
  refine pw_max E rfl rfl (by decide) (by decide) (by omega) (by omega) rfl ?_
  refine pw_bip E (pc' := 17) rfl rfl (by decide) ?_
  refine pw_rem E (pc' := 18) rfl rfl (by omega) (by omega) (by decide) (by decide) ?_
  refine pw_iret E rfl ?_
  exact ⟨rfl, ⟨_, rfl, by omega, by omega, by omega⟩⟩
set_option maxHeartbeats 4000000 in
theorem cm_18_97x {X : List (Nat × List Value)} {d : Nat} {h : pm_H} (hd : 1 ≤ d) (I : pw_I h) (k : Int) (hk1 : 0 ≤ k) (hk2 : k ≤ 23) (mo : Int) (hmo1 : 0 ≤ mo) (hmo2 : mo ≤ 11) (wh : Int) (hwh1 : 0 ≤ wh) (hwh2 : wh ≤ 99) (hf : Int) (hhf1 : 0 ≤ hf) (hhf2 : hf ≤ 99) : pw X d h 18 0 [some (.ref 113), some (pw_i k), some (pw_i mo), some (pw_i wh), some (pw_i hf)] [] (fun h' v => pw_I h' ∧ pw_E [98] h h' ∧ (pw_up h h' 98 (k * 12 + mo) (wh * 100 + hf)) ∧ (v = .inl none)) := by
  have E : pm_ent 18 = some (5, 5, 2, 4, pmc_18) := rfl
  have E0 : pw_E [98] h h := pw_E.rf _ _
  refine pw_ld E (pc' := 1) (st' := [.ref 113]) rfl (fun _ => rfl) ?_
  refine pw_getR (b := 114) I E (c := 97) (k := 0) (pc' := 4) rfl rfl rfl rfl rfl rfl rfl ?_
  refine pw_ld E (pc' := 5) (st' := [pw_i k, .ref 114]) rfl (fun _ => rfl) ?_
  refine pw_bip E (pc' := 7) rfl rfl (by decide) ?_
  refine pw_mul E (pc' := 8) rfl rfl ?_
  refine pw_ld E (pc' := 9) (st' := [pw_i mo, pw_i (k * 12), .ref 114]) rfl (fun _ => rfl) ?_
  refine pw_add E (pc' := 10) rfl rfl ?_
  refine pw_ld E (pc' := 11) (st' := [pw_i wh, pw_i ((k * 12) + mo), .ref 114]) rfl (fun _ => rfl) ?_
  refine pw_bip E (pc' := 13) rfl rfl (by decide) ?_
  refine pw_mul E (pc' := 14) rfl rfl ?_
  refine pw_ld E (pc' := 16) (st' := [pw_i hf, pw_i (wh * 100), pw_i ((k * 12) + mo), .ref 114]) rfl (fun _ => rfl) ?_
  refine pw_add E (pc' := 17) rfl rfl ?_
  refine pw_ast0 I E (c := 98) (pc' := 18) rfl rfl rfl (by decide) rfl (by decide) (by omega) (by omega) rfl (by omega) (by omega) (by omega) (by omega) rfl ?_
  intro h1I h1E
  generalize h1w : pw_w h 98 (((k * 12) + mo).toNat) (pw_i ((wh * 100) + hf)) = h1 at h1I h1E ⊢
  have h1F := E0.tr (h1E.wk (W' := [98]) (by first | rfl | simp))
  refine pw_vret E rfl ?_
  have hl3 : ∀ j : Nat, pw_g h1 98 j = pw_g h1 98 j := fun j => rfl
  have hl4 : ∀ j : Nat, pw_g h 98 j = pw_g h 98 j := fun j => rfl
  have hu2a : pw_g h1 98 (((k * 12) + mo).toNat) = (wh * 100) + hf := by rw [← h1w]; exact pw_g_eqA I rfl (by omega) (by omega) (by omega)
  have hu2b : ∀ j : Nat, j ≠ ((k * 12) + mo).toNat → pw_g h1 98 j = pw_g h 98 j := fun j hj => by rw [← h1w]; exact pw_g_ne (fun q => hj q.2.symm)
  exact ⟨h1I, h1F, ⟨(hl3 _).trans hu2a, fun j hj => (hl3 j).trans ((hu2b j hj).trans (hl4 j))⟩, rfl⟩
set_option maxHeartbeats 4000000 in
theorem cm_16_97x {X : List (Nat × List Value)} {d : Nat} {h : pm_H} (hd : 1 ≤ d) (I : pw_I h) (k : Int) (hk1 : 0 ≤ k) (hk2 : k ≤ 23) (mo : Int) (hmo1 : 0 ≤ mo) (hmo2 : mo ≤ 11) : pw X d h 16 0 [some (.ref 113), some (pw_i k), some (pw_i mo)] [] (fun h' v => pw_I h' ∧ pw_E [98] h h' ∧ (pw_up h h' 98 (k * 12 + mo) (-1)) ∧ (v = .inl none)) := by
  have E : pm_ent 16 = some (3, 3, 2, 4, pmc_16) := rfl
  have E0 : pw_E [98] h h := pw_E.rf _ _
  refine pw_ld E (pc' := 1) (st' := [.ref 113]) rfl (fun _ => rfl) ?_
  refine pw_getR (b := 114) I E (c := 97) (k := 0) (pc' := 4) rfl rfl rfl rfl rfl rfl rfl ?_
  refine pw_ld E (pc' := 5) (st' := [pw_i k, .ref 114]) rfl (fun _ => rfl) ?_
  refine pw_bip E (pc' := 7) rfl rfl (by decide) ?_
  refine pw_mul E (pc' := 8) rfl rfl ?_
  refine pw_ld E (pc' := 9) (st' := [pw_i mo, pw_i (k * 12), .ref 114]) rfl (fun _ => rfl) ?_
  refine pw_add E (pc' := 10) rfl rfl ?_
  refine pw_ld E (pc' := 11) (st' := [pw_i ((-1)), pw_i ((k * 12) + mo), .ref 114]) rfl (fun _ => rfl) ?_
  refine pw_ast0 I E (c := 98) (pc' := 12) rfl rfl rfl (by decide) rfl (by decide) (by omega) (by omega) rfl (by omega) (by omega) (by omega) (by omega) rfl ?_
  intro h1I h1E
  generalize h1w : pw_w h 98 (((k * 12) + mo).toNat) (pw_i ((-1))) = h1 at h1I h1E ⊢
  have h1F := E0.tr (h1E.wk (W' := [98]) (by first | rfl | simp))
  refine pw_vret E rfl ?_
  have hl3 : ∀ j : Nat, pw_g h1 98 j = pw_g h1 98 j := fun j => rfl
  have hl4 : ∀ j : Nat, pw_g h 98 j = pw_g h 98 j := fun j => rfl
  have hu2a : pw_g h1 98 (((k * 12) + mo).toNat) = (-1) := by rw [← h1w]; exact pw_g_eqA I rfl (by omega) (by omega) (by omega)
  have hu2b : ∀ j : Nat, j ≠ ((k * 12) + mo).toNat → pw_g h1 98 j = pw_g h 98 j := fun j hj => by rw [← h1w]; exact pw_g_ne (fun q => hj q.2.symm)
  exact ⟨h1I, h1F, ⟨(hl3 _).trans hu2a, fun j hj => (hl3 j).trans ((hu2b j hj).trans (hl4 j))⟩, rfl⟩
set_option maxHeartbeats 4000000 in
theorem cm_25_97x {X : List (Nat × List Value)} {d : Nat} {h : pm_H} (hd : 1 ≤ d) (I : pw_I h)  : pw X d h 25 0 [some (.ref 113), some (.ref 26)] [] (fun h' v => pw_I h' ∧ pw_E [98] h h' ∧ (∀ j : Nat, pw_g h' 98 j = pw_g h 11 j) ∧ (v = .inl none)) := by
  have E : pm_ent 25 = some (2, 2, 2, 4, pmc_25) := rfl
  have E0 : pw_E [98] h h := pw_E.rf _ _
  refine pw_ld E (pc' := 1) (st' := [.ref 26]) rfl (fun _ => rfl) ?_
  refine pw_getR (b := 27) I E (c := 10) (k := 0) (pc' := 4) rfl rfl rfl rfl rfl rfl rfl ?_
  refine pw_ld E (pc' := 5) (st' := [pw_i 0, .ref 27]) rfl (fun _ => rfl) ?_
  refine pw_ld E (pc' := 6) (st' := [.ref 113, pw_i 0, .ref 27]) rfl (fun _ => rfl) ?_
  refine pw_getR (b := 114) I E (c := 97) (k := 0) (pc' := 9) rfl rfl rfl rfl rfl rfl rfl ?_
  refine pw_ld E (pc' := 10) (st' := [pw_i 0, .ref 114, pw_i 0, .ref 27]) rfl (fun _ => rfl) ?_
  refine pw_ld E (pc' := 11) (st' := [.ref 113, pw_i 0, .ref 114, pw_i 0, .ref 27]) rfl (fun _ => rfl) ?_
  refine pw_getR (b := 114) I E (c := 97) (k := 0) (pc' := 14) rfl rfl rfl rfl rfl rfl rfl ?_
  obtain ⟨z1l, z1h, z1n, -⟩ := pw_arr (c := 98) I rfl
  refine pw_alen E (pc' := 15) rfl (pw_rowI z1h rfl) rfl rfl ?_
  rw [z1n]
  refine pw_copy I E (c := 11) (c2 := 98) rfl rfl rfl rfl (by decide) rfl rfl rfl ?_
  intro h2 h2I h2E h2Q
  have h2F := E0.tr (h2E.wk (W' := [98]) (by first | rfl | simp))
  refine pw_vret E rfl ?_
  exact ⟨h2I, h2F, fun j => congrArg pw_iv (h2Q j), rfl⟩
set_option maxHeartbeats 4000000 in
theorem cm_2_x {X : List (Nat × List Value)} {d : Nat} {h : pm_H} (hd : 1 ≤ d) (I : pw_I h) (b : Int) (hb1 : 0 ≤ b) (hb2 : b ≤ 1) (mo : Int) (hmo1 : 0 ≤ mo) (hmo2 : mo ≤ 11) : pw X d h 2 0 [some (.ref 23), some (pw_i b), some (pw_i mo)] [] (fun h' v => h = h' ∧ ∃ a : Int, v = .inl (some (pw_i a)) ∧ 0 ≤ a ∧ a ≤ 999 ∧ (a = pw_g h 8 (b * 12 + mo).toNat)) := by
  have E : pm_ent 2 = some (3, 3, 0, 0, pmc_2) := rfl
  refine pw_ld E (pc' := 1) (st' := [.ref 23]) rfl (fun _ => rfl) ?_
  refine pw_getR (b := 24) I E (c := 7) (k := 0) (pc' := 4) rfl rfl rfl rfl rfl rfl rfl ?_
  refine pw_ld E (pc' := 5) (st' := [pw_i b, .ref 24]) rfl (fun _ => rfl) ?_
  refine pw_bip E (pc' := 7) rfl rfl (by decide) ?_
  refine pw_mul E (pc' := 8) rfl rfl ?_
  refine pw_ld E (pc' := 9) (st' := [pw_i mo, pw_i (b * 12), .ref 24]) rfl (fun _ => rfl) ?_
  refine pw_add E (pc' := 10) rfl rfl ?_
  refine pw_ald2 I E (c := 8) (pc' := 11) rfl rfl rfl (by decide) rfl (by decide) (by omega) (by omega) rfl (fun hf1a hf1b => ?_)
  refine pw_iret E rfl ?_
  exact ⟨rfl, ⟨_, rfl, by omega, by omega, by omega⟩⟩
set_option maxHeartbeats 4000000 in
theorem cm_3_x {X : List (Nat × List Value)} {d : Nat} {h : pm_H} (hd : 1 ≤ d) (I : pw_I h) (b : Int) (hb1 : 0 ≤ b) (hb2 : b ≤ 1) (mo : Int) (hmo1 : 0 ≤ mo) (hmo2 : mo ≤ 11) : pw X d h 3 0 [some (.ref 23), some (pw_i b), some (pw_i mo)] [] (fun h' v => h = h' ∧ ∃ a : Int, v = .inl (some (pw_i a)) ∧ (-99) ≤ a ∧ a ≤ 99 ∧ (a = pw_g h 9 (b * 12 + mo).toNat)) := by
  have E : pm_ent 3 = some (3, 3, 0, 0, pmc_3) := rfl
  refine pw_ld E (pc' := 1) (st' := [.ref 23]) rfl (fun _ => rfl) ?_
  refine pw_getR (b := 25) I E (c := 7) (k := 1) (pc' := 4) rfl rfl rfl rfl rfl rfl rfl ?_
  refine pw_ld E (pc' := 5) (st' := [pw_i b, .ref 25]) rfl (fun _ => rfl) ?_
  refine pw_bip E (pc' := 7) rfl rfl (by decide) ?_
  refine pw_mul E (pc' := 8) rfl rfl ?_
  refine pw_ld E (pc' := 9) (st' := [pw_i mo, pw_i (b * 12), .ref 25]) rfl (fun _ => rfl) ?_
  refine pw_add E (pc' := 10) rfl rfl ?_
  refine pw_ald2 I E (c := 9) (pc' := 11) rfl rfl rfl (by decide) rfl (by decide) (by omega) (by omega) rfl (fun hf1a hf1b => ?_)
  refine pw_iret E rfl ?_
  exact ⟨rfl, ⟨_, rfl, by omega, by omega, by omega⟩⟩
set_option maxHeartbeats 4000000 in
theorem cm_116_x {X : List (Nat × List Value)} {d : Nat} {h : pm_H} (hd : 1 ≤ d) (I : pw_I h) (hs : Int) (hhs1 : (-2147483648) ≤ hs) (hhs2 : hs ≤ 2147483647) : pw X d h 116 0 [some (pw_i hs)] [] (fun h' v => h = h' ∧ ∃ a : Int, v = .inl (some (pw_i a)) ∧ 0 ≤ a ∧ a ≤ 99 ∧ (a = pu_cl hs)) := by
  have E : pm_ent 116 = some (1, 1, 10, 0, pmc_116) := rfl
  refine pw_ld E (pc' := 1) (st' := [pw_i 0]) rfl (fun _ => rfl) ?_
  refine pw_bip E (pc' := 3) rfl rfl (by decide) ?_
  refine pw_ld E (pc' := 4) (st' := [pw_i hs, pw_i 99, pw_i 0]) rfl (fun _ => rfl) ?_
  refine pw_min E rfl rfl (by decide) (by decide) (by omega) (by omega) rfl ?_
  refine pw_max E rfl rfl (by decide) (by decide) (by omega) (by omega) rfl ?_
  refine pw_iret E rfl ?_
  exact ⟨rfl, ⟨_, rfl, by omega, by omega, pu_clM _⟩⟩
set_option maxHeartbeats 4000000 in
theorem cm_115_x {X : List (Nat × List Value)} {d : Nat} {h : pm_H} (hd : 2 ≤ d) (I : pw_I h) (k : Int) (hk1 : 0 ≤ k) (hk2 : k ≤ 23) (mo : Int) (hmo1 : 1 ≤ mo) (hmo2 : mo ≤ 11) (ws : Int) (hws1 : 0 ≤ ws) (hws2 : ws ≤ 1) (hp0 : (ws = 1 ∧ (pw_g h 98 (k * 12 + (mo - 1)).toNat) = -1) ∨ (ws = 0 ∧ (pw_g h 98 (k * 12 + (mo - 1)).toNat) ≠ -1)) (hp1 : 0 ≤ pw_gm h 96 5) (hp2 : pw_gm h 96 5 ≤ 2147483647) : pw X d h 115 0 [some (.ref 112), some (pw_i k), some (pw_i mo), some (pw_i ws), none, none, none] [] (fun h' v => pw_I h' ∧ pw_E [99] h h' ∧ (pe_F h' 99 10 = pu_ft (pw_g h 98 (k * 12 + (mo - 1)).toNat) (pw_g h 5 k.toNat) (pw_g h 8 ((pw_g h 4 k.toNat) * 12 + mo).toNat) (pw_g h 4 k.toNat) mo (pw_g h 9 ((pw_g h 4 k.toNat) * 12 + mo).toNat) (pu_d (pw_gm h 96 5))) ∧ (v = .inl none)) := by
  have E : pm_ent 115 = some (4, 7, 10, 4, pmc_115) := rfl
  have E0 : pw_E [99] h h := pw_E.rf _ _
  refine pw_ld E (pc' := 1) (st' := [.ref 112]) rfl (fun _ => rfl) ?_
  refine pw_getR (b := 17) I E (c := 96) (k := 0) (pc' := 4) rfl rfl rfl rfl rfl rfl rfl ?_
  refine pw_ld E (pc' := 5) (st' := [pw_i k, .ref 17]) rfl (fun _ => rfl) ?_
  obtain ⟨f1l, f1h, -⟩ := pw_obj (c := 1) I rfl
  refine pw_call (m' := 60) (As := [.ref 17, pw_i k]) (rest := []) (ls'' := [some (.ref 17), some (pw_i k)]) (Nat.le_trans (by decide) hd) E rfl (fun _ => pw_iV rfl rfl rfl rfl (pw_cellI f1h rfl)) (rfl : pm_ent 60 = some (2, 2, 6, 0, pmc_60)) rfl rfl (cm_60 (pw_dp hd (by decide)) I (k) (by omega) (by omega)) ?_
  rintro u3 v2 ⟨rfl, x4, rfl, hx4a, hx4b, hx4r⟩
  refine ⟨_, rfl, ?_⟩
  show pw X d h 115 8 [some (.ref 112), some (pw_i k), some (pw_i mo), some (pw_i ws), none, none, none] [pw_i x4] _
  change x4 = pw_g h 4 k.toNat at hx4r
  refine pw_ist E (pc' := 10) (ls' := [some (.ref 112), some (pw_i k), some (pw_i mo), some (pw_i ws), some (pw_i x4), none, none]) rfl rfl rfl rfl ?_
  refine pw_ld E (pc' := 11) (st' := [.ref 112]) rfl (fun _ => rfl) ?_
  refine pw_getR (b := 17) I E (c := 96) (k := 0) (pc' := 14) rfl rfl rfl rfl rfl rfl rfl ?_
  refine pw_ld E (pc' := 15) (st' := [pw_i k, .ref 17]) rfl (fun _ => rfl) ?_
  obtain ⟨f5l, f5h, -⟩ := pw_obj (c := 1) I rfl
  refine pw_call (m' := 64) (As := [.ref 17, pw_i k]) (rest := []) (ls'' := [some (.ref 17), some (pw_i k)]) (Nat.le_trans (by decide) hd) E rfl (fun _ => pw_iV rfl rfl rfl rfl (pw_cellI f5h rfl)) (rfl : pm_ent 64 = some (2, 2, 6, 0, pmc_64)) rfl rfl (cm_64 (pw_dp hd (by decide)) I (k) (by omega) (by omega)) ?_
  rintro u7 v6 ⟨rfl, x8, rfl, hx8a, hx8b, hx8r⟩
  refine ⟨_, rfl, ?_⟩
  show pw X d h 115 18 [some (.ref 112), some (pw_i k), some (pw_i mo), some (pw_i ws), some (pw_i x4), none, none] [pw_i x8] _
  change x8 = pw_g h 5 k.toNat at hx8r
  refine pw_ist E (pc' := 20) (ls' := [some (.ref 112), some (pw_i k), some (pw_i mo), some (pw_i ws), some (pw_i x4), some (pw_i x8), none]) rfl rfl rfl rfl ?_
  refine pw_ld E (pc' := 21) (st' := [.ref 112]) rfl (fun _ => rfl) ?_
  refine pw_getR (b := 23) I E (c := 96) (k := 2) (pc' := 24) rfl rfl rfl rfl rfl rfl rfl ?_
  refine pw_ld E (pc' := 26) (st' := [pw_i x4, .ref 23]) rfl (fun _ => rfl) ?_
  refine pw_ld E (pc' := 27) (st' := [pw_i mo, pw_i x4, .ref 23]) rfl (fun _ => rfl) ?_
  obtain ⟨f9l, f9h, -⟩ := pw_obj (c := 7) I rfl
  refine pw_call (m' := 2) (As := [.ref 23, pw_i x4, pw_i mo]) (rest := []) (ls'' := [some (.ref 23), some (pw_i x4), some (pw_i mo)]) (Nat.le_trans (by decide) hd) E rfl (fun _ => pw_iV rfl rfl rfl rfl (pw_cellI f9h rfl)) (rfl : pm_ent 2 = some (3, 3, 0, 0, pmc_2)) rfl rfl (cm_2_x (pw_dp hd (by decide)) I (x4) (by omega) (by omega) (mo) (by omega) (by omega)) ?_
  rintro u11 v10 ⟨rfl, x12, rfl, hx12a, hx12b, hx12r⟩
  refine ⟨_, rfl, ?_⟩
  show pw X d h 115 30 [some (.ref 112), some (pw_i k), some (pw_i mo), some (pw_i ws), some (pw_i x4), some (pw_i x8), none] [pw_i x12] _
  change x12 = pw_g h 8 (x4 * 12 + mo).toNat at hx12r
  refine pw_ist E (pc' := 32) (ls' := [some (.ref 112), some (pw_i k), some (pw_i mo), some (pw_i ws), some (pw_i x4), some (pw_i x8), some (pw_i x12)]) rfl rfl rfl rfl ?_
  refine pw_ld E (pc' := 33) (st' := [.ref 112]) rfl (fun _ => rfl) ?_
  refine pw_getR (b := 115) I E (c := 96) (k := 4) (pc' := 36) rfl rfl rfl rfl rfl rfl rfl ?_
  refine pw_ld E (pc' := 37) (st' := [pw_i 0, .ref 115]) rfl (fun _ => rfl) ?_
  refine pw_ld E (pc' := 38) (st' := [.ref 112, pw_i 0, .ref 115]) rfl (fun _ => rfl) ?_
  refine pw_getR (b := 113) I E (c := 96) (k := 3) (pc' := 41) rfl rfl rfl rfl rfl rfl rfl ?_
  refine pw_ld E (pc' := 42) (st' := [pw_i k, .ref 113, pw_i 0, .ref 115]) rfl (fun _ => rfl) ?_
  refine pw_ld E (pc' := 43) (st' := [pw_i mo, pw_i k, .ref 113, pw_i 0, .ref 115]) rfl (fun _ => rfl) ?_
  refine pw_ld E (pc' := 44) (st' := [pw_i 1, pw_i mo, pw_i k, .ref 113, pw_i 0, .ref 115]) rfl (fun _ => rfl) ?_
  refine pw_sub E (pc' := 45) rfl rfl ?_
  obtain ⟨f13l, f13h, -⟩ := pw_obj (c := 97) I rfl
  refine pw_call (m' := 21) (As := [.ref 113, pw_i k, pw_i (mo - 1)]) (rest := [pw_i 0, .ref 115]) (ls'' := [some (.ref 113), some (pw_i k), some (pw_i (mo - 1))]) (Nat.le_trans (by decide) hd) E rfl (fun _ => pw_iV rfl rfl rfl rfl (pw_cellI f13h rfl)) (rfl : pm_ent 21 = some (3, 3, 2, 0, pmc_21)) rfl rfl (cm_21_97x (pw_dp hd (by decide)) I (k) (by omega) (by omega) (mo - 1) (by omega) (by omega)) ?_
  rintro u15 v14 ⟨rfl, x16, rfl, hx16a, hx16b, hx16r⟩
  refine ⟨_, rfl, ?_⟩
  show pw X d h 115 48 [some (.ref 112), some (pw_i k), some (pw_i mo), some (pw_i ws), some (pw_i x4), some (pw_i x8), some (pw_i x12)] [pw_i x16, pw_i 0, .ref 115] _
  change x16 = max 0 (pw_g h 98 (k * 12 + (mo - 1)).toNat) / 100 at hx16r
  refine pw_ast0 I E (c := 99) (pc' := 49) rfl rfl rfl (by decide) rfl (by decide) (by omega) (by omega) rfl (by omega) (by omega) (by omega) (by omega) rfl ?_
  intro h17I h17E
  generalize h17w : pw_w h 99 (Int.toNat 0) (pw_i x16) = h17 at h17I h17E ⊢
  have h17F := E0.tr (h17E.wk (W' := [99]) (by first | rfl | simp))
  refine pw_ld E (pc' := 50) (st' := [.ref 112]) rfl (fun _ => rfl) ?_
  refine pw_getR (b := 115) h17I E (c := 96) (k := 4) (pc' := 53) rfl rfl rfl rfl rfl rfl rfl ?_
  refine pw_ld E (pc' := 54) (st' := [pw_i 1, .ref 115]) rfl (fun _ => rfl) ?_
  refine pw_ld E (pc' := 55) (st' := [.ref 112, pw_i 1, .ref 115]) rfl (fun _ => rfl) ?_
  refine pw_getR (b := 113) h17I E (c := 96) (k := 3) (pc' := 58) rfl rfl rfl rfl rfl rfl rfl ?_
  refine pw_ld E (pc' := 59) (st' := [pw_i k, .ref 113, pw_i 1, .ref 115]) rfl (fun _ => rfl) ?_
  refine pw_ld E (pc' := 60) (st' := [pw_i mo, pw_i k, .ref 113, pw_i 1, .ref 115]) rfl (fun _ => rfl) ?_
  refine pw_ld E (pc' := 61) (st' := [pw_i 1, pw_i mo, pw_i k, .ref 113, pw_i 1, .ref 115]) rfl (fun _ => rfl) ?_
  refine pw_sub E (pc' := 62) rfl rfl ?_
  obtain ⟨f18l, f18h, -⟩ := pw_obj (c := 97) h17I rfl
  refine pw_call (m' := 22) (As := [.ref 113, pw_i k, pw_i (mo - 1)]) (rest := [pw_i 1, .ref 115]) (ls'' := [some (.ref 113), some (pw_i k), some (pw_i (mo - 1))]) (Nat.le_trans (by decide) hd) E rfl (fun _ => pw_iV rfl rfl rfl rfl (pw_cellI f18h rfl)) (rfl : pm_ent 22 = some (3, 3, 2, 0, pmc_22)) rfl rfl (cm_22_97x (pw_dp hd (by decide)) h17I (k) (by omega) (by omega) (mo - 1) (by omega) (by omega)) ?_
  rintro u20 v19 ⟨rfl, x21, rfl, hx21a, hx21b, hx21r⟩
  refine ⟨_, rfl, ?_⟩
  show pw X d h17 115 65 [some (.ref 112), some (pw_i k), some (pw_i mo), some (pw_i ws), some (pw_i x4), some (pw_i x8), some (pw_i x12)] [pw_i x21, pw_i 1, .ref 115] _
  change x21 = max 0 (pw_g h17 98 (k * 12 + (mo - 1)).toNat) % 100 at hx21r
  refine pw_ast0 h17I E (c := 99) (pc' := 66) rfl rfl rfl (by decide) rfl (by decide) (by omega) (by omega) rfl (by omega) (by omega) (by omega) (by omega) rfl ?_
  intro h22I h22E
  generalize h22w : pw_w h17 99 (Int.toNat 1) (pw_i x21) = h22 at h22I h22E ⊢
  have h22F := h17F.tr (h22E.wk (W' := [99]) (by first | rfl | simp))
  refine pw_ld E (pc' := 67) (st' := [.ref 112]) rfl (fun _ => rfl) ?_
  refine pw_getR (b := 115) h22I E (c := 96) (k := 4) (pc' := 70) rfl rfl rfl rfl rfl rfl rfl ?_
  refine pw_ld E (pc' := 71) (st' := [pw_i 2, .ref 115]) rfl (fun _ => rfl) ?_
  refine pw_ld E (pc' := 73) (st' := [pw_i x8, pw_i 2, .ref 115]) rfl (fun _ => rfl) ?_
  refine pw_ast0 h22I E (c := 99) (pc' := 74) rfl rfl rfl (by decide) rfl (by decide) (by omega) (by omega) rfl (by omega) (by omega) (by omega) (by omega) rfl ?_
  intro h23I h23E
  generalize h23w : pw_w h22 99 (Int.toNat 2) (pw_i x8) = h23 at h23I h23E ⊢
  have h23F := h22F.tr (h23E.wk (W' := [99]) (by first | rfl | simp))
  refine pw_ld E (pc' := 75) (st' := [.ref 112]) rfl (fun _ => rfl) ?_
  refine pw_getR (b := 115) h23I E (c := 96) (k := 4) (pc' := 78) rfl rfl rfl rfl rfl rfl rfl ?_
  refine pw_ld E (pc' := 79) (st' := [pw_i 3, .ref 115]) rfl (fun _ => rfl) ?_
  refine pw_ld E (pc' := 81) (st' := [pw_i x12, pw_i 3, .ref 115]) rfl (fun _ => rfl) ?_
  refine pw_ast0 h23I E (c := 99) (pc' := 82) rfl rfl rfl (by decide) rfl (by decide) (by omega) (by omega) rfl (by omega) (by omega) (by omega) (by omega) rfl ?_
  intro h24I h24E
  generalize h24w : pw_w h23 99 (Int.toNat 3) (pw_i x12) = h24 at h24I h24E ⊢
  have h24F := h23F.tr (h24E.wk (W' := [99]) (by first | rfl | simp))
  refine pw_ld E (pc' := 83) (st' := [.ref 112]) rfl (fun _ => rfl) ?_
  refine pw_getR (b := 115) h24I E (c := 96) (k := 4) (pc' := 86) rfl rfl rfl rfl rfl rfl rfl ?_
  refine pw_ld E (pc' := 87) (st' := [pw_i 4, .ref 115]) rfl (fun _ => rfl) ?_
  refine pw_ld E (pc' := 88) (st' := [pw_i 0, pw_i 4, .ref 115]) rfl (fun _ => rfl) ?_
  refine pw_ld E (pc' := 90) (st' := [pw_i x12, pw_i 0, pw_i 4, .ref 115]) rfl (fun _ => rfl) ?_
  refine pw_ld E (pc' := 92) (st' := [pw_i x8, pw_i x12, pw_i 0, pw_i 4, .ref 115]) rfl (fun _ => rfl) ?_
  refine pw_sub E (pc' := 93) rfl rfl ?_
  refine pw_max E rfl rfl (by decide) (by decide) (by omega) (by omega) rfl ?_
  refine pw_ast0 h24I E (c := 99) (pc' := 97) rfl rfl rfl (by decide) rfl (by decide) (by omega) (by omega) rfl (by omega) (by omega) (by omega) (by omega) rfl ?_
  intro h25I h25E
  generalize h25w : pw_w h24 99 (Int.toNat 4) (pw_i (max 0 (x12 - x8))) = h25 at h25I h25E ⊢
  have h25F := h24F.tr (h25E.wk (W' := [99]) (by first | rfl | simp))
  refine pw_ld E (pc' := 98) (st' := [.ref 112]) rfl (fun _ => rfl) ?_
  refine pw_getR (b := 115) h25I E (c := 96) (k := 4) (pc' := 101) rfl rfl rfl rfl rfl rfl rfl ?_
  refine pw_ld E (pc' := 102) (st' := [pw_i 5, .ref 115]) rfl (fun _ => rfl) ?_
  refine pw_ld E (pc' := 104) (st' := [pw_i x4, pw_i 5, .ref 115]) rfl (fun _ => rfl) ?_
  refine pw_ast0 h25I E (c := 99) (pc' := 105) rfl rfl rfl (by decide) rfl (by decide) (by omega) (by omega) rfl (by omega) (by omega) (by omega) (by omega) rfl ?_
  intro h26I h26E
  generalize h26w : pw_w h25 99 (Int.toNat 5) (pw_i x4) = h26 at h26I h26E ⊢
  have h26F := h25F.tr (h26E.wk (W' := [99]) (by first | rfl | simp))
  refine pw_ld E (pc' := 106) (st' := [.ref 112]) rfl (fun _ => rfl) ?_
  refine pw_getR (b := 115) h26I E (c := 96) (k := 4) (pc' := 109) rfl rfl rfl rfl rfl rfl rfl ?_
  refine pw_bip E (pc' := 111) rfl rfl (by decide) ?_
  refine pw_ld E (pc' := 112) (st' := [pw_i mo, pw_i 6, .ref 115]) rfl (fun _ => rfl) ?_
  refine pw_ast0 h26I E (c := 99) (pc' := 113) rfl rfl rfl (by decide) rfl (by decide) (by omega) (by omega) rfl (by omega) (by omega) (by omega) (by omega) rfl ?_
  intro h27I h27E
  generalize h27w : pw_w h26 99 (Int.toNat 6) (pw_i mo) = h27 at h27I h27E ⊢
  have h27F := h26F.tr (h27E.wk (W' := [99]) (by first | rfl | simp))
  refine pw_ld E (pc' := 114) (st' := [.ref 112]) rfl (fun _ => rfl) ?_
  refine pw_getR (b := 115) h27I E (c := 96) (k := 4) (pc' := 117) rfl rfl rfl rfl rfl rfl rfl ?_
  refine pw_bip E (pc' := 119) rfl rfl (by decide) ?_
  refine pw_ld E (pc' := 120) (st' := [.ref 112, pw_i 7, .ref 115]) rfl (fun _ => rfl) ?_
  refine pw_getR (b := 23) h27I E (c := 96) (k := 2) (pc' := 123) rfl rfl rfl rfl rfl rfl rfl ?_
  refine pw_ld E (pc' := 125) (st' := [pw_i x4, .ref 23, pw_i 7, .ref 115]) rfl (fun _ => rfl) ?_
  refine pw_ld E (pc' := 126) (st' := [pw_i mo, pw_i x4, .ref 23, pw_i 7, .ref 115]) rfl (fun _ => rfl) ?_
  obtain ⟨f28l, f28h, -⟩ := pw_obj (c := 7) h27I rfl
  refine pw_call (m' := 3) (As := [.ref 23, pw_i x4, pw_i mo]) (rest := [pw_i 7, .ref 115]) (ls'' := [some (.ref 23), some (pw_i x4), some (pw_i mo)]) (Nat.le_trans (by decide) hd) E rfl (fun _ => pw_iV rfl rfl rfl rfl (pw_cellI f28h rfl)) (rfl : pm_ent 3 = some (3, 3, 0, 0, pmc_3)) rfl rfl (cm_3_x (pw_dp hd (by decide)) h27I (x4) (by omega) (by omega) (mo) (by omega) (by omega)) ?_
  rintro u30 v29 ⟨rfl, x31, rfl, hx31a, hx31b, hx31r⟩
  refine ⟨_, rfl, ?_⟩
  show pw X d h27 115 129 [some (.ref 112), some (pw_i k), some (pw_i mo), some (pw_i ws), some (pw_i x4), some (pw_i x8), some (pw_i x12)] [pw_i x31, pw_i 7, .ref 115] _
  change x31 = pw_g h27 9 (x4 * 12 + mo).toNat at hx31r
  refine pw_ast0 h27I E (c := 99) (pc' := 130) rfl rfl rfl (by decide) rfl (by decide) (by omega) (by omega) rfl (by omega) (by omega) (by omega) (by omega) rfl ?_
  intro h32I h32E
  generalize h32w : pw_w h27 99 (Int.toNat 7) (pw_i x31) = h32 at h32I h32E ⊢
  have h32F := h27F.tr (h32E.wk (W' := [99]) (by first | rfl | simp))
  refine pw_ld E (pc' := 131) (st' := [.ref 112]) rfl (fun _ => rfl) ?_
  refine pw_getR (b := 115) h32I E (c := 96) (k := 4) (pc' := 134) rfl rfl rfl rfl rfl rfl rfl ?_
  refine pw_bip E (pc' := 136) rfl rfl (by decide) ?_
  refine pw_ld E (pc' := 137) (st' := [.ref 112, pw_i 8, .ref 115]) rfl (fun _ => rfl) ?_
  have he33 : pw_gm h32 96 5 = pw_gm h27 96 5 := by rw [← h32w]; exact pw_gm_ne (by omega)
  have he34 : pw_gm h27 96 5 = pw_gm h26 96 5 := by rw [← h27w]; exact pw_gm_ne (by omega)
  have he35 : pw_gm h26 96 5 = pw_gm h25 96 5 := by rw [← h26w]; exact pw_gm_ne (by omega)
  have he36 : pw_gm h25 96 5 = pw_gm h24 96 5 := by rw [← h25w]; exact pw_gm_ne (by omega)
  have he37 : pw_gm h24 96 5 = pw_gm h23 96 5 := by rw [← h24w]; exact pw_gm_ne (by omega)
  have he38 : pw_gm h23 96 5 = pw_gm h22 96 5 := by rw [← h23w]; exact pw_gm_ne (by omega)
  have he39 : pw_gm h22 96 5 = pw_gm h17 96 5 := by rw [← h22w]; exact pw_gm_ne (by omega)
  have he40 : pw_gm h17 96 5 = pw_gm h 96 5 := by rw [← h17w]; exact pw_gm_ne (by omega)
  refine pw_getLM h32I E (c := 96) (k := 5) (pc' := 140) rfl rfl rfl rfl rfl rfl ?_
  refine pw_ld E (pc' := 143) (st' := [.long (Int64.ofInt 65536), .long (Int64.ofInt (pw_gm h32 96 5)), pw_i 8, .ref 115]) rfl (fun _ => rfl) ?_
  refine pw_ldivC E (pc' := 144) rfl rfl (by omega) (by omega) (by omega) (by omega) ?_
  have hd41 := pw_divB (a := pw_gm h32 96 5) (b := 65536) (by omega) (by omega)
  refine pw_ld E (pc' := 147) (st' := [.long (Int64.ofInt 10), .long (Int64.ofInt ((pw_gm h32 96 5) / 65536)), pw_i 8, .ref 115]) rfl (fun _ => rfl) ?_
  refine pw_lremC E (pc' := 148) rfl rfl (by omega) (by omega) (by omega) (by omega) ?_
  have hd42 := pw_remB (a := (pw_gm h32 96 5) / 65536) (b := 10) (by omega)
  refine pw_l2iC E (pc' := 149) rfl rfl ?_
  refine pw_ast0 h32I E (c := 99) (pc' := 150) rfl rfl rfl (by decide) rfl (by decide) (by omega) (by omega) rfl (by omega) (by omega) (by omega) (by omega) rfl ?_
  intro h43I h43E
  generalize h43w : pw_w h32 99 (Int.toNat 8) (pw_i (((pw_gm h32 96 5) / 65536) % 10)) = h43 at h43I h43E ⊢
  have h43F := h32F.tr (h43E.wk (W' := [99]) (by first | rfl | simp))
  refine pw_ld E (pc' := 151) (st' := [.ref 112]) rfl (fun _ => rfl) ?_
  refine pw_getR (b := 115) h43I E (c := 96) (k := 4) (pc' := 154) rfl rfl rfl rfl rfl rfl rfl ?_
  refine pw_bip E (pc' := 156) rfl rfl (by decide) ?_
  refine pw_ld E (pc' := 157) (st' := [pw_i ws, pw_i 9, .ref 115]) rfl (fun _ => rfl) ?_
  refine pw_if E (pc' := 164) rfl (by decide) (by omega) (by omega) ?_ ?_
  · intro hc44
    change ws = (0 : Int) at hc44
    refine pw_ld E (pc' := 165) (st' := [pw_i 0, pw_i 9, .ref 115]) rfl (fun _ => rfl) ?_
    refine pw_ast0 h43I E (c := 99) (pc' := 166) rfl rfl rfl (by decide) rfl (by decide) (by omega) (by omega) rfl (by omega) (by omega) (by omega) (by omega) rfl ?_
    intro h45I h45E
    generalize h45w : pw_w h43 99 (Int.toNat 9) (pw_i 0) = h45 at h45I h45E ⊢
    have h45F := h43F.tr (h45E.wk (W' := [99]) (by first | rfl | simp))
    have f0 : pw_g h45 99 0 = x16 := by
      rw [← h45w, pw_g_ne (by omega), ← h43w, pw_g_ne (by omega), ← h32w, pw_g_ne (by omega), ← h27w, pw_g_ne (by omega), ← h26w, pw_g_ne (by omega), ← h25w, pw_g_ne (by omega), ← h24w, pw_g_ne (by omega), ← h23w, pw_g_ne (by omega), ← h22w, pw_g_ne (by omega), ← h17w]
      exact pw_g_eqA I rfl (by decide) (by omega) (by omega)
    have f1 : pw_g h45 99 1 = x21 := by
      rw [← h45w, pw_g_ne (by omega), ← h43w, pw_g_ne (by omega), ← h32w, pw_g_ne (by omega), ← h27w, pw_g_ne (by omega), ← h26w, pw_g_ne (by omega), ← h25w, pw_g_ne (by omega), ← h24w, pw_g_ne (by omega), ← h23w, pw_g_ne (by omega), ← h22w]
      exact pw_g_eqA h17I rfl (by decide) (by omega) (by omega)
    have f2 : pw_g h45 99 2 = x8 := by
      rw [← h45w, pw_g_ne (by omega), ← h43w, pw_g_ne (by omega), ← h32w, pw_g_ne (by omega), ← h27w, pw_g_ne (by omega), ← h26w, pw_g_ne (by omega), ← h25w, pw_g_ne (by omega), ← h24w, pw_g_ne (by omega), ← h23w]
      exact pw_g_eqA h22I rfl (by decide) (by omega) (by omega)
    have f3 : pw_g h45 99 3 = x12 := by
      rw [← h45w, pw_g_ne (by omega), ← h43w, pw_g_ne (by omega), ← h32w, pw_g_ne (by omega), ← h27w, pw_g_ne (by omega), ← h26w, pw_g_ne (by omega), ← h25w, pw_g_ne (by omega), ← h24w]
      exact pw_g_eqA h23I rfl (by decide) (by omega) (by omega)
    have f4 : pw_g h45 99 4 = max 0 (x12 - x8) := by
      rw [← h45w, pw_g_ne (by omega), ← h43w, pw_g_ne (by omega), ← h32w, pw_g_ne (by omega), ← h27w, pw_g_ne (by omega), ← h26w, pw_g_ne (by omega), ← h25w]
      exact pw_g_eqA h24I rfl (by decide) (by omega) (by omega)
    have f5 : pw_g h45 99 5 = x4 := by
      rw [← h45w, pw_g_ne (by omega), ← h43w, pw_g_ne (by omega), ← h32w, pw_g_ne (by omega), ← h27w, pw_g_ne (by omega), ← h26w]
      exact pw_g_eqA h25I rfl (by decide) (by omega) (by omega)
    have f6 : pw_g h45 99 6 = mo := by
      rw [← h45w, pw_g_ne (by omega), ← h43w, pw_g_ne (by omega), ← h32w, pw_g_ne (by omega), ← h27w]
      exact pw_g_eqA h26I rfl (by decide) (by omega) (by omega)
    have f7 : pw_g h45 99 7 = x31 := by
      rw [← h45w, pw_g_ne (by omega), ← h43w, pw_g_ne (by omega), ← h32w]
      exact pw_g_eqA h27I rfl (by decide) (by omega) (by omega)
    have f8 : pw_g h45 99 8 = ((pw_gm h32 96 5) / 65536) % 10 := by
      rw [← h45w, pw_g_ne (by omega), ← h43w]
      exact pw_g_eqA h32I rfl (by decide) (by omega) (by omega)
    have f9 : pw_g h45 99 9 = 0 := by
      rw [← h45w]
      exact pw_g_eqA h43I rfl (by decide) (by omega) (by omega)
    rw [← h17w, pw_g_ne (by omega)] at hx21r
    rw [← h27w, pw_g_ne (by omega), ← h26w, pw_g_ne (by omega), ← h25w, pw_g_ne (by omega), ← h24w, pw_g_ne (by omega), ← h23w, pw_g_ne (by omega), ← h22w, pw_g_ne (by omega), ← h17w, pw_g_ne (by omega)] at hx31r
    rw [hx4r] at hx12r hx31r
    have f8d : ((pw_gm h32 96 5) / 65536) % 10 = pu_d (pw_gm h 96 5) := by
      unfold pu_d; omega
    refine pw_vret E rfl ?_
    exact ⟨h45I, h45F, pu_FE (f0.trans hx16r) (f1.trans hx21r) (f2.trans hx8r) (f3.trans hx12r) (f4.trans (by rw [← hx12r, ← hx8r])) (f5.trans hx4r) f6 (f7.trans hx31r) (f8.trans f8d) (f9.trans (by first | exact (if_pos (by omega)).symm | exact (if_neg (by omega)).symm)), rfl⟩
  · intro hc46
    change ¬ (ws = (0 : Int)) at hc46
    refine pw_ld E (pc' := 161) (st' := [pw_i 1, pw_i 9, .ref 115]) rfl (fun _ => rfl) ?_
    refine pw_goto E (pc' := 165) rfl (by decide) ?_
    refine pw_ast0 h43I E (c := 99) (pc' := 166) rfl rfl rfl (by decide) rfl (by decide) (by omega) (by omega) rfl (by omega) (by omega) (by omega) (by omega) rfl ?_
    intro h47I h47E
    generalize h47w : pw_w h43 99 (Int.toNat 9) (pw_i 1) = h47 at h47I h47E ⊢
    have h47F := h43F.tr (h47E.wk (W' := [99]) (by first | rfl | simp))
    have f0 : pw_g h47 99 0 = x16 := by
      rw [← h47w, pw_g_ne (by omega), ← h43w, pw_g_ne (by omega), ← h32w, pw_g_ne (by omega), ← h27w, pw_g_ne (by omega), ← h26w, pw_g_ne (by omega), ← h25w, pw_g_ne (by omega), ← h24w, pw_g_ne (by omega), ← h23w, pw_g_ne (by omega), ← h22w, pw_g_ne (by omega), ← h17w]
      exact pw_g_eqA I rfl (by decide) (by omega) (by omega)
    have f1 : pw_g h47 99 1 = x21 := by
      rw [← h47w, pw_g_ne (by omega), ← h43w, pw_g_ne (by omega), ← h32w, pw_g_ne (by omega), ← h27w, pw_g_ne (by omega), ← h26w, pw_g_ne (by omega), ← h25w, pw_g_ne (by omega), ← h24w, pw_g_ne (by omega), ← h23w, pw_g_ne (by omega), ← h22w]
      exact pw_g_eqA h17I rfl (by decide) (by omega) (by omega)
    have f2 : pw_g h47 99 2 = x8 := by
      rw [← h47w, pw_g_ne (by omega), ← h43w, pw_g_ne (by omega), ← h32w, pw_g_ne (by omega), ← h27w, pw_g_ne (by omega), ← h26w, pw_g_ne (by omega), ← h25w, pw_g_ne (by omega), ← h24w, pw_g_ne (by omega), ← h23w]
      exact pw_g_eqA h22I rfl (by decide) (by omega) (by omega)
    have f3 : pw_g h47 99 3 = x12 := by
      rw [← h47w, pw_g_ne (by omega), ← h43w, pw_g_ne (by omega), ← h32w, pw_g_ne (by omega), ← h27w, pw_g_ne (by omega), ← h26w, pw_g_ne (by omega), ← h25w, pw_g_ne (by omega), ← h24w]
      exact pw_g_eqA h23I rfl (by decide) (by omega) (by omega)
    have f4 : pw_g h47 99 4 = max 0 (x12 - x8) := by
      rw [← h47w, pw_g_ne (by omega), ← h43w, pw_g_ne (by omega), ← h32w, pw_g_ne (by omega), ← h27w, pw_g_ne (by omega), ← h26w, pw_g_ne (by omega), ← h25w]
      exact pw_g_eqA h24I rfl (by decide) (by omega) (by omega)
    have f5 : pw_g h47 99 5 = x4 := by
      rw [← h47w, pw_g_ne (by omega), ← h43w, pw_g_ne (by omega), ← h32w, pw_g_ne (by omega), ← h27w, pw_g_ne (by omega), ← h26w]
      exact pw_g_eqA h25I rfl (by decide) (by omega) (by omega)
    have f6 : pw_g h47 99 6 = mo := by
      rw [← h47w, pw_g_ne (by omega), ← h43w, pw_g_ne (by omega), ← h32w, pw_g_ne (by omega), ← h27w]
      exact pw_g_eqA h26I rfl (by decide) (by omega) (by omega)
    have f7 : pw_g h47 99 7 = x31 := by
      rw [← h47w, pw_g_ne (by omega), ← h43w, pw_g_ne (by omega), ← h32w]
      exact pw_g_eqA h27I rfl (by decide) (by omega) (by omega)
    have f8 : pw_g h47 99 8 = ((pw_gm h32 96 5) / 65536) % 10 := by
      rw [← h47w, pw_g_ne (by omega), ← h43w]
      exact pw_g_eqA h32I rfl (by decide) (by omega) (by omega)
    have f9 : pw_g h47 99 9 = 1 := by
      rw [← h47w]
      exact pw_g_eqA h43I rfl (by decide) (by omega) (by omega)
    rw [← h17w, pw_g_ne (by omega)] at hx21r
    rw [← h27w, pw_g_ne (by omega), ← h26w, pw_g_ne (by omega), ← h25w, pw_g_ne (by omega), ← h24w, pw_g_ne (by omega), ← h23w, pw_g_ne (by omega), ← h22w, pw_g_ne (by omega), ← h17w, pw_g_ne (by omega)] at hx31r
    rw [hx4r] at hx12r hx31r
    have f8d : ((pw_gm h32 96 5) / 65536) % 10 = pu_d (pw_gm h 96 5) := by
      unfold pu_d; omega
    refine pw_vret E rfl ?_
    exact ⟨h47I, h47F, pu_FE (f0.trans hx16r) (f1.trans hx21r) (f2.trans hx8r) (f3.trans hx12r) (f4.trans (by rw [← hx12r, ← hx8r])) (f5.trans hx4r) f6 (f7.trans hx31r) (f8.trans f8d) (f9.trans (by first | exact (if_pos (by omega)).symm | exact (if_neg (by omega)).symm)), rfl⟩
end
section
/-! a kitchen's month in the class's world, exactly -/
set_option maxHeartbeats 4000000 in
theorem cm_114_x {X : List (Nat × List Value)} {d : Nat} {h : pm_H} (hd : 5 ≤ d) (I : pw_I h) (c : Nat) (hc : pw_Sc c) (k : Int) (hk1 : 0 ≤ k) (hk2 : k ≤ 23) (mo : Int) (hmo1 : 1 ≤ mo) (hmo2 : mo ≤ 11) (th : Int → Int) (C : Int → List Int) (N : Int → Int) (hp0 : px_SC 0 h c th C N) (hp1 : pe_good 0 th C) (hp2 : 0 ≤ pw_gm h 96 5) (hp3 : pw_gm h 96 5 ≤ 2147483647) : pw X d h 114 0 [some (.ref 112), some (.ref (16 + c)), some (pw_i k), some (pw_i mo), none, none, none, none, none] [] (fun h' v => pw_I h' ∧ pw_E [96, 98, 99, c + 5] h h' ∧ (pw_gm h' 96 5 = pu_g (pw_gm h 96 5) ∧ pw_g h' 98 (k * 12 + mo).toNat = pu_lv th C (pu_ft (pw_g h 98 (k * 12 + (mo - 1)).toNat) (pw_g h 5 k.toNat) (pw_g h 8 ((pw_g h 4 k.toNat) * 12 + mo).toNat) (pw_g h 4 k.toNat) mo (pw_g h 9 ((pw_g h 4 k.toNat) * 12 + mo).toNat) (pu_d (pu_g (pw_gm h 96 5)))) (pw_g h 98 (k * 12 + (mo - 1)).toNat) ∧ ∀ j : Nat, j ≠ (k * 12 + mo).toNat → pw_g h' 98 j = pw_g h 98 j) ∧ (v = .inl none)) := by
  have E : pm_ent 114 = some (4, 9, 10, 4, pmc_114) := rfl
  have E0 : pw_E [96, 98, 99, c + 5] h h := pw_E.rf _ _
  refine pw_ld E (pc' := 1) (st' := [.ref 112]) rfl (fun _ => rfl) ?_
  refine pw_ld E (pc' := 2) (st' := [.ref 112, .ref 112]) rfl (fun _ => rfl) ?_
  refine pw_getLM I E (c := 96) (k := 5) (pc' := 5) rfl rfl rfl rfl rfl rfl ?_
  refine pw_ld E (pc' := 8) (st' := [.long (Int64.ofInt 1103515245), .long (Int64.ofInt (pw_gm h 96 5)), .ref 112]) rfl (fun _ => rfl) ?_
  refine pw_lmul E (pc' := 9) rfl rfl ?_
  refine pw_ld E (pc' := 12) (st' := [.long (Int64.ofInt 12345), .long (Int64.ofInt ((pw_gm h 96 5) * 1103515245)), .ref 112]) rfl (fun _ => rfl) ?_
  refine pw_ladd E (pc' := 13) rfl rfl ?_
  refine pw_ld E (pc' := 16) (st' := [.long (Int64.ofInt 2147483648), .long (Int64.ofInt (((pw_gm h 96 5) * 1103515245) + 12345)), .ref 112]) rfl (fun _ => rfl) ?_
  refine pw_lremC E (pc' := 17) rfl rfl (by omega) (by omega) (by omega) (by omega) ?_
  have hd1 := pw_remB (a := ((pw_gm h 96 5) * 1103515245) + 12345) (b := 2147483648) (by omega)
  refine pw_putL I E (c := 96) (k := 5) (pc' := 20) rfl rfl rfl rfl rfl rfl ?_
  intro h2I h2E
  generalize h2w : pw_w h 96 5 (.long (Int64.ofInt ((((pw_gm h 96 5) * 1103515245) + 12345) % 2147483648))) = h2 at h2I h2E ⊢
  have h2F := E0.tr (h2E.wk (W' := [96, 98, 99, c + 5]) (by first | rfl | simp))
  have hg1 : pw_gm h2 96 5 = pu_g (pw_gm h 96 5) := by rw [← h2w]; exact pw_gm_eq (c := 96) (k := 5) I rfl rfl (by omega) (by omega)
  have hgB := pu_gB (pw_gm h 96 5)
  rw [← hg1] at hgB
  have k98 : ∀ r j : Nat, r ≠ 96 → pw_g h2 r j = pw_g h r j := fun r j hr => by rw [← h2w]; exact pw_g_ne (fun q => hr q.1.symm)
  have hPB := pw_gA (c := 98) (j := k * 12 + (mo - 1)) I rfl (by decide) (by omega) (by omega)
  have hc88 : c ≤ 88 := by
    have hcc := hc
    unfold pw_Sc at hcc
    omega
  refine pw_ld E (pc' := 21) (st' := [.ref 112]) rfl (fun _ => rfl) ?_
  refine pw_getR (b := 113) h2I E (c := 96) (k := 3) (pc' := 24) rfl rfl rfl rfl rfl rfl rfl ?_
  refine pw_ld E (pc' := 25) (st' := [pw_i k, .ref 113]) rfl (fun _ => rfl) ?_
  refine pw_ld E (pc' := 26) (st' := [pw_i mo, pw_i k, .ref 113]) rfl (fun _ => rfl) ?_
  refine pw_ld E (pc' := 27) (st' := [pw_i 1, pw_i mo, pw_i k, .ref 113]) rfl (fun _ => rfl) ?_
  refine pw_sub E (pc' := 28) rfl rfl ?_
  obtain ⟨f3l, f3h, -⟩ := pw_obj (c := 97) h2I rfl
  refine pw_call (m' := 26) (As := [.ref 113, pw_i k, pw_i (mo - 1)]) (rest := []) (ls'' := [some (.ref 113), some (pw_i k), some (pw_i (mo - 1))]) (Nat.le_trans (by decide) hd) E rfl (fun _ => pw_iV rfl rfl rfl rfl (pw_cellI f3h rfl)) (rfl : pm_ent 26 = some (3, 3, 2, 1, pmc_26)) rfl rfl (cm_26_97x (pw_dp hd (by decide)) h2I (k) (by omega) (by omega) (mo - 1) (by omega) (by omega)) ?_
  rintro u5 v4 ⟨rfl, x6, rfl, hx6a, hx6b, hx6r⟩
  refine ⟨_, rfl, ?_⟩
  show pw X d h2 114 31 [some (.ref 112), some (.ref (16 + c)), some (pw_i k), some (pw_i mo), none, none, none, none, none] [pw_i x6] _
  change (x6 = 1 ∧ pw_g h2 98 (k * 12 + (mo - 1)).toNat = -1) ∨ (x6 = 0 ∧ pw_g h2 98 (k * 12 + (mo - 1)).toNat ≠ -1) at hx6r
  refine pw_ist E (pc' := 33) (ls' := [some (.ref 112), some (.ref (16 + c)), some (pw_i k), some (pw_i mo), some (pw_i x6), none, none, none, none]) rfl rfl rfl rfl ?_
  refine pw_ld E (pc' := 34) (st' := [.ref 112]) rfl (fun _ => rfl) ?_
  refine pw_ld E (pc' := 35) (st' := [pw_i k, .ref 112]) rfl (fun _ => rfl) ?_
  refine pw_ld E (pc' := 36) (st' := [pw_i mo, pw_i k, .ref 112]) rfl (fun _ => rfl) ?_
  refine pw_ld E (pc' := 38) (st' := [pw_i x6, pw_i mo, pw_i k, .ref 112]) rfl (fun _ => rfl) ?_
  obtain ⟨f7l, f7h, -⟩ := pw_obj (c := 96) h2I rfl
  refine pw_call (m' := 115) (As := [.ref 112, pw_i k, pw_i mo, pw_i x6]) (rest := []) (ls'' := [some (.ref 112), some (pw_i k), some (pw_i mo), some (pw_i x6), none, none, none]) (Nat.le_trans (by decide) hd) E rfl (fun _ => pw_iV rfl rfl rfl rfl (pw_cellI f7h rfl)) (rfl : pm_ent 115 = some (4, 7, 10, 4, pmc_115)) rfl rfl (cm_115_x (pw_dp hd (by decide)) h2I (k) (by omega) (by omega) (mo) (by omega) (by omega) (x6) (by omega) (by omega) (by omega) (by omega) (by omega)) ?_
  rintro h8 v9 ⟨h8I, h8E, hq115, rfl⟩
  refine ⟨_, rfl, ?_⟩
  have h8F := h2F.tr (h8E.wk (W' := [96, 98, 99, c + 5]) (by first | rfl | simp))
  show pw X d h8 114 41 [some (.ref 112), some (.ref (16 + c)), some (pw_i k), some (pw_i mo), some (pw_i x6), none, none, none, none] [] _
  have hF0 := hq115
  rw [k98 98 _ (by decide), k98 4 _ (by decide), k98 5 _ (by decide), k98 8 _ (by decide), k98 9 _ (by decide), hg1] at hF0
  rw [k98 98 _ (by decide)] at hx6r
  have hn0 : pw_g h8 99 0 = max 0 (pw_g h 98 (k * 12 + (mo - 1)).toNat) / 100 := by have := congrFun hF0 0; rw [pe_F0 (by decide) (by decide), pu_ft0] at this; exact this
  have hn1 : pw_g h8 99 1 = max 0 (pw_g h 98 (k * 12 + (mo - 1)).toNat) % 100 := by have := congrFun hF0 1; rw [pe_F0 (by decide) (by decide), pu_ft1] at this; exact this
  refine pw_ld E (pc' := 43) (st' := [pw_i x6]) rfl (fun _ => rfl) ?_
  refine pw_if E (pc' := 63) rfl (by decide) (by omega) (by omega) ?_ ?_
  · intro hc10
    change x6 = (0 : Int) at hc10
    refine pw_ld E (pc' := 64) (st' := [pw_i 0]) rfl (fun _ => rfl) ?_
    refine pw_ist E (pc' := 66) (ls' := [some (.ref 112), some (.ref (16 + c)), some (pw_i k), some (pw_i mo), some (pw_i x6), some (pw_i 0), none, none, none]) rfl rfl rfl rfl ?_
    refine pw_ld E (pc' := 68) (st' := [pw_i x6]) rfl (fun _ => rfl) ?_
    refine pw_if E (pc' := 88) rfl (by decide) (by omega) (by omega) ?_ ?_
    · intro hc11
      change x6 ≠ (0 : Int) at hc11
      exfalso; omega
    · intro hc12
      change ¬ (x6 ≠ (0 : Int)) at hc12
      refine pw_ld E (pc' := 72) (st' := [.ref (16 + c)]) rfl (fun _ => rfl) ?_
      refine pw_ld E (pc' := 73) (st' := [pw_i 2, .ref (16 + c)]) rfl (fun _ => rfl) ?_
      refine pw_ld E (pc' := 74) (st' := [.ref 112, pw_i 2, .ref (16 + c)]) rfl (fun _ => rfl) ?_
      refine pw_getR (b := 115) h8I E (c := 96) (k := 4) (pc' := 77) rfl rfl rfl rfl rfl rfl rfl ?_
      refine pw_ld E (pc' := 78) (st' := [pw_i 0, .ref 115, pw_i 2, .ref (16 + c)]) rfl (fun _ => rfl) ?_
      have hSC13 : px_SC 0 h8 c th C N := px_SC.fr I hc h8F (fun x hx hm => by simp only [List.mem_cons, List.not_mem_nil, or_false] at hm; omega) hp0
      have hS1 : px_SL 0 h8 c th C N 2 := hSC13 2 (by decide) (by decide)
      have hS2 : th 2 = 1 → pe_ok 9 (C 2) ∧ pe_h (C 2) = 1 := fun q => hp1 2 (by omega) (by decide)
      obtain ⟨f14l, f14h, -⟩ := pw_obj (c := c) h8I (pw_Sc_o hc)
      refine pw_call (m' := 74) (As := [.ref (16 + c), pw_i 2, .ref 115, pw_i 0]) (rest := []) (ls'' := [some (.ref (16 + c)), some (pw_i 2), some (.ref 115), some (pw_i 0)]) (Nat.le_trans (by decide) hd) E rfl (fun _ => pw_iV rfl rfl rfl rfl (pw_cellI f14h rfl)) (rfl : pm_ent 74 = some (4, 4, 7, 0, pmc_74)) rfl rfl (cm_74_99x (pw_dp hd (by decide)) h8I c hc (2) (by omega) (by omega) (0) (by omega) (by omega) th C N hS1 hS2) ?_
      rintro h15 v16 ⟨h15I, h15E, x17, rfl, hx17a, hx17b, hx17r⟩
      refine ⟨_, rfl, ?_⟩
      have h15F := h8F.tr (h15E.wk (W' := [96, 98, 99, c + 5]) (by first | rfl | simp))
      show pw X d h15 114 81 [some (.ref 112), some (.ref (16 + c)), some (pw_i k), some (pw_i mo), some (pw_i x6), some (pw_i 0), none, none, none] [pw_i x17] _
      change (th 2 = 1 ∧ x17 = (pe_s (pe_F h8 99 10) (C 2)).getD 0 0) ∨ (th 2 = 0 ∧ x17 = 0) at hx17r
      rw [hF0] at hx17r
      refine pw_if E (pc' := 88) rfl (by decide) (by omega) (by omega) ?_ ?_
      · intro hc18
        change x17 ≠ (0 : Int) at hc18
        refine pw_ld E (pc' := 89) (st' := [pw_i 0]) rfl (fun _ => rfl) ?_
        refine pw_ist E (pc' := 91) (ls' := [some (.ref 112), some (.ref (16 + c)), some (pw_i k), some (pw_i mo), some (pw_i x6), some (pw_i 0), some (pw_i 0), none, none]) rfl rfl rfl rfl ?_
        refine pw_ld E (pc' := 93) (st' := [pw_i 0]) rfl (fun _ => rfl) ?_
        refine pw_if E (pc' := 101) rfl (by decide) (by decide) (by decide) ?_ ?_
        · intro hc19
          change (0 : Int) ≠ (0 : Int) at hc19
          exfalso; omega
        · intro hc20
          change ¬ ((0 : Int) ≠ (0 : Int)) at hc20
          refine pw_ld E (pc' := 98) (st' := [pw_i 0]) rfl (fun _ => rfl) ?_
          refine pw_if E (pc' := 157) rfl (by decide) (by decide) (by decide) ?_ ?_
          · intro hc21
            change (0 : Int) = (0 : Int) at hc21
            have hO : pu_o th C (pu_ft (pw_g h 98 (k * 12 + (mo - 1)).toNat) (pw_g h 5 k.toNat) (pw_g h 8 ((pw_g h 4 k.toNat) * 12 + mo).toNat) (pw_g h 4 k.toNat) mo (pw_g h 9 ((pw_g h 4 k.toNat) * 12 + mo).toNat) (pu_d (pu_g (pw_gm h 96 5)))) (pw_g h 98 (k * 12 + (mo - 1)).toNat) = 0 := by unfold pu_o pu_v; (repeat' split) <;> first | rfl | (exfalso; omega)
            refine pw_ld E (pc' := 158) (st' := [.ref 112]) rfl (fun _ => rfl) ?_
            refine pw_getR (b := 113) h15I E (c := 96) (k := 3) (pc' := 161) rfl rfl rfl rfl rfl rfl rfl ?_
            refine pw_ld E (pc' := 162) (st' := [pw_i k, .ref 113]) rfl (fun _ => rfl) ?_
            refine pw_ld E (pc' := 163) (st' := [pw_i mo, pw_i k, .ref 113]) rfl (fun _ => rfl) ?_
            obtain ⟨f22l, f22h, -⟩ := pw_obj (c := 97) h15I rfl
            refine pw_call (m' := 16) (As := [.ref 113, pw_i k, pw_i mo]) (rest := []) (ls'' := [some (.ref 113), some (pw_i k), some (pw_i mo)]) (Nat.le_trans (by decide) hd) E rfl (fun _ => pw_iV rfl rfl rfl rfl (pw_cellI f22h rfl)) (rfl : pm_ent 16 = some (3, 3, 2, 4, pmc_16)) rfl rfl (cm_16_97x (pw_dp hd (by decide)) h15I (k) (by omega) (by omega) (mo) (by omega) (by omega)) ?_
            rintro h23 v24 ⟨h23I, h23E, hqup16, rfl⟩
            refine ⟨_, rfl, ?_⟩
            have h23F := h15F.tr (h23E.wk (W' := [96, 98, 99, c + 5]) (by first | rfl | simp))
            show pw X d h23 114 166 [some (.ref 112), some (.ref (16 + c)), some (pw_i k), some (pw_i mo), some (pw_i x6), some (pw_i 0), some (pw_i 0), none, none] [] _
            refine pw_vret E rfl ?_
            have e96 : pw_gm h23 96 5 = pw_gm h2 96 5 := by rw [pw_Egm (c := 96) h15I h23E rfl rfl 5, pw_Egm (c := 96) h8I h15E rfl (px_n96 hc) 5, pw_Egm (c := 96) h2I h8E rfl rfl 5]
            have e98 : ∀ j : Nat, pw_g h15 98 j = pw_g h 98 j := fun j => by rw [pw_Eg (c := 98) h8I h15E rfl (px_n98 hc) j, pw_Eg (c := 98) h2I h8E rfl rfl j, ← h2w, pw_g_ne (by omega)]
            have hlv : pw_g h23 98 (k * 12 + mo).toNat = pu_lv th C (pu_ft (pw_g h 98 (k * 12 + (mo - 1)).toNat) (pw_g h 5 k.toNat) (pw_g h 8 ((pw_g h 4 k.toNat) * 12 + mo).toNat) (pw_g h 4 k.toNat) mo (pw_g h 9 ((pw_g h 4 k.toNat) * 12 + mo).toNat) (pu_d (pu_g (pw_gm h 96 5)))) (pw_g h 98 (k * 12 + (mo - 1)).toNat) := hqup16.1.trans (by unfold pu_lv; rw [if_neg (by omega)])
            exact ⟨h23I, h23F, ⟨e96.trans hg1, hlv, fun j hj => (hqup16.2 j hj).trans (e98 j)⟩, rfl⟩
          · intro hc25
            change ¬ ((0 : Int) = (0 : Int)) at hc25
            exfalso; omega
      · intro hc26
        change ¬ (x17 ≠ (0 : Int)) at hc26
        refine pw_ld E (pc' := 85) (st' := [pw_i 1]) rfl (fun _ => rfl) ?_
        refine pw_goto E (pc' := 89) rfl (by decide) ?_
        refine pw_ist E (pc' := 91) (ls' := [some (.ref 112), some (.ref (16 + c)), some (pw_i k), some (pw_i mo), some (pw_i x6), some (pw_i 0), some (pw_i 1), none, none]) rfl rfl rfl rfl ?_
        refine pw_ld E (pc' := 93) (st' := [pw_i 0]) rfl (fun _ => rfl) ?_
        refine pw_if E (pc' := 101) rfl (by decide) (by decide) (by decide) ?_ ?_
        · intro hc27
          change (0 : Int) ≠ (0 : Int) at hc27
          exfalso; omega
        · intro hc28
          change ¬ ((0 : Int) ≠ (0 : Int)) at hc28
          refine pw_ld E (pc' := 98) (st' := [pw_i 1]) rfl (fun _ => rfl) ?_
          refine pw_if E (pc' := 157) rfl (by decide) (by decide) (by decide) ?_ ?_
          · intro hc29
            change (1 : Int) = (0 : Int) at hc29
            exfalso; omega
          · intro hc30
            change ¬ ((1 : Int) = (0 : Int)) at hc30
            have hO : pu_o th C (pu_ft (pw_g h 98 (k * 12 + (mo - 1)).toNat) (pw_g h 5 k.toNat) (pw_g h 8 ((pw_g h 4 k.toNat) * 12 + mo).toNat) (pw_g h 4 k.toNat) mo (pw_g h 9 ((pw_g h 4 k.toNat) * 12 + mo).toNat) (pu_d (pu_g (pw_gm h 96 5)))) (pw_g h 98 (k * 12 + (mo - 1)).toNat) = 1 := by unfold pu_o pu_v; (repeat' split) <;> first | rfl | (exfalso; omega)
            refine pw_ld E (pc' := 102) (st' := [.ref (16 + c)]) rfl (fun _ => rfl) ?_
            refine pw_ld E (pc' := 103) (st' := [pw_i 0, .ref (16 + c)]) rfl (fun _ => rfl) ?_
            refine pw_ld E (pc' := 104) (st' := [.ref 112, pw_i 0, .ref (16 + c)]) rfl (fun _ => rfl) ?_
            refine pw_getR (b := 115) h15I E (c := 96) (k := 4) (pc' := 107) rfl rfl rfl rfl rfl rfl rfl ?_
            refine pw_ld E (pc' := 108) (st' := [.ref 112, .ref 115, pw_i 0, .ref (16 + c)]) rfl (fun _ => rfl) ?_
            refine pw_getR (b := 115) h15I E (c := 96) (k := 4) (pc' := 111) rfl rfl rfl rfl rfl rfl rfl ?_
            refine pw_ld E (pc' := 112) (st' := [pw_i 0, .ref 115, .ref 115, pw_i 0, .ref (16 + c)]) rfl (fun _ => rfl) ?_
            refine pw_ald2 h15I E (c := 99) (pc' := 113) rfl rfl rfl (by decide) rfl (by decide) (by omega) (by omega) rfl (fun hf31a hf31b => ?_)
            have h99a : pw_g h15 99 (Int.toNat 0) = (pu_ft (pw_g h 98 (k * 12 + (mo - 1)).toNat) (pw_g h 5 k.toNat) (pw_g h 8 ((pw_g h 4 k.toNat) * 12 + mo).toNat) (pw_g h 4 k.toNat) mo (pw_g h 9 ((pw_g h 4 k.toNat) * 12 + mo).toNat) (pu_d (pu_g (pw_gm h 96 5)))) 0 := by
              have e : pw_g h15 99 0 = pw_g h8 99 0 := by rw [pw_Eg (c := 99) h8I h15E rfl (px_n99 hc) _]
              rw [pu_ft0]; exact e.trans hn0
            have hSC32 : px_SC 0 h15 c th C N := px_SC.fr I hc h15F (fun x hx hm => by simp only [List.mem_cons, List.not_mem_nil, or_false] at hm; omega) hp0
            have hS1 : px_SL 0 h15 c th C N 0 := hSC32 0 (by decide) (by decide)
            have hS2 : th 0 = 1 → pe_ok 9 (C 0) ∧ pe_h (C 0) = 1 := fun q => hp1 0 (by omega) (by decide)
            obtain ⟨f33l, f33h, -⟩ := pw_obj (c := c) h15I (pw_Sc_o hc)
            refine pw_call (m' := 74) (As := [.ref (16 + c), pw_i 0, .ref 115, pw_i (pw_g h15 99 (Int.toNat 0))]) (rest := []) (ls'' := [some (.ref (16 + c)), some (pw_i 0), some (.ref 115), some (pw_i (pw_g h15 99 (Int.toNat 0)))]) (Nat.le_trans (by decide) hd) E rfl (fun _ => pw_iV rfl rfl rfl rfl (pw_cellI f33h rfl)) (rfl : pm_ent 74 = some (4, 4, 7, 0, pmc_74)) rfl rfl (cm_74_99x (pw_dp hd (by decide)) h15I c hc (0) (by omega) (by omega) (pw_g h15 99 (Int.toNat 0)) (by omega) (by omega) th C N hS1 hS2) ?_
            rintro h34 v35 ⟨h34I, h34E, x36, rfl, hx36a, hx36b, hx36r⟩
            refine ⟨_, rfl, ?_⟩
            have h34F := h15F.tr (h34E.wk (W' := [96, 98, 99, c + 5]) (by first | rfl | simp))
            show pw X d h34 114 116 [some (.ref 112), some (.ref (16 + c)), some (pw_i k), some (pw_i mo), some (pw_i x6), some (pw_i 0), some (pw_i 1), none, none] [pw_i x36] _
            change (th 0 = 1 ∧ x36 = (pe_s (pe_F h15 99 10) (C 0)).getD 0 0) ∨ (th 0 = 0 ∧ x36 = (pw_g h15 99 (Int.toNat 0))) at hx36r
            rw [pe_Fcg (h := h8) (h' := h15) (r := 99) (fun j => by rw [pw_Eg (c := 99) h8I h15E rfl (px_n99 hc) _])] at hx36r
            rw [hF0] at hx36r
            refine pw_ist E (pc' := 118) (ls' := [some (.ref 112), some (.ref (16 + c)), some (pw_i k), some (pw_i mo), some (pw_i x6), some (pw_i 0), some (pw_i 1), some (pw_i x36), none]) rfl rfl rfl rfl ?_
            refine pw_ld E (pc' := 119) (st' := [.ref (16 + c)]) rfl (fun _ => rfl) ?_
            refine pw_ld E (pc' := 120) (st' := [pw_i 1, .ref (16 + c)]) rfl (fun _ => rfl) ?_
            refine pw_ld E (pc' := 121) (st' := [.ref 112, pw_i 1, .ref (16 + c)]) rfl (fun _ => rfl) ?_
            refine pw_getR (b := 115) h34I E (c := 96) (k := 4) (pc' := 124) rfl rfl rfl rfl rfl rfl rfl ?_
            refine pw_ld E (pc' := 125) (st' := [.ref 112, .ref 115, pw_i 1, .ref (16 + c)]) rfl (fun _ => rfl) ?_
            refine pw_getR (b := 115) h34I E (c := 96) (k := 4) (pc' := 128) rfl rfl rfl rfl rfl rfl rfl ?_
            refine pw_ld E (pc' := 129) (st' := [pw_i 1, .ref 115, .ref 115, pw_i 1, .ref (16 + c)]) rfl (fun _ => rfl) ?_
            refine pw_ald2 h34I E (c := 99) (pc' := 130) rfl rfl rfl (by decide) rfl (by decide) (by omega) (by omega) rfl (fun hf37a hf37b => ?_)
            have h99b : pw_g h34 99 (Int.toNat 1) = (pu_ft (pw_g h 98 (k * 12 + (mo - 1)).toNat) (pw_g h 5 k.toNat) (pw_g h 8 ((pw_g h 4 k.toNat) * 12 + mo).toNat) (pw_g h 4 k.toNat) mo (pw_g h 9 ((pw_g h 4 k.toNat) * 12 + mo).toNat) (pu_d (pu_g (pw_gm h 96 5)))) 1 := by
              have e : pw_g h34 99 1 = pw_g h8 99 1 := by rw [pw_Eg (c := 99) h15I h34E rfl (px_n99 hc) _, pw_Eg (c := 99) h8I h15E rfl (px_n99 hc) _]
              rw [pu_ft1]; exact e.trans hn1
            have hSC38 : px_SC 0 h34 c th C N := px_SC.fr I hc h34F (fun x hx hm => by simp only [List.mem_cons, List.not_mem_nil, or_false] at hm; omega) hp0
            have hS1 : px_SL 0 h34 c th C N 1 := hSC38 1 (by decide) (by decide)
            have hS2 : th 1 = 1 → pe_ok 9 (C 1) ∧ pe_h (C 1) = 1 := fun q => hp1 1 (by omega) (by decide)
            obtain ⟨f39l, f39h, -⟩ := pw_obj (c := c) h34I (pw_Sc_o hc)
            refine pw_call (m' := 74) (As := [.ref (16 + c), pw_i 1, .ref 115, pw_i (pw_g h34 99 (Int.toNat 1))]) (rest := []) (ls'' := [some (.ref (16 + c)), some (pw_i 1), some (.ref 115), some (pw_i (pw_g h34 99 (Int.toNat 1)))]) (Nat.le_trans (by decide) hd) E rfl (fun _ => pw_iV rfl rfl rfl rfl (pw_cellI f39h rfl)) (rfl : pm_ent 74 = some (4, 4, 7, 0, pmc_74)) rfl rfl (cm_74_99x (pw_dp hd (by decide)) h34I c hc (1) (by omega) (by omega) (pw_g h34 99 (Int.toNat 1)) (by omega) (by omega) th C N hS1 hS2) ?_
            rintro h40 v41 ⟨h40I, h40E, x42, rfl, hx42a, hx42b, hx42r⟩
            refine ⟨_, rfl, ?_⟩
            have h40F := h34F.tr (h40E.wk (W' := [96, 98, 99, c + 5]) (by first | rfl | simp))
            show pw X d h40 114 133 [some (.ref 112), some (.ref (16 + c)), some (pw_i k), some (pw_i mo), some (pw_i x6), some (pw_i 0), some (pw_i 1), some (pw_i x36), none] [pw_i x42] _
            change (th 1 = 1 ∧ x42 = (pe_s (pe_F h34 99 10) (C 1)).getD 0 0) ∨ (th 1 = 0 ∧ x42 = (pw_g h34 99 (Int.toNat 1))) at hx42r
            rw [pe_Fcg (h := h8) (h' := h34) (r := 99) (fun j => by rw [pw_Eg (c := 99) h15I h34E rfl (px_n99 hc) _, pw_Eg (c := 99) h8I h15E rfl (px_n99 hc) _])] at hx42r
            rw [hF0] at hx42r
            refine pw_ist E (pc' := 135) (ls' := [some (.ref 112), some (.ref (16 + c)), some (pw_i k), some (pw_i mo), some (pw_i x6), some (pw_i 0), some (pw_i 1), some (pw_i x36), some (pw_i x42)]) rfl rfl rfl rfl ?_
            refine pw_ld E (pc' := 136) (st' := [.ref 112]) rfl (fun _ => rfl) ?_
            refine pw_getR (b := 113) h40I E (c := 96) (k := 3) (pc' := 139) rfl rfl rfl rfl rfl rfl rfl ?_
            refine pw_ld E (pc' := 140) (st' := [pw_i k, .ref 113]) rfl (fun _ => rfl) ?_
            refine pw_ld E (pc' := 141) (st' := [pw_i mo, pw_i k, .ref 113]) rfl (fun _ => rfl) ?_
            refine pw_ld E (pc' := 143) (st' := [pw_i x36, pw_i mo, pw_i k, .ref 113]) rfl (fun _ => rfl) ?_
            refine pw_call (m' := 116) (As := [pw_i x36]) (rest := [pw_i mo, pw_i k, .ref 113]) (ls'' := [some (pw_i x36)]) (Nat.le_trans (by decide) hd) E rfl (fun _ => pw_iS rfl rfl rfl) (rfl : pm_ent 116 = some (1, 1, 10, 0, pmc_116)) rfl rfl (cm_116_x (pw_dp hd (by decide)) h40I (x36) (by omega) (by omega)) ?_
            rintro u44 v43 ⟨rfl, x45, rfl, hx45a, hx45b, hx45r⟩
            refine ⟨_, rfl, ?_⟩
            show pw X d h40 114 146 [some (.ref 112), some (.ref (16 + c)), some (pw_i k), some (pw_i mo), some (pw_i x6), some (pw_i 0), some (pw_i 1), some (pw_i x36), some (pw_i x42)] [pw_i x45, pw_i mo, pw_i k, .ref 113] _
            change x45 = pu_cl x36 at hx45r
            refine pw_ld E (pc' := 148) (st' := [pw_i x42, pw_i x45, pw_i mo, pw_i k, .ref 113]) rfl (fun _ => rfl) ?_
            refine pw_call (m' := 116) (As := [pw_i x42]) (rest := [pw_i x45, pw_i mo, pw_i k, .ref 113]) (ls'' := [some (pw_i x42)]) (Nat.le_trans (by decide) hd) E rfl (fun _ => pw_iS rfl rfl rfl) (rfl : pm_ent 116 = some (1, 1, 10, 0, pmc_116)) rfl rfl (cm_116_x (pw_dp hd (by decide)) h40I (x42) (by omega) (by omega)) ?_
            rintro u47 v46 ⟨rfl, x48, rfl, hx48a, hx48b, hx48r⟩
            refine ⟨_, rfl, ?_⟩
            show pw X d h40 114 151 [some (.ref 112), some (.ref (16 + c)), some (pw_i k), some (pw_i mo), some (pw_i x6), some (pw_i 0), some (pw_i 1), some (pw_i x36), some (pw_i x42)] [pw_i x48, pw_i x45, pw_i mo, pw_i k, .ref 113] _
            change x48 = pu_cl x42 at hx48r
            obtain ⟨f49l, f49h, -⟩ := pw_obj (c := 97) h40I rfl
            refine pw_call (m' := 18) (As := [.ref 113, pw_i k, pw_i mo, pw_i x45, pw_i x48]) (rest := []) (ls'' := [some (.ref 113), some (pw_i k), some (pw_i mo), some (pw_i x45), some (pw_i x48)]) (Nat.le_trans (by decide) hd) E rfl (fun _ => pw_iV rfl rfl rfl rfl (pw_cellI f49h rfl)) (rfl : pm_ent 18 = some (5, 5, 2, 4, pmc_18)) rfl rfl (cm_18_97x (pw_dp hd (by decide)) h40I (k) (by omega) (by omega) (mo) (by omega) (by omega) (x45) (by omega) (by omega) (x48) (by omega) (by omega)) ?_
            rintro h50 v51 ⟨h50I, h50E, hqup18, rfl⟩
            refine ⟨_, rfl, ?_⟩
            have h50F := h40F.tr (h50E.wk (W' := [96, 98, 99, c + 5]) (by first | rfl | simp))
            show pw X d h50 114 154 [some (.ref 112), some (.ref (16 + c)), some (pw_i k), some (pw_i mo), some (pw_i x6), some (pw_i 0), some (pw_i 1), some (pw_i x36), some (pw_i x42)] [] _
            refine pw_goto E (pc' := 166) rfl (by decide) ?_
            refine pw_vret E rfl ?_
            have e96 : pw_gm h50 96 5 = pw_gm h2 96 5 := by rw [pw_Egm (c := 96) h40I h50E rfl rfl 5, pw_Egm (c := 96) h34I h40E rfl (px_n96 hc) 5, pw_Egm (c := 96) h15I h34E rfl (px_n96 hc) 5, pw_Egm (c := 96) h8I h15E rfl (px_n96 hc) 5, pw_Egm (c := 96) h2I h8E rfl rfl 5]
            have e98 : ∀ j : Nat, pw_g h40 98 j = pw_g h 98 j := fun j => by rw [pw_Eg (c := 98) h34I h40E rfl (px_n98 hc) j, pw_Eg (c := 98) h15I h34E rfl (px_n98 hc) j, pw_Eg (c := 98) h8I h15E rfl (px_n98 hc) j, pw_Eg (c := 98) h2I h8E rfl rfl j, ← h2w, pw_g_ne (by omega)]
            have hy0 := pu_nE (F := (pu_ft (pw_g h 98 (k * 12 + (mo - 1)).toNat) (pw_g h 5 k.toNat) (pw_g h 8 ((pw_g h 4 k.toNat) * 12 + mo).toNat) (pw_g h 4 k.toNat) mo (pw_g h 9 ((pw_g h 4 k.toNat) * 12 + mo).toNat) (pu_d (pu_g (pw_gm h 96 5))))) (k := 0) (hx36r.imp id (fun q => ⟨q.1, q.2.trans h99a⟩)) (by rw [pu_ft0]; omega) (by rw [pu_ft0]; omega) hx45r
            have hy1 := pu_nE (F := (pu_ft (pw_g h 98 (k * 12 + (mo - 1)).toNat) (pw_g h 5 k.toNat) (pw_g h 8 ((pw_g h 4 k.toNat) * 12 + mo).toNat) (pw_g h 4 k.toNat) mo (pw_g h 9 ((pw_g h 4 k.toNat) * 12 + mo).toNat) (pu_d (pu_g (pw_gm h 96 5))))) (k := 1) (hx42r.imp id (fun q => ⟨q.1, q.2.trans h99b⟩)) (by rw [pu_ft1]; omega) (by rw [pu_ft1]; omega) hx48r
            have hlv : pw_g h50 98 (k * 12 + mo).toNat = pu_lv th C (pu_ft (pw_g h 98 (k * 12 + (mo - 1)).toNat) (pw_g h 5 k.toNat) (pw_g h 8 ((pw_g h 4 k.toNat) * 12 + mo).toNat) (pw_g h 4 k.toNat) mo (pw_g h 9 ((pw_g h 4 k.toNat) * 12 + mo).toNat) (pu_d (pu_g (pw_gm h 96 5)))) (pw_g h 98 (k * 12 + (mo - 1)).toNat) := hqup18.1.trans (by unfold pu_lv; rw [if_pos hO, ← hy0, ← hy1])
            exact ⟨h50I, h50F, ⟨e96.trans hg1, hlv, fun j hj => (hqup18.2 j hj).trans (e98 j)⟩, rfl⟩
  · intro hc52
    change ¬ (x6 = (0 : Int)) at hc52
    refine pw_ld E (pc' := 47) (st' := [.ref (16 + c)]) rfl (fun _ => rfl) ?_
    refine pw_ld E (pc' := 48) (st' := [pw_i 3, .ref (16 + c)]) rfl (fun _ => rfl) ?_
    refine pw_ld E (pc' := 49) (st' := [.ref 112, pw_i 3, .ref (16 + c)]) rfl (fun _ => rfl) ?_
    refine pw_getR (b := 115) h8I E (c := 96) (k := 4) (pc' := 52) rfl rfl rfl rfl rfl rfl rfl ?_
    refine pw_ld E (pc' := 53) (st' := [pw_i 0, .ref 115, pw_i 3, .ref (16 + c)]) rfl (fun _ => rfl) ?_
    have hSC53 : px_SC 0 h8 c th C N := px_SC.fr I hc h8F (fun x hx hm => by simp only [List.mem_cons, List.not_mem_nil, or_false] at hm; omega) hp0
    have hS1 : px_SL 0 h8 c th C N 3 := hSC53 3 (by decide) (by decide)
    have hS2 : th 3 = 1 → pe_ok 9 (C 3) ∧ pe_h (C 3) = 1 := fun q => hp1 3 (by omega) (by decide)
    obtain ⟨f54l, f54h, -⟩ := pw_obj (c := c) h8I (pw_Sc_o hc)
    refine pw_call (m' := 74) (As := [.ref (16 + c), pw_i 3, .ref 115, pw_i 0]) (rest := []) (ls'' := [some (.ref (16 + c)), some (pw_i 3), some (.ref 115), some (pw_i 0)]) (Nat.le_trans (by decide) hd) E rfl (fun _ => pw_iV rfl rfl rfl rfl (pw_cellI f54h rfl)) (rfl : pm_ent 74 = some (4, 4, 7, 0, pmc_74)) rfl rfl (cm_74_99x (pw_dp hd (by decide)) h8I c hc (3) (by omega) (by omega) (0) (by omega) (by omega) th C N hS1 hS2) ?_
    rintro h55 v56 ⟨h55I, h55E, x57, rfl, hx57a, hx57b, hx57r⟩
    refine ⟨_, rfl, ?_⟩
    have h55F := h8F.tr (h55E.wk (W' := [96, 98, 99, c + 5]) (by first | rfl | simp))
    show pw X d h55 114 56 [some (.ref 112), some (.ref (16 + c)), some (pw_i k), some (pw_i mo), some (pw_i x6), none, none, none, none] [pw_i x57] _
    change (th 3 = 1 ∧ x57 = (pe_s (pe_F h8 99 10) (C 3)).getD 0 0) ∨ (th 3 = 0 ∧ x57 = 0) at hx57r
    rw [hF0] at hx57r
    refine pw_if E (pc' := 63) rfl (by decide) (by omega) (by omega) ?_ ?_
    · intro hc58
      change x57 = (0 : Int) at hc58
      refine pw_ld E (pc' := 64) (st' := [pw_i 0]) rfl (fun _ => rfl) ?_
      refine pw_ist E (pc' := 66) (ls' := [some (.ref 112), some (.ref (16 + c)), some (pw_i k), some (pw_i mo), some (pw_i x6), some (pw_i 0), none, none, none]) rfl rfl rfl rfl ?_
      refine pw_ld E (pc' := 68) (st' := [pw_i x6]) rfl (fun _ => rfl) ?_
      refine pw_if E (pc' := 88) rfl (by decide) (by omega) (by omega) ?_ ?_
      · intro hc59
        change x6 ≠ (0 : Int) at hc59
        refine pw_ld E (pc' := 89) (st' := [pw_i 0]) rfl (fun _ => rfl) ?_
        refine pw_ist E (pc' := 91) (ls' := [some (.ref 112), some (.ref (16 + c)), some (pw_i k), some (pw_i mo), some (pw_i x6), some (pw_i 0), some (pw_i 0), none, none]) rfl rfl rfl rfl ?_
        refine pw_ld E (pc' := 93) (st' := [pw_i 0]) rfl (fun _ => rfl) ?_
        refine pw_if E (pc' := 101) rfl (by decide) (by decide) (by decide) ?_ ?_
        · intro hc60
          change (0 : Int) ≠ (0 : Int) at hc60
          exfalso; omega
        · intro hc61
          change ¬ ((0 : Int) ≠ (0 : Int)) at hc61
          refine pw_ld E (pc' := 98) (st' := [pw_i 0]) rfl (fun _ => rfl) ?_
          refine pw_if E (pc' := 157) rfl (by decide) (by decide) (by decide) ?_ ?_
          · intro hc62
            change (0 : Int) = (0 : Int) at hc62
            have hO : pu_o th C (pu_ft (pw_g h 98 (k * 12 + (mo - 1)).toNat) (pw_g h 5 k.toNat) (pw_g h 8 ((pw_g h 4 k.toNat) * 12 + mo).toNat) (pw_g h 4 k.toNat) mo (pw_g h 9 ((pw_g h 4 k.toNat) * 12 + mo).toNat) (pu_d (pu_g (pw_gm h 96 5)))) (pw_g h 98 (k * 12 + (mo - 1)).toNat) = 0 := by unfold pu_o pu_v; (repeat' split) <;> first | rfl | (exfalso; omega)
            refine pw_ld E (pc' := 158) (st' := [.ref 112]) rfl (fun _ => rfl) ?_
            refine pw_getR (b := 113) h55I E (c := 96) (k := 3) (pc' := 161) rfl rfl rfl rfl rfl rfl rfl ?_
            refine pw_ld E (pc' := 162) (st' := [pw_i k, .ref 113]) rfl (fun _ => rfl) ?_
            refine pw_ld E (pc' := 163) (st' := [pw_i mo, pw_i k, .ref 113]) rfl (fun _ => rfl) ?_
            obtain ⟨f63l, f63h, -⟩ := pw_obj (c := 97) h55I rfl
            refine pw_call (m' := 16) (As := [.ref 113, pw_i k, pw_i mo]) (rest := []) (ls'' := [some (.ref 113), some (pw_i k), some (pw_i mo)]) (Nat.le_trans (by decide) hd) E rfl (fun _ => pw_iV rfl rfl rfl rfl (pw_cellI f63h rfl)) (rfl : pm_ent 16 = some (3, 3, 2, 4, pmc_16)) rfl rfl (cm_16_97x (pw_dp hd (by decide)) h55I (k) (by omega) (by omega) (mo) (by omega) (by omega)) ?_
            rintro h64 v65 ⟨h64I, h64E, hqup16, rfl⟩
            refine ⟨_, rfl, ?_⟩
            have h64F := h55F.tr (h64E.wk (W' := [96, 98, 99, c + 5]) (by first | rfl | simp))
            show pw X d h64 114 166 [some (.ref 112), some (.ref (16 + c)), some (pw_i k), some (pw_i mo), some (pw_i x6), some (pw_i 0), some (pw_i 0), none, none] [] _
            refine pw_vret E rfl ?_
            have e96 : pw_gm h64 96 5 = pw_gm h2 96 5 := by rw [pw_Egm (c := 96) h55I h64E rfl rfl 5, pw_Egm (c := 96) h8I h55E rfl (px_n96 hc) 5, pw_Egm (c := 96) h2I h8E rfl rfl 5]
            have e98 : ∀ j : Nat, pw_g h55 98 j = pw_g h 98 j := fun j => by rw [pw_Eg (c := 98) h8I h55E rfl (px_n98 hc) j, pw_Eg (c := 98) h2I h8E rfl rfl j, ← h2w, pw_g_ne (by omega)]
            have hlv : pw_g h64 98 (k * 12 + mo).toNat = pu_lv th C (pu_ft (pw_g h 98 (k * 12 + (mo - 1)).toNat) (pw_g h 5 k.toNat) (pw_g h 8 ((pw_g h 4 k.toNat) * 12 + mo).toNat) (pw_g h 4 k.toNat) mo (pw_g h 9 ((pw_g h 4 k.toNat) * 12 + mo).toNat) (pu_d (pu_g (pw_gm h 96 5)))) (pw_g h 98 (k * 12 + (mo - 1)).toNat) := hqup16.1.trans (by unfold pu_lv; rw [if_neg (by omega)])
            exact ⟨h64I, h64F, ⟨e96.trans hg1, hlv, fun j hj => (hqup16.2 j hj).trans (e98 j)⟩, rfl⟩
          · intro hc66
            change ¬ ((0 : Int) = (0 : Int)) at hc66
            exfalso; omega
      · intro hc67
        change ¬ (x6 ≠ (0 : Int)) at hc67
        exfalso; omega
    · intro hc68
      change ¬ (x57 = (0 : Int)) at hc68
      refine pw_ld E (pc' := 60) (st' := [pw_i 1]) rfl (fun _ => rfl) ?_
      refine pw_goto E (pc' := 64) rfl (by decide) ?_
      refine pw_ist E (pc' := 66) (ls' := [some (.ref 112), some (.ref (16 + c)), some (pw_i k), some (pw_i mo), some (pw_i x6), some (pw_i 1), none, none, none]) rfl rfl rfl rfl ?_
      refine pw_ld E (pc' := 68) (st' := [pw_i x6]) rfl (fun _ => rfl) ?_
      refine pw_if E (pc' := 88) rfl (by decide) (by omega) (by omega) ?_ ?_
      · intro hc69
        change x6 ≠ (0 : Int) at hc69
        refine pw_ld E (pc' := 89) (st' := [pw_i 0]) rfl (fun _ => rfl) ?_
        refine pw_ist E (pc' := 91) (ls' := [some (.ref 112), some (.ref (16 + c)), some (pw_i k), some (pw_i mo), some (pw_i x6), some (pw_i 1), some (pw_i 0), none, none]) rfl rfl rfl rfl ?_
        refine pw_ld E (pc' := 93) (st' := [pw_i 1]) rfl (fun _ => rfl) ?_
        refine pw_if E (pc' := 101) rfl (by decide) (by decide) (by decide) ?_ ?_
        · intro hc70
          change (1 : Int) ≠ (0 : Int) at hc70
          have hO : pu_o th C (pu_ft (pw_g h 98 (k * 12 + (mo - 1)).toNat) (pw_g h 5 k.toNat) (pw_g h 8 ((pw_g h 4 k.toNat) * 12 + mo).toNat) (pw_g h 4 k.toNat) mo (pw_g h 9 ((pw_g h 4 k.toNat) * 12 + mo).toNat) (pu_d (pu_g (pw_gm h 96 5)))) (pw_g h 98 (k * 12 + (mo - 1)).toNat) = 1 := by unfold pu_o pu_v; (repeat' split) <;> first | rfl | (exfalso; omega)
          refine pw_ld E (pc' := 102) (st' := [.ref (16 + c)]) rfl (fun _ => rfl) ?_
          refine pw_ld E (pc' := 103) (st' := [pw_i 0, .ref (16 + c)]) rfl (fun _ => rfl) ?_
          refine pw_ld E (pc' := 104) (st' := [.ref 112, pw_i 0, .ref (16 + c)]) rfl (fun _ => rfl) ?_
          refine pw_getR (b := 115) h55I E (c := 96) (k := 4) (pc' := 107) rfl rfl rfl rfl rfl rfl rfl ?_
          refine pw_ld E (pc' := 108) (st' := [.ref 112, .ref 115, pw_i 0, .ref (16 + c)]) rfl (fun _ => rfl) ?_
          refine pw_getR (b := 115) h55I E (c := 96) (k := 4) (pc' := 111) rfl rfl rfl rfl rfl rfl rfl ?_
          refine pw_ld E (pc' := 112) (st' := [pw_i 0, .ref 115, .ref 115, pw_i 0, .ref (16 + c)]) rfl (fun _ => rfl) ?_
          refine pw_ald2 h55I E (c := 99) (pc' := 113) rfl rfl rfl (by decide) rfl (by decide) (by omega) (by omega) rfl (fun hf71a hf71b => ?_)
          have h99a : pw_g h55 99 (Int.toNat 0) = (pu_ft (pw_g h 98 (k * 12 + (mo - 1)).toNat) (pw_g h 5 k.toNat) (pw_g h 8 ((pw_g h 4 k.toNat) * 12 + mo).toNat) (pw_g h 4 k.toNat) mo (pw_g h 9 ((pw_g h 4 k.toNat) * 12 + mo).toNat) (pu_d (pu_g (pw_gm h 96 5)))) 0 := by
            have e : pw_g h55 99 0 = pw_g h8 99 0 := by rw [pw_Eg (c := 99) h8I h55E rfl (px_n99 hc) _]
            rw [pu_ft0]; exact e.trans hn0
          have hSC72 : px_SC 0 h55 c th C N := px_SC.fr I hc h55F (fun x hx hm => by simp only [List.mem_cons, List.not_mem_nil, or_false] at hm; omega) hp0
          have hS1 : px_SL 0 h55 c th C N 0 := hSC72 0 (by decide) (by decide)
          have hS2 : th 0 = 1 → pe_ok 9 (C 0) ∧ pe_h (C 0) = 1 := fun q => hp1 0 (by omega) (by decide)
          obtain ⟨f73l, f73h, -⟩ := pw_obj (c := c) h55I (pw_Sc_o hc)
          refine pw_call (m' := 74) (As := [.ref (16 + c), pw_i 0, .ref 115, pw_i (pw_g h55 99 (Int.toNat 0))]) (rest := []) (ls'' := [some (.ref (16 + c)), some (pw_i 0), some (.ref 115), some (pw_i (pw_g h55 99 (Int.toNat 0)))]) (Nat.le_trans (by decide) hd) E rfl (fun _ => pw_iV rfl rfl rfl rfl (pw_cellI f73h rfl)) (rfl : pm_ent 74 = some (4, 4, 7, 0, pmc_74)) rfl rfl (cm_74_99x (pw_dp hd (by decide)) h55I c hc (0) (by omega) (by omega) (pw_g h55 99 (Int.toNat 0)) (by omega) (by omega) th C N hS1 hS2) ?_
          rintro h74 v75 ⟨h74I, h74E, x76, rfl, hx76a, hx76b, hx76r⟩
          refine ⟨_, rfl, ?_⟩
          have h74F := h55F.tr (h74E.wk (W' := [96, 98, 99, c + 5]) (by first | rfl | simp))
          show pw X d h74 114 116 [some (.ref 112), some (.ref (16 + c)), some (pw_i k), some (pw_i mo), some (pw_i x6), some (pw_i 1), some (pw_i 0), none, none] [pw_i x76] _
          change (th 0 = 1 ∧ x76 = (pe_s (pe_F h55 99 10) (C 0)).getD 0 0) ∨ (th 0 = 0 ∧ x76 = (pw_g h55 99 (Int.toNat 0))) at hx76r
          rw [pe_Fcg (h := h8) (h' := h55) (r := 99) (fun j => by rw [pw_Eg (c := 99) h8I h55E rfl (px_n99 hc) _])] at hx76r
          rw [hF0] at hx76r
          refine pw_ist E (pc' := 118) (ls' := [some (.ref 112), some (.ref (16 + c)), some (pw_i k), some (pw_i mo), some (pw_i x6), some (pw_i 1), some (pw_i 0), some (pw_i x76), none]) rfl rfl rfl rfl ?_
          refine pw_ld E (pc' := 119) (st' := [.ref (16 + c)]) rfl (fun _ => rfl) ?_
          refine pw_ld E (pc' := 120) (st' := [pw_i 1, .ref (16 + c)]) rfl (fun _ => rfl) ?_
          refine pw_ld E (pc' := 121) (st' := [.ref 112, pw_i 1, .ref (16 + c)]) rfl (fun _ => rfl) ?_
          refine pw_getR (b := 115) h74I E (c := 96) (k := 4) (pc' := 124) rfl rfl rfl rfl rfl rfl rfl ?_
          refine pw_ld E (pc' := 125) (st' := [.ref 112, .ref 115, pw_i 1, .ref (16 + c)]) rfl (fun _ => rfl) ?_
          refine pw_getR (b := 115) h74I E (c := 96) (k := 4) (pc' := 128) rfl rfl rfl rfl rfl rfl rfl ?_
          refine pw_ld E (pc' := 129) (st' := [pw_i 1, .ref 115, .ref 115, pw_i 1, .ref (16 + c)]) rfl (fun _ => rfl) ?_
          refine pw_ald2 h74I E (c := 99) (pc' := 130) rfl rfl rfl (by decide) rfl (by decide) (by omega) (by omega) rfl (fun hf77a hf77b => ?_)
          have h99b : pw_g h74 99 (Int.toNat 1) = (pu_ft (pw_g h 98 (k * 12 + (mo - 1)).toNat) (pw_g h 5 k.toNat) (pw_g h 8 ((pw_g h 4 k.toNat) * 12 + mo).toNat) (pw_g h 4 k.toNat) mo (pw_g h 9 ((pw_g h 4 k.toNat) * 12 + mo).toNat) (pu_d (pu_g (pw_gm h 96 5)))) 1 := by
            have e : pw_g h74 99 1 = pw_g h8 99 1 := by rw [pw_Eg (c := 99) h55I h74E rfl (px_n99 hc) _, pw_Eg (c := 99) h8I h55E rfl (px_n99 hc) _]
            rw [pu_ft1]; exact e.trans hn1
          have hSC78 : px_SC 0 h74 c th C N := px_SC.fr I hc h74F (fun x hx hm => by simp only [List.mem_cons, List.not_mem_nil, or_false] at hm; omega) hp0
          have hS1 : px_SL 0 h74 c th C N 1 := hSC78 1 (by decide) (by decide)
          have hS2 : th 1 = 1 → pe_ok 9 (C 1) ∧ pe_h (C 1) = 1 := fun q => hp1 1 (by omega) (by decide)
          obtain ⟨f79l, f79h, -⟩ := pw_obj (c := c) h74I (pw_Sc_o hc)
          refine pw_call (m' := 74) (As := [.ref (16 + c), pw_i 1, .ref 115, pw_i (pw_g h74 99 (Int.toNat 1))]) (rest := []) (ls'' := [some (.ref (16 + c)), some (pw_i 1), some (.ref 115), some (pw_i (pw_g h74 99 (Int.toNat 1)))]) (Nat.le_trans (by decide) hd) E rfl (fun _ => pw_iV rfl rfl rfl rfl (pw_cellI f79h rfl)) (rfl : pm_ent 74 = some (4, 4, 7, 0, pmc_74)) rfl rfl (cm_74_99x (pw_dp hd (by decide)) h74I c hc (1) (by omega) (by omega) (pw_g h74 99 (Int.toNat 1)) (by omega) (by omega) th C N hS1 hS2) ?_
          rintro h80 v81 ⟨h80I, h80E, x82, rfl, hx82a, hx82b, hx82r⟩
          refine ⟨_, rfl, ?_⟩
          have h80F := h74F.tr (h80E.wk (W' := [96, 98, 99, c + 5]) (by first | rfl | simp))
          show pw X d h80 114 133 [some (.ref 112), some (.ref (16 + c)), some (pw_i k), some (pw_i mo), some (pw_i x6), some (pw_i 1), some (pw_i 0), some (pw_i x76), none] [pw_i x82] _
          change (th 1 = 1 ∧ x82 = (pe_s (pe_F h74 99 10) (C 1)).getD 0 0) ∨ (th 1 = 0 ∧ x82 = (pw_g h74 99 (Int.toNat 1))) at hx82r
          rw [pe_Fcg (h := h8) (h' := h74) (r := 99) (fun j => by rw [pw_Eg (c := 99) h55I h74E rfl (px_n99 hc) _, pw_Eg (c := 99) h8I h55E rfl (px_n99 hc) _])] at hx82r
          rw [hF0] at hx82r
          refine pw_ist E (pc' := 135) (ls' := [some (.ref 112), some (.ref (16 + c)), some (pw_i k), some (pw_i mo), some (pw_i x6), some (pw_i 1), some (pw_i 0), some (pw_i x76), some (pw_i x82)]) rfl rfl rfl rfl ?_
          refine pw_ld E (pc' := 136) (st' := [.ref 112]) rfl (fun _ => rfl) ?_
          refine pw_getR (b := 113) h80I E (c := 96) (k := 3) (pc' := 139) rfl rfl rfl rfl rfl rfl rfl ?_
          refine pw_ld E (pc' := 140) (st' := [pw_i k, .ref 113]) rfl (fun _ => rfl) ?_
          refine pw_ld E (pc' := 141) (st' := [pw_i mo, pw_i k, .ref 113]) rfl (fun _ => rfl) ?_
          refine pw_ld E (pc' := 143) (st' := [pw_i x76, pw_i mo, pw_i k, .ref 113]) rfl (fun _ => rfl) ?_
          refine pw_call (m' := 116) (As := [pw_i x76]) (rest := [pw_i mo, pw_i k, .ref 113]) (ls'' := [some (pw_i x76)]) (Nat.le_trans (by decide) hd) E rfl (fun _ => pw_iS rfl rfl rfl) (rfl : pm_ent 116 = some (1, 1, 10, 0, pmc_116)) rfl rfl (cm_116_x (pw_dp hd (by decide)) h80I (x76) (by omega) (by omega)) ?_
          rintro u84 v83 ⟨rfl, x85, rfl, hx85a, hx85b, hx85r⟩
          refine ⟨_, rfl, ?_⟩
          show pw X d h80 114 146 [some (.ref 112), some (.ref (16 + c)), some (pw_i k), some (pw_i mo), some (pw_i x6), some (pw_i 1), some (pw_i 0), some (pw_i x76), some (pw_i x82)] [pw_i x85, pw_i mo, pw_i k, .ref 113] _
          change x85 = pu_cl x76 at hx85r
          refine pw_ld E (pc' := 148) (st' := [pw_i x82, pw_i x85, pw_i mo, pw_i k, .ref 113]) rfl (fun _ => rfl) ?_
          refine pw_call (m' := 116) (As := [pw_i x82]) (rest := [pw_i x85, pw_i mo, pw_i k, .ref 113]) (ls'' := [some (pw_i x82)]) (Nat.le_trans (by decide) hd) E rfl (fun _ => pw_iS rfl rfl rfl) (rfl : pm_ent 116 = some (1, 1, 10, 0, pmc_116)) rfl rfl (cm_116_x (pw_dp hd (by decide)) h80I (x82) (by omega) (by omega)) ?_
          rintro u87 v86 ⟨rfl, x88, rfl, hx88a, hx88b, hx88r⟩
          refine ⟨_, rfl, ?_⟩
          show pw X d h80 114 151 [some (.ref 112), some (.ref (16 + c)), some (pw_i k), some (pw_i mo), some (pw_i x6), some (pw_i 1), some (pw_i 0), some (pw_i x76), some (pw_i x82)] [pw_i x88, pw_i x85, pw_i mo, pw_i k, .ref 113] _
          change x88 = pu_cl x82 at hx88r
          obtain ⟨f89l, f89h, -⟩ := pw_obj (c := 97) h80I rfl
          refine pw_call (m' := 18) (As := [.ref 113, pw_i k, pw_i mo, pw_i x85, pw_i x88]) (rest := []) (ls'' := [some (.ref 113), some (pw_i k), some (pw_i mo), some (pw_i x85), some (pw_i x88)]) (Nat.le_trans (by decide) hd) E rfl (fun _ => pw_iV rfl rfl rfl rfl (pw_cellI f89h rfl)) (rfl : pm_ent 18 = some (5, 5, 2, 4, pmc_18)) rfl rfl (cm_18_97x (pw_dp hd (by decide)) h80I (k) (by omega) (by omega) (mo) (by omega) (by omega) (x85) (by omega) (by omega) (x88) (by omega) (by omega)) ?_
          rintro h90 v91 ⟨h90I, h90E, hqup18, rfl⟩
          refine ⟨_, rfl, ?_⟩
          have h90F := h80F.tr (h90E.wk (W' := [96, 98, 99, c + 5]) (by first | rfl | simp))
          show pw X d h90 114 154 [some (.ref 112), some (.ref (16 + c)), some (pw_i k), some (pw_i mo), some (pw_i x6), some (pw_i 1), some (pw_i 0), some (pw_i x76), some (pw_i x82)] [] _
          refine pw_goto E (pc' := 166) rfl (by decide) ?_
          refine pw_vret E rfl ?_
          have e96 : pw_gm h90 96 5 = pw_gm h2 96 5 := by rw [pw_Egm (c := 96) h80I h90E rfl rfl 5, pw_Egm (c := 96) h74I h80E rfl (px_n96 hc) 5, pw_Egm (c := 96) h55I h74E rfl (px_n96 hc) 5, pw_Egm (c := 96) h8I h55E rfl (px_n96 hc) 5, pw_Egm (c := 96) h2I h8E rfl rfl 5]
          have e98 : ∀ j : Nat, pw_g h80 98 j = pw_g h 98 j := fun j => by rw [pw_Eg (c := 98) h74I h80E rfl (px_n98 hc) j, pw_Eg (c := 98) h55I h74E rfl (px_n98 hc) j, pw_Eg (c := 98) h8I h55E rfl (px_n98 hc) j, pw_Eg (c := 98) h2I h8E rfl rfl j, ← h2w, pw_g_ne (by omega)]
          have hy0 := pu_nE (F := (pu_ft (pw_g h 98 (k * 12 + (mo - 1)).toNat) (pw_g h 5 k.toNat) (pw_g h 8 ((pw_g h 4 k.toNat) * 12 + mo).toNat) (pw_g h 4 k.toNat) mo (pw_g h 9 ((pw_g h 4 k.toNat) * 12 + mo).toNat) (pu_d (pu_g (pw_gm h 96 5))))) (k := 0) (hx76r.imp id (fun q => ⟨q.1, q.2.trans h99a⟩)) (by rw [pu_ft0]; omega) (by rw [pu_ft0]; omega) hx85r
          have hy1 := pu_nE (F := (pu_ft (pw_g h 98 (k * 12 + (mo - 1)).toNat) (pw_g h 5 k.toNat) (pw_g h 8 ((pw_g h 4 k.toNat) * 12 + mo).toNat) (pw_g h 4 k.toNat) mo (pw_g h 9 ((pw_g h 4 k.toNat) * 12 + mo).toNat) (pu_d (pu_g (pw_gm h 96 5))))) (k := 1) (hx82r.imp id (fun q => ⟨q.1, q.2.trans h99b⟩)) (by rw [pu_ft1]; omega) (by rw [pu_ft1]; omega) hx88r
          have hlv : pw_g h90 98 (k * 12 + mo).toNat = pu_lv th C (pu_ft (pw_g h 98 (k * 12 + (mo - 1)).toNat) (pw_g h 5 k.toNat) (pw_g h 8 ((pw_g h 4 k.toNat) * 12 + mo).toNat) (pw_g h 4 k.toNat) mo (pw_g h 9 ((pw_g h 4 k.toNat) * 12 + mo).toNat) (pu_d (pu_g (pw_gm h 96 5)))) (pw_g h 98 (k * 12 + (mo - 1)).toNat) := hqup18.1.trans (by unfold pu_lv; rw [if_pos hO, ← hy0, ← hy1])
          exact ⟨h90I, h90F, ⟨e96.trans hg1, hlv, fun j hj => (hqup18.2 j hj).trans (e98 j)⟩, rfl⟩
        · intro hc92
          change ¬ ((1 : Int) ≠ (0 : Int)) at hc92
          exfalso; omega
      · intro hc93
        change ¬ (x6 ≠ (0 : Int)) at hc93
        exfalso; omega
end
section
/-! the class's world runs, exactly -/
set_option maxHeartbeats 4000000 in
theorem cm_113_x {X : List (Nat × List Value)} {d : Nat} {h : pm_H} (hd : 6 ≤ d) (I : pw_I h) (c : Nat) (hc : pw_Sc c) (sd : Int) (hsd1 : 0 ≤ sd) (hsd2 : sd ≤ 9999) (la : Int) (hla1 : 0 ≤ la) (hla2 : la ≤ 11) (th : Int → Int) (C : Int → List Int) (N : Int → Int) (hp0 : px_SC 0 h c th C N) (hp1 : pe_good 0 th C) : pw X d h 113 0 [some (.ref 112), some (.ref (16 + c)), some (pw_i sd), some (pw_i la), none, none] [] (fun h' v => pw_I h' ∧ pw_E [96, 98, 99, c + 5] h h' ∧ (px_mo h h' th C sd (la + 1)) ∧ (v = .inl none)) := by
  have E : pm_ent 113 = some (4, 6, 10, 4, pmc_113) := rfl
  have E0 : pw_E [96, 98, 99, c + 5] h h := pw_E.rf _ _
  have hc88 : c ≤ 88 := by
    have hcc := hc
    unfold pw_Sc at hcc
    omega
  refine pw_ld E (pc' := 1) (st' := [.ref 112]) rfl (fun _ => rfl) ?_
  refine pw_ld E (pc' := 2) (st' := [pw_i sd, .ref 112]) rfl (fun _ => rfl) ?_
  refine pw_i2l E (pc' := 3) rfl rfl (by omega) (by omega) ?_
  refine pw_putL I E (c := 96) (k := 5) (pc' := 6) rfl rfl rfl rfl rfl rfl ?_
  intro h1I h1E
  generalize h1w : pw_w h 96 5 (.long (Int64.ofInt sd)) = h1 at h1I h1E ⊢
  have h1F := E0.tr (h1E.wk (W' := [96, 98, 99, c + 5]) (by first | rfl | simp))
  refine pw_ld E (pc' := 7) (st' := [.ref 112]) rfl (fun _ => rfl) ?_
  refine pw_getR (b := 113) h1I E (c := 96) (k := 3) (pc' := 10) rfl rfl rfl rfl rfl rfl rfl ?_
  refine pw_ld E (pc' := 11) (st' := [.ref 112, .ref 113]) rfl (fun _ => rfl) ?_
  refine pw_getR (b := 26) h1I E (c := 96) (k := 1) (pc' := 14) rfl rfl rfl rfl rfl rfl rfl ?_
  obtain ⟨f2l, f2h, -⟩ := pw_obj (c := 97) h1I rfl
  refine pw_call (m' := 25) (As := [.ref 113, .ref 26]) (rest := []) (ls'' := [some (.ref 113), some (.ref 26)]) (Nat.le_trans (by decide) hd) E rfl (fun _ => pw_iV rfl rfl rfl rfl (pw_cellI f2h rfl)) (rfl : pm_ent 25 = some (2, 2, 2, 4, pmc_25)) rfl rfl (cm_25_97x (pw_dp hd (by decide)) h1I ) ?_
  rintro h3 v4 ⟨h3I, h3E, hq25, rfl⟩
  refine ⟨_, rfl, ?_⟩
  have h3F := h1F.tr (h3E.wk (W' := [96, 98, 99, c + 5]) (by first | rfl | simp))
  show pw X d h3 113 17 [some (.ref 112), some (.ref (16 + c)), some (pw_i sd), some (pw_i la), none, none] [] _
  have hgs : pw_gm h1 96 5 = sd := by rw [← h1w]; exact pw_gm_eq (c := 96) (k := 5) I rfl rfl (by omega) (by omega)
  have hz20 : px_r1 h h3 sd 0 := ⟨(pw_Egm (c := 96) h1I h3E rfl rfl 5).trans hgs, fun j => by rw [hq25 j, pu_r1z, ← h1w, pw_g_ne (by omega)]⟩
  refine pw_ld E (pc' := 18) (st' := [pw_i 0]) rfl (fun _ => rfl) ?_
  refine pw_ist E (pc' := 20) (ls' := [some (.ref 112), some (.ref (16 + c)), some (pw_i sd), some (pw_i la), some (pw_i 0), none]) rfl rfl rfl rfl ?_
  have L20 : ∀ (n20 : Nat) (k20_4 : Int) (gh20 : pm_H), pw_I gh20 → pw_E [96, 98, 99, c + 5] h gh20 → 0 ≤ k20_4 → k20_4 ≤ 24 → px_r1 h gh20 sd (k20_4) → (24 - k20_4).toNat = n20 → pw X d gh20 113 20 [some (.ref 112), some (.ref (16 + c)), some (pw_i sd), some (pw_i la), some (pw_i k20_4), none] [] (fun h' v => pw_I h' ∧ pw_E [96, 98, 99, c + 5] h h' ∧ (px_mo h h' th C sd (la + 1)) ∧ (v = .inl none)) := by
    intro n20
    induction n20 using Nat.strongRecOn with
    | ind n20 ih20 =>
      intro k20_4 gh20 I20 E20 k20_4a k20_4b hx20_0 hm20
      refine pw_ld E (pc' := 22) (st' := [pw_i k20_4]) rfl (fun _ => rfl) ?_
      refine pw_bip E (pc' := 24) rfl rfl (by decide) ?_
      refine pw_if2 E (pc' := 58) rfl (by decide) (by omega) (by omega) (by decide) (by decide) ?_ ?_
      · intro hc5
        change (24 : Int) ≤ k20_4 at hc5
        have hz61 : px_mo h gh20 th C sd 1 := px_r1.mo (by rw [show (24 : Int) = k20_4 by omega]; exact hx20_0)
        have hgz := hx20_0.1
        refine pw_ld E (pc' := 59) (st' := [pw_i 1]) rfl (fun _ => rfl) ?_
        refine pw_ist E (pc' := 61) (ls' := [some (.ref 112), some (.ref (16 + c)), some (pw_i sd), some (pw_i la), some (pw_i 1), none]) rfl rfl rfl rfl ?_
        have L61 : ∀ (n61 : Nat) (k61_4 : Int) (k61_5 : Option Value) (gh61 : pm_H), pw_I gh61 → pw_E [96, 98, 99, c + 5] h gh61 → 1 ≤ k61_4 → k61_4 ≤ 12 → px_mo h gh61 th C sd (k61_4) → 0 ≤ pw_gm gh61 96 5 → pw_gm gh61 96 5 ≤ 2147483647 → k61_4 ≤ la + 1 → (12 - k61_4).toNat = n61 → pw X d gh61 113 61 [some (.ref 112), some (.ref (16 + c)), some (pw_i sd), some (pw_i la), some (pw_i k61_4), k61_5] [] (fun h' v => pw_I h' ∧ pw_E [96, 98, 99, c + 5] h h' ∧ (px_mo h h' th C sd (la + 1)) ∧ (v = .inl none)) := by
          intro n61
          induction n61 using Nat.strongRecOn with
          | ind n61 ih61 =>
            intro k61_4 k61_5 gh61 I61 E61 k61_4a k61_4b hx61_0 hx61_1 hx61_2 hx61_3 hm61
            refine pw_ld E (pc' := 63) (st' := [pw_i k61_4]) rfl (fun _ => rfl) ?_
            refine pw_ld E (pc' := 64) (st' := [pw_i la, pw_i k61_4]) rfl (fun _ => rfl) ?_
            refine pw_if2 E (pc' := 117) rfl (by decide) (by omega) (by omega) (by omega) (by omega) ?_ ?_
            · intro hc6
              change la < k61_4 at hc6
              refine pw_vret E rfl ?_
              have hla : k61_4 = la + 1 := by omega
              rw [hla] at hx61_0
              exact ⟨I61, E61, hx61_0, rfl⟩
            · intro hc7
              change ¬ (la < k61_4) at hc7
              refine pw_ld E (pc' := 69) (st' := [pw_i k61_4]) rfl (fun _ => rfl) ?_
              refine pw_bip E (pc' := 71) rfl rfl (by decide) ?_
              refine pw_if2 E (pc' := 117) rfl (by decide) (by omega) (by omega) (by decide) (by decide) ?_ ?_
              · intro hc8
                change (12 : Int) ≤ k61_4 at hc8
                exfalso; omega
              · intro hc9
                change ¬ ((12 : Int) ≤ k61_4) at hc9
                refine pw_ld E (pc' := 75) (st' := [pw_i 0]) rfl (fun _ => rfl) ?_
                refine pw_ist E (pc' := 77) (ls' := [some (.ref 112), some (.ref (16 + c)), some (pw_i sd), some (pw_i la), some (pw_i k61_4), some (pw_i 0)]) rfl rfl rfl rfl ?_
                have L77 : ∀ (n77 : Nat) (k77_5 : Int) (gh77 : pm_H), pw_I gh77 → pw_E [96, 98, 99, c + 5] h gh77 → 0 ≤ k77_5 → k77_5 ≤ 24 → px_kt h gh61 gh77 th C (k61_4) (k77_5) → 0 ≤ pw_gm gh77 96 5 → pw_gm gh77 96 5 ≤ 2147483647 → (24 - k77_5).toNat = n77 → pw X d gh77 113 77 [some (.ref 112), some (.ref (16 + c)), some (pw_i sd), some (pw_i la), some (pw_i k61_4), some (pw_i k77_5)] [] (fun h' v => pw_I h' ∧ pw_E [96, 98, 99, c + 5] h h' ∧ (px_mo h h' th C sd (la + 1)) ∧ (v = .inl none)) := by
                  intro n77
                  induction n77 using Nat.strongRecOn with
                  | ind n77 ih77 =>
                    intro k77_5 gh77 I77 E77 k77_5a k77_5b hx77_0 hx77_1 hx77_2 hm77
                    refine pw_ld E (pc' := 79) (st' := [pw_i k77_5]) rfl (fun _ => rfl) ?_
                    refine pw_bip E (pc' := 81) rfl rfl (by decide) ?_
                    refine pw_if2 E (pc' := 111) rfl (by decide) (by omega) (by omega) (by decide) (by decide) ?_ ?_
                    · intro hc10
                      change (24 : Int) ≤ k77_5 at hc10
                      have hM : px_mo h gh77 th C sd (k61_4 + 1) := px_kt.mo (by omega) hx61_0 (by rw [show (24 : Int) = k77_5 by omega]; exact hx77_0)
                      refine pw_inc E (pc' := 114) (ls' := [some (.ref 112), some (.ref (16 + c)), some (pw_i sd), some (pw_i la), some (pw_i (k61_4 + 1)), some (pw_i k77_5)]) rfl rfl rfl rfl ?_
                      refine pw_goto E (pc' := 61) rfl (by decide) ?_
                      exact ih61 _ (by omega) (k61_4 + 1) (some (pw_i k77_5)) gh77 I77 E77 (by omega) (by omega) hM (by omega) (by omega) (by omega) rfl
                    · intro hc11
                      change ¬ ((24 : Int) ≤ k77_5) at hc11
                      refine pw_ld E (pc' := 85) (st' := [.ref 112]) rfl (fun _ => rfl) ?_
                      refine pw_getR (b := 17) I77 E (c := 96) (k := 0) (pc' := 88) rfl rfl rfl rfl rfl rfl rfl ?_
                      refine pw_ld E (pc' := 90) (st' := [pw_i k77_5, .ref 17]) rfl (fun _ => rfl) ?_
                      obtain ⟨f12l, f12h, -⟩ := pw_obj (c := 1) I77 rfl
                      refine pw_call (m' := 59) (As := [.ref 17, pw_i k77_5]) (rest := []) (ls'' := [some (.ref 17), some (pw_i k77_5)]) (Nat.le_trans (by decide) hd) E rfl (fun _ => pw_iV rfl rfl rfl rfl (pw_cellI f12h rfl)) (rfl : pm_ent 59 = some (2, 2, 6, 1, pmc_59)) rfl rfl (cm_59 (pw_dp hd (by decide)) I77 (k77_5) (by omega) (by omega)) ?_
                      rintro u14 v13 ⟨rfl, x15, rfl, hx15a, hx15b, hx15r⟩
                      refine ⟨_, rfl, ?_⟩
                      show pw X d gh77 113 93 [some (.ref 112), some (.ref (16 + c)), some (pw_i sd), some (pw_i la), some (pw_i k61_4), some (pw_i k77_5)] [pw_i x15] _
                      change x15 = pw_g gh77 2 k77_5.toNat at hx15r
                      rcases (by omega : x15 = 1 ∨ x15 = 0) with hb16 | hb16
                      · skip
                        refine pw_if E (pc' := 105) rfl (by decide) (by omega) (by omega) ?_ ?_
                        · intro hc17
                          change x15 = (0 : Int) at hc17
                          exfalso; omega
                        · intro hc18
                          change ¬ (x15 = (0 : Int)) at hc18
                          refine pw_ld E (pc' := 97) (st' := [.ref 112]) rfl (fun _ => rfl) ?_
                          refine pw_ld E (pc' := 98) (st' := [.ref (16 + c), .ref 112]) rfl (fun _ => rfl) ?_
                          refine pw_ld E (pc' := 100) (st' := [pw_i k77_5, .ref (16 + c), .ref 112]) rfl (fun _ => rfl) ?_
                          refine pw_ld E (pc' := 102) (st' := [pw_i k61_4, pw_i k77_5, .ref (16 + c), .ref 112]) rfl (fun _ => rfl) ?_
                          have hSC : px_SC 0 gh77 c th C N := px_SC.fr I hc E77 (fun x hx hm => by simp only [List.mem_cons, List.not_mem_nil, or_false] at hm; omega) hp0
                          obtain ⟨f19l, f19h, -⟩ := pw_obj (c := 96) I77 rfl
                          refine pw_call (m' := 114) (As := [.ref 112, .ref (16 + c), pw_i k77_5, pw_i k61_4]) (rest := []) (ls'' := [some (.ref 112), some (.ref (16 + c)), some (pw_i k77_5), some (pw_i k61_4), none, none, none, none, none]) (Nat.le_trans (by decide) hd) E rfl (fun _ => pw_iV rfl rfl rfl rfl (pw_cellI f19h rfl)) (rfl : pm_ent 114 = some (4, 9, 10, 4, pmc_114)) rfl rfl (cm_114_x (pw_dp hd (by decide)) I77 c hc (k77_5) (by omega) (by omega) (k61_4) (by omega) (by omega) th C N hSC hp1 (by omega) (by omega)) ?_
                          rintro h20 v21 ⟨h20I, h20E, hq114, rfl⟩
                          refine ⟨_, rfl, ?_⟩
                          have h20F := E77.tr (h20E.wk (W' := [96, 98, 99, c + 5]) (by first | rfl | simp))
                          show pw X d h20 113 105 [some (.ref 112), some (.ref (16 + c)), some (pw_i sd), some (pw_i la), some (pw_i k61_4), some (pw_i k77_5)] [] _
                          have hL := px_live (h := h) (hd := gh77) (h' := h20) (th := th) (C := C) (k := k77_5) (mo := k61_4) (by omega) (by omega) (by omega) (by omega) (fun j => pw_Eg (c := 4) I E77 rfl (px_n9 hc (by decide)) j) (fun j => pw_Eg (c := 5) I E77 rfl (px_n9 hc (by decide)) j) (fun j => pw_Eg (c := 8) I E77 rfl (px_n9 hc (by decide)) j) (fun j => pw_Eg (c := 9) I E77 rfl (px_n9 hc (by decide)) j) (by rw [← pw_Eg (c := 2) I E77 rfl (px_n9 hc (by decide)) _]; omega) hq114.1 hq114.2.1 hq114.2.2
                          have hK : px_kt h gh61 h20 th C k61_4 (k77_5 + 1) := px_kt.yes (by omega) hx77_0 hL
                          have hgB := pu_gB (pw_gm gh77 96 5)
                          have hg4 := hq114.1
                          refine pw_inc E (pc' := 108) (ls' := [some (.ref 112), some (.ref (16 + c)), some (pw_i sd), some (pw_i la), some (pw_i k61_4), some (pw_i (k77_5 + 1))]) rfl rfl rfl rfl ?_
                          refine pw_goto E (pc' := 77) rfl (by decide) ?_
                          exact ih77 _ (by omega) (k77_5 + 1) h20 h20I h20F (by omega) (by omega) hK (by omega) (by omega) rfl
                      · skip
                        refine pw_if E (pc' := 105) rfl (by decide) (by omega) (by omega) ?_ ?_
                        · intro hc23
                          change x15 = (0 : Int) at hc23
                          have hK : px_kt h gh61 gh77 th C k61_4 (k77_5 + 1) := px_kt.no (by omega) hx77_0 (by rw [← pw_Eg (c := 2) I E77 rfl (px_n9 hc (by decide)) _]; omega)
                          refine pw_inc E (pc' := 108) (ls' := [some (.ref 112), some (.ref (16 + c)), some (pw_i sd), some (pw_i la), some (pw_i k61_4), some (pw_i (k77_5 + 1))]) rfl rfl rfl rfl ?_
                          refine pw_goto E (pc' := 77) rfl (by decide) ?_
                          exact ih77 _ (by omega) (k77_5 + 1) gh77 I77 E77 (by omega) (by omega) hK (by omega) (by omega) rfl
                        · intro hc24
                          change ¬ (x15 = (0 : Int)) at hc24
                          exfalso; omega
                exact L77 _ (0) gh61 I61 E61 (by omega) (by omega) px_kt.z (by omega) (by omega) rfl
        exact L61 _ (1) (none) gh20 I20 E20 (by omega) (by omega) hz61 (by omega) (by omega) (by omega) rfl
      · intro hc25
        change ¬ ((24 : Int) ≤ k20_4) at hc25
        refine pw_ld E (pc' := 28) (st' := [.ref 112]) rfl (fun _ => rfl) ?_
        refine pw_getR (b := 113) I20 E (c := 96) (k := 3) (pc' := 31) rfl rfl rfl rfl rfl rfl rfl ?_
        refine pw_ld E (pc' := 33) (st' := [pw_i k20_4, .ref 113]) rfl (fun _ => rfl) ?_
        refine pw_ld E (pc' := 34) (st' := [pw_i 0, pw_i k20_4, .ref 113]) rfl (fun _ => rfl) ?_
        obtain ⟨f26l, f26h, -⟩ := pw_obj (c := 97) I20 rfl
        refine pw_call (m' := 19) (As := [.ref 113, pw_i k20_4, pw_i 0]) (rest := []) (ls'' := [some (.ref 113), some (pw_i k20_4), some (pw_i 0)]) (Nat.le_trans (by decide) hd) E rfl (fun _ => pw_iV rfl rfl rfl rfl (pw_cellI f26h rfl)) (rfl : pm_ent 19 = some (3, 3, 2, 1, pmc_19)) rfl rfl (cm_19_97x (pw_dp hd (by decide)) I20 (k20_4) (by omega) (by omega) (0) (by omega) (by omega)) ?_
        rintro u28 v27 ⟨rfl, x29, rfl, hx29a, hx29b, hx29r⟩
        refine ⟨_, rfl, ?_⟩
        show pw X d gh20 113 37 [some (.ref 112), some (.ref (16 + c)), some (pw_i sd), some (pw_i la), some (pw_i k20_4), none] [pw_i x29] _
        change (x29 = 1 ∧ pw_g gh20 98 (k20_4 * 12 + 0).toNat = -2) ∨ (x29 = 0 ∧ pw_g gh20 98 (k20_4 * 12 + 0).toNat ≠ -2) at hx29r
        rcases (by omega : x29 = 1 ∨ x29 = 0) with hb30 | hb30
        · skip
          refine pw_if E (pc' := 52) rfl (by decide) (by omega) (by omega) ?_ ?_
          · intro hc31
            change x29 = (0 : Int) at hc31
            exfalso; omega
          · intro hc32
            change ¬ (x29 = (0 : Int)) at hc32
            refine pw_ld E (pc' := 41) (st' := [.ref 112]) rfl (fun _ => rfl) ?_
            refine pw_getR (b := 113) I20 E (c := 96) (k := 3) (pc' := 44) rfl rfl rfl rfl rfl rfl rfl ?_
            refine pw_ld E (pc' := 46) (st' := [pw_i k20_4, .ref 113]) rfl (fun _ => rfl) ?_
            refine pw_ld E (pc' := 47) (st' := [pw_i 0, pw_i k20_4, .ref 113]) rfl (fun _ => rfl) ?_
            refine pw_ld E (pc' := 48) (st' := [pw_i 0, pw_i 0, pw_i k20_4, .ref 113]) rfl (fun _ => rfl) ?_
            refine pw_ld E (pc' := 49) (st' := [pw_i 0, pw_i 0, pw_i 0, pw_i k20_4, .ref 113]) rfl (fun _ => rfl) ?_
            obtain ⟨f33l, f33h, -⟩ := pw_obj (c := 97) I20 rfl
            refine pw_call (m' := 18) (As := [.ref 113, pw_i k20_4, pw_i 0, pw_i 0, pw_i 0]) (rest := []) (ls'' := [some (.ref 113), some (pw_i k20_4), some (pw_i 0), some (pw_i 0), some (pw_i 0)]) (Nat.le_trans (by decide) hd) E rfl (fun _ => pw_iV rfl rfl rfl rfl (pw_cellI f33h rfl)) (rfl : pm_ent 18 = some (5, 5, 2, 4, pmc_18)) rfl rfl (cm_18_97x (pw_dp hd (by decide)) I20 (k20_4) (by omega) (by omega) (0) (by omega) (by omega) (0) (by omega) (by omega) (0) (by omega) (by omega)) ?_
            rintro h34 v35 ⟨h34I, h34E, hqup18, rfl⟩
            refine ⟨_, rfl, ?_⟩
            have h34F := E20.tr (h34E.wk (W' := [96, 98, 99, c + 5]) (by first | rfl | simp))
            show pw X d h34 113 52 [some (.ref 112), some (.ref (16 + c)), some (pw_i sd), some (pw_i la), some (pw_i k20_4), none] [] _
            have hR : px_r1 h h34 sd (k20_4 + 1) := ⟨(pw_Egm (c := 96) I20 h34E rfl rfl 5).trans hx20_0.1, pu_r1a (by omega) hx20_0.2 (by omega) hqup18.1 hqup18.2⟩
            refine pw_inc E (pc' := 55) (ls' := [some (.ref 112), some (.ref (16 + c)), some (pw_i sd), some (pw_i la), some (pw_i (k20_4 + 1)), none]) rfl rfl rfl rfl ?_
            refine pw_goto E (pc' := 20) rfl (by decide) ?_
            exact ih20 _ (by omega) (k20_4 + 1) h34 h34I h34F (by omega) (by omega) hR rfl
        · skip
          refine pw_if E (pc' := 52) rfl (by decide) (by omega) (by omega) ?_ ?_
          · intro hc37
            change x29 = (0 : Int) at hc37
            have hR : px_r1 h gh20 sd (k20_4 + 1) := ⟨hx20_0.1, pu_r1b (by omega) hx20_0.2 (by omega)⟩
            refine pw_inc E (pc' := 55) (ls' := [some (.ref 112), some (.ref (16 + c)), some (pw_i sd), some (pw_i la), some (pw_i (k20_4 + 1)), none]) rfl rfl rfl rfl ?_
            refine pw_goto E (pc' := 20) rfl (by decide) ?_
            exact ih20 _ (by omega) (k20_4 + 1) gh20 I20 E20 (by omega) (by omega) hR rfl
          · intro hc38
            change ¬ (x29 = (0 : Int)) at hc38
            exfalso; omega
  exact L20 _ (0) h3 h3I h3F (by omega) (by omega) hz20 rfl
end
section
/-! worlds: the model's rows -/
def pu_Wr (v s w g : Int) : Prop := (v = -1 ∧ s = 1 ∧ w = 0 ∧ g = 0) ∨ (v ≠ -1 ∧ s = 0 ∧ v = w * 100 + g ∧ 0 ≤ w ∧ w ≤ 99 ∧ 0 ≤ g ∧ g ≤ 99)
theorem pu_Wr.n {th : Int → Int} {C : Int → List Int} {F : Int → Int} {p s w g : Int} (o : pu_o th C F p = 1) (s0 : s = 0) (h0 : w = pu_n th C F 0) (h1 : g = pu_n th C F 1) (w0 : 0 ≤ w) (w1 : w ≤ 99) (g0 : 0 ≤ g) (g1 : g ≤ 99) : pu_Wr (pu_lv th C F p) s w g := by
  have e : pu_lv th C F p = w * 100 + g := by
    unfold pu_lv
    rw [if_pos o, ← h0, ← h1]
  rw [e]
  exact Or.inr ⟨by omega, s0, rfl, w0, w1, g0, g1⟩
theorem pu_Wr.s {th : Int → Int} {C : Int → List Int} {F : Int → Int} {p s w g : Int} (o : pu_o th C F p = 0) (s1 : s = 1) (h0 : w = 0) (h1 : g = 0) : pu_Wr (pu_lv th C F p) s w g := by
  have e : pu_lv th C F p = -1 := by
    unfold pu_lv
    rw [if_neg (by omega)]
  rw [e]
  exact Or.inl ⟨rfl, s1, h0, h1⟩
/-- the model's way to clip -/
theorem pu_nM {th : Int → Int} {C : Int → List Int} {F : Int → Int} {k y : Int} (h : (th k = 0 ∧ y = F k) ∨ (th k = 1 ∧ (((pe_s F (C k)).getD 0 0 < 0 ∧ y = 0) ∨ (99 < (pe_s F (C k)).getD 0 0 ∧ y = 99) ∨ (0 ≤ (pe_s F (C k)).getD 0 0 ∧ (pe_s F (C k)).getD 0 0 ≤ 99 ∧ y = (pe_s F (C k)).getD 0 0)))) : y = pu_n th C F k := by
  unfold pu_n pu_v pu_cl
  rcases h with ⟨a, b⟩ | ⟨a, b⟩
  · rw [if_neg (by omega)]; exact b
  · rw [if_pos a]
    rcases b with ⟨c, d⟩ | ⟨c, d⟩ | ⟨c, c2, d⟩
    · rw [if_pos c]; exact d
    · rw [if_neg (by omega), if_pos c]; exact d
    · rw [if_neg (by omega), if_neg (by omega)]; exact d
theorem pt_MS.fr {W : List Nat} {h h' : pm_H} {l : Int} {th : Int → Int} {C : Int → List Int} (I : pw_I h) (E : pw_E W h h') (n5 : W.contains 145 = false) (n6 : W.contains 146 = false) (n7 : W.contains 147 = false) (H : pt_MS h l th C) : pt_MS h' l th C := by
  intro k k0 k3
  rw [pw_Eg (c := 145) I E rfl n5]
  rcases H k k0 k3 with ⟨a, b, c⟩ | a
  · refine Or.inl ⟨a, b, c.1.cg (fun j _ => ⟨pw_Eg (c := 146) I E rfl n6 _, pw_Eg (c := 147) I E rfl n7 _⟩), ?_, c.2.2⟩
    rw [pw_Eg (c := 146) I E rfl n6]
    exact c.2.1
  · exact Or.inr a
end
