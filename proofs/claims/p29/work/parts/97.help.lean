/-! the law's helpers (printed by wip/tool/mhelp.py) -/
set_option maxHeartbeats 1000000 in
theorem cm_310 {X : List (Nat × List Value)} {d : Nat} {h : pm_H} (hd : 6 ≤ d) (I : pw_I h) (bk : Int) (hbk1 : (-2147483648) ≤ bk) (hbk2 : bk ≤ 2147483647) (b : Int) (hb1 : (-2147483648) ≤ b) (hb2 : b ≤ 2147483647) (e : Int) (he1 : (-2147483648) ≤ e) (he2 : e ≤ 2147483647) (wt : Int) (hwt1 : (-2147483648) ≤ wt) (hwt2 : wt ≤ 2147483647) : pw X d h 310 0 [some (.ref 16), some (pw_i bk), some (pw_i b), some (pw_i e), some (pw_i wt), some (.ref 185), none] [] (fun h' v => pw_I h' ∧ pw_E [169] h h' ∧ ∃ a : Int, v = .inl (some (pw_i a)) ∧ 0 ≤ a ∧ a ≤ 1) := by
  have E : pm_ent 310 = some (6, 7, 13, 0, pmc_310) := rfl
  refine pw_ld E (pc' := 2) (st' := [.ref 185]) rfl (fun _ => rfl) ?_
  refine pw_ld E (pc' := 3) (st' := [pw_i 0, .ref 185]) rfl (fun _ => rfl) ?_
  refine pw_ld E (pc' := 4) (st' := [.ref 16, pw_i 0, .ref 185]) rfl (fun _ => rfl) ?_
  refine pw_ld E (pc' := 5) (st' := [pw_i bk, .ref 16, pw_i 0, .ref 185]) rfl (fun _ => rfl) ?_
  refine pw_ld E (pc' := 6) (st' := [pw_i b, pw_i bk, .ref 16, pw_i 0, .ref 185]) rfl (fun _ => rfl) ?_
  refine pw_ld E (pc' := 7) (st' := [pw_i e, pw_i b, pw_i bk, .ref 16, pw_i 0, .ref 185]) rfl (fun _ => rfl) ?_
  refine pw_ld E (pc' := 9) (st' := [pw_i wt, pw_i e, pw_i b, pw_i bk, .ref 16, pw_i 0, .ref 185]) rfl (fun _ => rfl) ?_
  obtain ⟨fl, fh, -⟩ := pw_obj (c := 0) I rfl
  refine pw_callH (m' := 169) (As := [.ref 16, pw_i bk, pw_i b, pw_i e, pw_i wt]) (rest := [pw_i 0, .ref 185]) (ls'' := [some (.ref 16), some (pw_i bk), some (pw_i b), some (pw_i e), some (pw_i wt), none, none]) (by omega) E rfl (fun _ => pw_iVh rfl rfl rfl rfl (pw_cellI fh rfl)) (rfl : pm_ent 169 = some (5, 7, 11, 0, pmc_169)) rfl rfl (cm_169 (by omega) I bk (by omega) (by omega) b (by omega) (by omega) e (by omega) (by omega) wt (by omega) (by omega)) ?_
  rintro h1 v1 ⟨rfl, rfl | ⟨a, rfl, ha, hb⟩⟩
  · exact Or.inl ⟨rfl, I, pw_E.rf _ _, 1, rfl, by decide, by decide⟩
  · refine Or.inr ⟨_, rfl, ?_⟩
    show pw X d h 310 12 [some (.ref 16), some (pw_i bk), some (pw_i b), some (pw_i e), some (pw_i wt), some (.ref 185), none] [pw_i a, pw_i 0, .ref 185] _
    refine pw_ld E (pc' := 13) (st' := [.long ((Int32.ofInt a).toInt64), pw_i 0, .ref 185]) rfl (fun _ => rfl) ?_
    refine pw_last I E (c := 169) (pc' := 14) rfl rfl rfl (by decide) (by decide) (by decide) rfl ?_
    intro I2 E2
    have E3 := (pw_E.rf _ _ : pw_E [169] h h).tr (E2.wk (W' := [169]) (by first | rfl | decide))
    refine pw_goto E (pc' := 21) rfl (by decide) ?_
    refine pw_ld E (pc' := 22) (st' := [pw_i 0]) rfl (fun _ => rfl) ?_
    refine pw_iret E rfl ?_
    exact ⟨I2, E3, 0, rfl, by decide, by decide⟩
set_option maxHeartbeats 1000000 in
theorem cm_311 {X : List (Nat × List Value)} {d : Nat} {h : pm_H} (hd : 6 ≤ d) (I : pw_I h) (a0 : Int) (ha01 : (-2147483648) ≤ a0) (ha02 : a0 ≤ 2147483647) (a1 : Int) (ha11 : (-2147483648) ≤ a1) (ha12 : a1 ≤ 2147483647) (a2 : Int) (ha21 : (-2147483648) ≤ a2) (ha22 : a2 ≤ 2147483647) (a3 : Int) (ha31 : (-2147483648) ≤ a3) (ha32 : a3 ≤ 2147483647) : pw X d h 311 0 [some (.ref 16), some (pw_i a0), some (pw_i a1), some (pw_i a2), some (pw_i a3), some (.ref 185), none] [] (fun h' v => pw_I h' ∧ pw_E [17, 18, 22, 169] h h' ∧ ∃ a : Int, v = .inl (some (pw_i a)) ∧ 0 ≤ a ∧ a ≤ 1) := by
  have E : pm_ent 311 = some (6, 7, 13, 0, pmc_311) := rfl
  refine pw_ld E (pc' := 2) (st' := [.ref 185]) rfl (fun _ => rfl) ?_
  refine pw_ld E (pc' := 3) (st' := [pw_i 0, .ref 185]) rfl (fun _ => rfl) ?_
  refine pw_ld E (pc' := 4) (st' := [.ref 16, pw_i 0, .ref 185]) rfl (fun _ => rfl) ?_
  refine pw_ld E (pc' := 5) (st' := [pw_i a0, .ref 16, pw_i 0, .ref 185]) rfl (fun _ => rfl) ?_
  refine pw_ld E (pc' := 6) (st' := [pw_i a1, pw_i a0, .ref 16, pw_i 0, .ref 185]) rfl (fun _ => rfl) ?_
  refine pw_ld E (pc' := 7) (st' := [pw_i a2, pw_i a1, pw_i a0, .ref 16, pw_i 0, .ref 185]) rfl (fun _ => rfl) ?_
  refine pw_ld E (pc' := 9) (st' := [pw_i a3, pw_i a2, pw_i a1, pw_i a0, .ref 16, pw_i 0, .ref 185]) rfl (fun _ => rfl) ?_
  obtain ⟨fl, fh, -⟩ := pw_obj (c := 0) I rfl
  refine pw_callH (m' := 171) (As := [.ref 16, pw_i a0, pw_i a1, pw_i a2, pw_i a3]) (rest := [pw_i 0, .ref 185]) (ls'' := [some (.ref 16), some (pw_i a0), some (pw_i a1), some (pw_i a2), some (pw_i a3), none]) (by omega) E rfl (fun _ => pw_iVh rfl rfl rfl rfl (pw_cellI fh rfl)) (rfl : pm_ent 171 = some (5, 6, 11, 2, pmc_171)) rfl rfl (cm_171 (by omega) I a0 (by omega) (by omega) a1 (by omega) (by omega) a2 (by omega) (by omega) a3 (by omega) (by omega)) ?_
  rintro h1 v1 ⟨I1, E1, rfl | ⟨w, rfl⟩⟩
  · exact Or.inl ⟨rfl, I1, (E1.wk (W' := [17, 18, 22, 169]) (by first | rfl | decide)), 1, rfl, by decide, by decide⟩
  · refine Or.inr ⟨_, rfl, ?_⟩
    show pw X d h1 311 12 [some (.ref 16), some (pw_i a0), some (pw_i a1), some (pw_i a2), some (pw_i a3), some (.ref 185), none] [.long w, pw_i 0, .ref 185] _
    refine pw_last I1 E (c := 169) (pc' := 13) rfl rfl rfl (by decide) (by decide) (by decide) rfl ?_
    intro I2 E2
    have E3 := ((E1.wk (W' := [17, 18, 22, 169]) (by first | rfl | decide)) : pw_E [17, 18, 22, 169] h h1).tr (E2.wk (W' := [17, 18, 22, 169]) (by first | rfl | decide))
    refine pw_goto E (pc' := 20) rfl (by decide) ?_
    refine pw_ld E (pc' := 21) (st' := [pw_i 0]) rfl (fun _ => rfl) ?_
    refine pw_iret E rfl ?_
    exact ⟨I2, E3, 0, rfl, by decide, by decide⟩
set_option maxHeartbeats 1000000 in
theorem cm_312 {X : List (Nat × List Value)} {d : Nat} {h : pm_H} (hd : 6 ≤ d) (I : pw_I h) (a0 : Int) (ha01 : (-2147483648) ≤ a0) (ha02 : a0 ≤ 2147483647) (a1 : Int) (ha11 : (-2147483648) ≤ a1) (ha12 : a1 ≤ 2147483647) (a2 : Int) (ha21 : (-2147483648) ≤ a2) (ha22 : a2 ≤ 2147483647) (a3 : Int) (ha31 : (-2147483648) ≤ a3) (ha32 : a3 ≤ 2147483647) : pw X d h 312 0 [some (.ref 16), some (pw_i a0), some (pw_i a1), some (pw_i a2), some (pw_i a3), some (.ref 185), none] [] (fun h' v => pw_I h' ∧ pw_E [17, 18, 22, 23, 169] h h' ∧ ∃ a : Int, v = .inl (some (pw_i a)) ∧ 0 ≤ a ∧ a ≤ 1) := by
  have E : pm_ent 312 = some (6, 7, 13, 0, pmc_312) := rfl
  refine pw_ld E (pc' := 2) (st' := [.ref 185]) rfl (fun _ => rfl) ?_
  refine pw_ld E (pc' := 3) (st' := [pw_i 0, .ref 185]) rfl (fun _ => rfl) ?_
  refine pw_ld E (pc' := 4) (st' := [.ref 16, pw_i 0, .ref 185]) rfl (fun _ => rfl) ?_
  refine pw_ld E (pc' := 5) (st' := [pw_i a0, .ref 16, pw_i 0, .ref 185]) rfl (fun _ => rfl) ?_
  refine pw_ld E (pc' := 6) (st' := [pw_i a1, pw_i a0, .ref 16, pw_i 0, .ref 185]) rfl (fun _ => rfl) ?_
  refine pw_ld E (pc' := 7) (st' := [pw_i a2, pw_i a1, pw_i a0, .ref 16, pw_i 0, .ref 185]) rfl (fun _ => rfl) ?_
  refine pw_ld E (pc' := 9) (st' := [pw_i a3, pw_i a2, pw_i a1, pw_i a0, .ref 16, pw_i 0, .ref 185]) rfl (fun _ => rfl) ?_
  obtain ⟨fl, fh, -⟩ := pw_obj (c := 0) I rfl
  refine pw_callH (m' := 172) (As := [.ref 16, pw_i a0, pw_i a1, pw_i a2, pw_i a3]) (rest := [pw_i 0, .ref 185]) (ls'' := [some (.ref 16), some (pw_i a0), some (pw_i a1), some (pw_i a2), some (pw_i a3), none]) (by omega) E rfl (fun _ => pw_iVh rfl rfl rfl rfl (pw_cellI fh rfl)) (rfl : pm_ent 172 = some (5, 6, 11, 2, pmc_172)) rfl rfl (cm_172 (by omega) I a0 (by omega) (by omega) a1 (by omega) (by omega) a2 (by omega) (by omega) a3 (by omega) (by omega)) ?_
  rintro h1 v1 ⟨I1, E1, rfl | ⟨w, rfl⟩⟩
  · exact Or.inl ⟨rfl, I1, (E1.wk (W' := [17, 18, 22, 23, 169]) (by first | rfl | decide)), 1, rfl, by decide, by decide⟩
  · refine Or.inr ⟨_, rfl, ?_⟩
    show pw X d h1 312 12 [some (.ref 16), some (pw_i a0), some (pw_i a1), some (pw_i a2), some (pw_i a3), some (.ref 185), none] [.long w, pw_i 0, .ref 185] _
    refine pw_last I1 E (c := 169) (pc' := 13) rfl rfl rfl (by decide) (by decide) (by decide) rfl ?_
    intro I2 E2
    have E3 := ((E1.wk (W' := [17, 18, 22, 23, 169]) (by first | rfl | decide)) : pw_E [17, 18, 22, 23, 169] h h1).tr (E2.wk (W' := [17, 18, 22, 23, 169]) (by first | rfl | decide))
    refine pw_goto E (pc' := 20) rfl (by decide) ?_
    refine pw_ld E (pc' := 21) (st' := [pw_i 0]) rfl (fun _ => rfl) ?_
    refine pw_iret E rfl ?_
    exact ⟨I2, E3, 0, rfl, by decide, by decide⟩
set_option maxHeartbeats 1000000 in
theorem cm_313 {X : List (Nat × List Value)} {d : Nat} {h : pm_H} (hd : 6 ≤ d) (I : pw_I h) (a0 : Int) (ha01 : (-2147483648) ≤ a0) (ha02 : a0 ≤ 2147483647) (a1 : Int) (ha11 : (-2147483648) ≤ a1) (ha12 : a1 ≤ 2147483647) (a2 : Int) (ha21 : (-2147483648) ≤ a2) (ha22 : a2 ≤ 2147483647) : pw X d h 313 0 [some (.ref 16), some (pw_i a0), some (pw_i a1), some (pw_i a2), some (.ref 185), none] [] (fun h' v => pw_I h' ∧ pw_E [17, 18, 22, 169] h h' ∧ ∃ a : Int, v = .inl (some (pw_i a)) ∧ 0 ≤ a ∧ a ≤ 1) := by
  have E : pm_ent 313 = some (5, 6, 13, 0, pmc_313) := rfl
  refine pw_ld E (pc' := 2) (st' := [.ref 185]) rfl (fun _ => rfl) ?_
  refine pw_ld E (pc' := 3) (st' := [pw_i 0, .ref 185]) rfl (fun _ => rfl) ?_
  refine pw_ld E (pc' := 4) (st' := [.ref 16, pw_i 0, .ref 185]) rfl (fun _ => rfl) ?_
  refine pw_ld E (pc' := 5) (st' := [pw_i a0, .ref 16, pw_i 0, .ref 185]) rfl (fun _ => rfl) ?_
  refine pw_ld E (pc' := 6) (st' := [pw_i a1, pw_i a0, .ref 16, pw_i 0, .ref 185]) rfl (fun _ => rfl) ?_
  refine pw_ld E (pc' := 7) (st' := [pw_i a2, pw_i a1, pw_i a0, .ref 16, pw_i 0, .ref 185]) rfl (fun _ => rfl) ?_
  obtain ⟨fl, fh, -⟩ := pw_obj (c := 0) I rfl
  refine pw_callH (m' := 173) (As := [.ref 16, pw_i a0, pw_i a1, pw_i a2]) (rest := [pw_i 0, .ref 185]) (ls'' := [some (.ref 16), some (pw_i a0), some (pw_i a1), some (pw_i a2)]) (by omega) E rfl (fun _ => pw_iVh rfl rfl rfl rfl (pw_cellI fh rfl)) (rfl : pm_ent 173 = some (4, 4, 11, 2, pmc_173)) rfl rfl (cm_173 (by omega) I a0 (by omega) (by omega) a1 (by omega) (by omega) a2 (by omega) (by omega)) ?_
  rintro h1 v1 ⟨I1, E1, rfl | ⟨w, rfl⟩⟩
  · exact Or.inl ⟨rfl, I1, (E1.wk (W' := [17, 18, 22, 169]) (by first | rfl | decide)), 1, rfl, by decide, by decide⟩
  · refine Or.inr ⟨_, rfl, ?_⟩
    show pw X d h1 313 10 [some (.ref 16), some (pw_i a0), some (pw_i a1), some (pw_i a2), some (.ref 185), none] [.long w, pw_i 0, .ref 185] _
    refine pw_last I1 E (c := 169) (pc' := 11) rfl rfl rfl (by decide) (by decide) (by decide) rfl ?_
    intro I2 E2
    have E3 := ((E1.wk (W' := [17, 18, 22, 169]) (by first | rfl | decide)) : pw_E [17, 18, 22, 169] h h1).tr (E2.wk (W' := [17, 18, 22, 169]) (by first | rfl | decide))
    refine pw_goto E (pc' := 18) rfl (by decide) ?_
    refine pw_ld E (pc' := 19) (st' := [pw_i 0]) rfl (fun _ => rfl) ?_
    refine pw_iret E rfl ?_
    exact ⟨I2, E3, 0, rfl, by decide, by decide⟩
set_option maxHeartbeats 1000000 in
theorem cm_314 {X : List (Nat × List Value)} {d : Nat} {h : pm_H} (hd : 5 ≤ d) (I : pw_I h) (b : Int) (hb1 : (-2147483648) ≤ b) (hb2 : b ≤ 2147483647) (e : Int) (he1 : (-2147483648) ≤ e) (he2 : e ≤ 2147483647) (z : Int) (hz1 : 0 ≤ z) (hz2 : z ≤ 1) (wt : Int) (hwt1 : (-2147483648) ≤ wt) (hwt2 : wt ≤ 2147483647) : pw X d h 314 0 [some (.ref 16), some (pw_i b), some (pw_i e), some (pw_i z), some (pw_i wt), some (.ref 185), none] [] (fun h' v => pw_I h' ∧ pw_E [17, 18, 22, 169] h h' ∧ ∃ a : Int, v = .inl (some (pw_i a)) ∧ 0 ≤ a ∧ a ≤ 1) := by
  have E : pm_ent 314 = some (6, 7, 13, 0, pmc_314) := rfl
  refine pw_ld E (pc' := 2) (st' := [.ref 185]) rfl (fun _ => rfl) ?_
  refine pw_ld E (pc' := 3) (st' := [pw_i 0, .ref 185]) rfl (fun _ => rfl) ?_
  refine pw_ld E (pc' := 4) (st' := [.ref 16, pw_i 0, .ref 185]) rfl (fun _ => rfl) ?_
  refine pw_ld E (pc' := 5) (st' := [pw_i b, .ref 16, pw_i 0, .ref 185]) rfl (fun _ => rfl) ?_
  refine pw_ld E (pc' := 6) (st' := [pw_i e, pw_i b, .ref 16, pw_i 0, .ref 185]) rfl (fun _ => rfl) ?_
  refine pw_ld E (pc' := 7) (st' := [pw_i z, pw_i e, pw_i b, .ref 16, pw_i 0, .ref 185]) rfl (fun _ => rfl) ?_
  refine pw_ld E (pc' := 9) (st' := [pw_i wt, pw_i z, pw_i e, pw_i b, .ref 16, pw_i 0, .ref 185]) rfl (fun _ => rfl) ?_
  obtain ⟨fl, fh, -⟩ := pw_obj (c := 0) I rfl
  refine pw_callH (m' := 177) (As := [.ref 16, pw_i b, pw_i e, pw_i z, pw_i wt]) (rest := [pw_i 0, .ref 185]) (ls'' := [some (.ref 16), some (pw_i b), some (pw_i e), some (pw_i z), some (pw_i wt), none, none]) (by omega) E rfl (fun _ => pw_iVh rfl rfl rfl rfl (pw_cellI fh rfl)) (rfl : pm_ent 177 = some (5, 7, 11, 2, pmc_177)) rfl rfl (cm_177 (by omega) I b (by omega) (by omega) e (by omega) (by omega) z (by omega) (by omega) wt (by omega) (by omega)) ?_
  rintro h1 v1 ⟨I1, E1, rfl | ⟨w, rfl⟩⟩
  · exact Or.inl ⟨rfl, I1, (E1.wk (W' := [17, 18, 22, 169]) (by first | rfl | decide)), 1, rfl, by decide, by decide⟩
  · refine Or.inr ⟨_, rfl, ?_⟩
    show pw X d h1 314 12 [some (.ref 16), some (pw_i b), some (pw_i e), some (pw_i z), some (pw_i wt), some (.ref 185), none] [.long w, pw_i 0, .ref 185] _
    refine pw_last I1 E (c := 169) (pc' := 13) rfl rfl rfl (by decide) (by decide) (by decide) rfl ?_
    intro I2 E2
    have E3 := ((E1.wk (W' := [17, 18, 22, 169]) (by first | rfl | decide)) : pw_E [17, 18, 22, 169] h h1).tr (E2.wk (W' := [17, 18, 22, 169]) (by first | rfl | decide))
    refine pw_goto E (pc' := 20) rfl (by decide) ?_
    refine pw_ld E (pc' := 21) (st' := [pw_i 0]) rfl (fun _ => rfl) ?_
    refine pw_iret E rfl ?_
    exact ⟨I2, E3, 0, rfl, by decide, by decide⟩
set_option maxHeartbeats 1000000 in
theorem cm_315 {X : List (Nat × List Value)} {d : Nat} {h : pm_H} (hd : 6 ≤ d) (I : pw_I h) (a0 : Int) (ha01 : (-2147483648) ≤ a0) (ha02 : a0 ≤ 2147483647) (a1 : Int) (ha11 : (-2147483648) ≤ a1) (ha12 : a1 ≤ 2147483647) (a2 : Int) (ha21 : (-2147483648) ≤ a2) (ha22 : a2 ≤ 2147483647) (a3 : Int) (ha31 : (-2147483648) ≤ a3) (ha32 : a3 ≤ 2147483647) : pw X d h 315 0 [some (.ref 16), some (pw_i a0), some (pw_i a1), some (pw_i a2), some (pw_i a3), some (.ref 185), none] [] (fun h' v => pw_I h' ∧ pw_E [17, 18, 22, 19, 169] h h' ∧ ∃ a : Int, v = .inl (some (pw_i a)) ∧ 0 ≤ a ∧ a ≤ 1) := by
  have E : pm_ent 315 = some (6, 7, 13, 0, pmc_315) := rfl
  refine pw_ld E (pc' := 2) (st' := [.ref 185]) rfl (fun _ => rfl) ?_
  refine pw_ld E (pc' := 3) (st' := [pw_i 0, .ref 185]) rfl (fun _ => rfl) ?_
  refine pw_ld E (pc' := 4) (st' := [.ref 16, pw_i 0, .ref 185]) rfl (fun _ => rfl) ?_
  refine pw_ld E (pc' := 5) (st' := [pw_i a0, .ref 16, pw_i 0, .ref 185]) rfl (fun _ => rfl) ?_
  refine pw_ld E (pc' := 6) (st' := [pw_i a1, pw_i a0, .ref 16, pw_i 0, .ref 185]) rfl (fun _ => rfl) ?_
  refine pw_ld E (pc' := 7) (st' := [pw_i a2, pw_i a1, pw_i a0, .ref 16, pw_i 0, .ref 185]) rfl (fun _ => rfl) ?_
  refine pw_ld E (pc' := 9) (st' := [pw_i a3, pw_i a2, pw_i a1, pw_i a0, .ref 16, pw_i 0, .ref 185]) rfl (fun _ => rfl) ?_
  obtain ⟨fl, fh, -⟩ := pw_obj (c := 0) I rfl
  refine pw_callH (m' := 178) (As := [.ref 16, pw_i a0, pw_i a1, pw_i a2, pw_i a3]) (rest := [pw_i 0, .ref 185]) (ls'' := [some (.ref 16), some (pw_i a0), some (pw_i a1), some (pw_i a2), some (pw_i a3), none]) (by omega) E rfl (fun _ => pw_iVh rfl rfl rfl rfl (pw_cellI fh rfl)) (rfl : pm_ent 178 = some (5, 6, 11, 2, pmc_178)) rfl rfl (cm_178 (by omega) I a0 (by omega) (by omega) a1 (by omega) (by omega) a2 (by omega) (by omega) a3 (by omega) (by omega)) ?_
  rintro h1 v1 ⟨I1, E1, rfl | ⟨w, rfl⟩⟩
  · exact Or.inl ⟨rfl, I1, (E1.wk (W' := [17, 18, 22, 19, 169]) (by first | rfl | decide)), 1, rfl, by decide, by decide⟩
  · refine Or.inr ⟨_, rfl, ?_⟩
    show pw X d h1 315 12 [some (.ref 16), some (pw_i a0), some (pw_i a1), some (pw_i a2), some (pw_i a3), some (.ref 185), none] [.long w, pw_i 0, .ref 185] _
    refine pw_last I1 E (c := 169) (pc' := 13) rfl rfl rfl (by decide) (by decide) (by decide) rfl ?_
    intro I2 E2
    have E3 := ((E1.wk (W' := [17, 18, 22, 19, 169]) (by first | rfl | decide)) : pw_E [17, 18, 22, 19, 169] h h1).tr (E2.wk (W' := [17, 18, 22, 19, 169]) (by first | rfl | decide))
    refine pw_goto E (pc' := 20) rfl (by decide) ?_
    refine pw_ld E (pc' := 21) (st' := [pw_i 0]) rfl (fun _ => rfl) ?_
    refine pw_iret E rfl ?_
    exact ⟨I2, E3, 0, rfl, by decide, by decide⟩
set_option maxHeartbeats 1000000 in
theorem cm_316 {X : List (Nat × List Value)} {d : Nat} {h : pm_H} (hd : 5 ≤ d) (I : pw_I h) (a0 : Int) (ha01 : (-2147483648) ≤ a0) (ha02 : a0 ≤ 2147483647) (a1 : Int) (ha11 : (-2147483648) ≤ a1) (ha12 : a1 ≤ 2147483647) (a2 : Int) (ha21 : (-2147483648) ≤ a2) (ha22 : a2 ≤ 2147483647) : pw X d h 316 0 [some (.ref 16), some (pw_i a0), some (pw_i a1), some (pw_i a2), some (.ref 185), none] [] (fun h' v => pw_I h' ∧ pw_E [17, 18, 22, 169] h h' ∧ ∃ a : Int, v = .inl (some (pw_i a)) ∧ 0 ≤ a ∧ a ≤ 1) := by
  have E : pm_ent 316 = some (5, 6, 13, 0, pmc_316) := rfl
  refine pw_ld E (pc' := 2) (st' := [.ref 185]) rfl (fun _ => rfl) ?_
  refine pw_ld E (pc' := 3) (st' := [pw_i 0, .ref 185]) rfl (fun _ => rfl) ?_
  refine pw_ld E (pc' := 4) (st' := [.ref 16, pw_i 0, .ref 185]) rfl (fun _ => rfl) ?_
  refine pw_ld E (pc' := 5) (st' := [pw_i a0, .ref 16, pw_i 0, .ref 185]) rfl (fun _ => rfl) ?_
  refine pw_ld E (pc' := 6) (st' := [pw_i a1, pw_i a0, .ref 16, pw_i 0, .ref 185]) rfl (fun _ => rfl) ?_
  refine pw_ld E (pc' := 7) (st' := [pw_i a2, pw_i a1, pw_i a0, .ref 16, pw_i 0, .ref 185]) rfl (fun _ => rfl) ?_
  obtain ⟨fl, fh, -⟩ := pw_obj (c := 0) I rfl
  refine pw_callH (m' := 179) (As := [.ref 16, pw_i a0, pw_i a1, pw_i a2]) (rest := [pw_i 0, .ref 185]) (ls'' := [some (.ref 16), some (pw_i a0), some (pw_i a1), some (pw_i a2), none]) (by omega) E rfl (fun _ => pw_iVh rfl rfl rfl rfl (pw_cellI fh rfl)) (rfl : pm_ent 179 = some (4, 5, 11, 2, pmc_179)) rfl rfl (cm_179 (by omega) I a0 (by omega) (by omega) a1 (by omega) (by omega) a2 (by omega) (by omega)) ?_
  rintro h1 v1 ⟨I1, E1, rfl | ⟨w, rfl⟩⟩
  · exact Or.inl ⟨rfl, I1, (E1.wk (W' := [17, 18, 22, 169]) (by first | rfl | decide)), 1, rfl, by decide, by decide⟩
  · refine Or.inr ⟨_, rfl, ?_⟩
    show pw X d h1 316 10 [some (.ref 16), some (pw_i a0), some (pw_i a1), some (pw_i a2), some (.ref 185), none] [.long w, pw_i 0, .ref 185] _
    refine pw_last I1 E (c := 169) (pc' := 11) rfl rfl rfl (by decide) (by decide) (by decide) rfl ?_
    intro I2 E2
    have E3 := ((E1.wk (W' := [17, 18, 22, 169]) (by first | rfl | decide)) : pw_E [17, 18, 22, 169] h h1).tr (E2.wk (W' := [17, 18, 22, 169]) (by first | rfl | decide))
    refine pw_goto E (pc' := 18) rfl (by decide) ?_
    refine pw_ld E (pc' := 19) (st' := [pw_i 0]) rfl (fun _ => rfl) ?_
    refine pw_iret E rfl ?_
    exact ⟨I2, E3, 0, rfl, by decide, by decide⟩
set_option maxHeartbeats 1000000 in
theorem cm_317 {X : List (Nat × List Value)} {d : Nat} {h : pm_H} (hd : 6 ≤ d) (I : pw_I h) (a0 : Int) (ha01 : (-2147483648) ≤ a0) (ha02 : a0 ≤ 2147483647) (a1 : Int) (ha11 : (-2147483648) ≤ a1) (ha12 : a1 ≤ 2147483647) (a2 : Int) (ha21 : (-2147483648) ≤ a2) (ha22 : a2 ≤ 2147483647) (a3 : Int) (ha31 : (-2147483648) ≤ a3) (ha32 : a3 ≤ 2147483647) : pw X d h 317 0 [some (.ref 16), some (pw_i a0), some (pw_i a1), some (pw_i a2), some (pw_i a3), some (.ref 185), none] [] (fun h' v => pw_I h' ∧ pw_E [17, 18, 22, 23, 169] h h' ∧ ∃ a : Int, v = .inl (some (pw_i a)) ∧ 0 ≤ a ∧ a ≤ 1) := by
  have E : pm_ent 317 = some (6, 7, 13, 0, pmc_317) := rfl
  refine pw_ld E (pc' := 2) (st' := [.ref 185]) rfl (fun _ => rfl) ?_
  refine pw_ld E (pc' := 3) (st' := [pw_i 0, .ref 185]) rfl (fun _ => rfl) ?_
  refine pw_ld E (pc' := 4) (st' := [.ref 16, pw_i 0, .ref 185]) rfl (fun _ => rfl) ?_
  refine pw_ld E (pc' := 5) (st' := [pw_i a0, .ref 16, pw_i 0, .ref 185]) rfl (fun _ => rfl) ?_
  refine pw_ld E (pc' := 6) (st' := [pw_i a1, pw_i a0, .ref 16, pw_i 0, .ref 185]) rfl (fun _ => rfl) ?_
  refine pw_ld E (pc' := 7) (st' := [pw_i a2, pw_i a1, pw_i a0, .ref 16, pw_i 0, .ref 185]) rfl (fun _ => rfl) ?_
  refine pw_ld E (pc' := 9) (st' := [pw_i a3, pw_i a2, pw_i a1, pw_i a0, .ref 16, pw_i 0, .ref 185]) rfl (fun _ => rfl) ?_
  obtain ⟨fl, fh, -⟩ := pw_obj (c := 0) I rfl
  refine pw_callH (m' := 180) (As := [.ref 16, pw_i a0, pw_i a1, pw_i a2, pw_i a3]) (rest := [pw_i 0, .ref 185]) (ls'' := [some (.ref 16), some (pw_i a0), some (pw_i a1), some (pw_i a2), some (pw_i a3)]) (by omega) E rfl (fun _ => pw_iVh rfl rfl rfl rfl (pw_cellI fh rfl)) (rfl : pm_ent 180 = some (5, 5, 11, 2, pmc_180)) rfl rfl (cm_180 (by omega) I a0 (by omega) (by omega) a1 (by omega) (by omega) a2 (by omega) (by omega) a3 (by omega) (by omega)) ?_
  rintro h1 v1 ⟨I1, E1, rfl | ⟨w, rfl⟩⟩
  · exact Or.inl ⟨rfl, I1, (E1.wk (W' := [17, 18, 22, 23, 169]) (by first | rfl | decide)), 1, rfl, by decide, by decide⟩
  · refine Or.inr ⟨_, rfl, ?_⟩
    show pw X d h1 317 12 [some (.ref 16), some (pw_i a0), some (pw_i a1), some (pw_i a2), some (pw_i a3), some (.ref 185), none] [.long w, pw_i 0, .ref 185] _
    refine pw_last I1 E (c := 169) (pc' := 13) rfl rfl rfl (by decide) (by decide) (by decide) rfl ?_
    intro I2 E2
    have E3 := ((E1.wk (W' := [17, 18, 22, 23, 169]) (by first | rfl | decide)) : pw_E [17, 18, 22, 23, 169] h h1).tr (E2.wk (W' := [17, 18, 22, 23, 169]) (by first | rfl | decide))
    refine pw_goto E (pc' := 20) rfl (by decide) ?_
    refine pw_ld E (pc' := 21) (st' := [pw_i 0]) rfl (fun _ => rfl) ?_
    refine pw_iret E rfl ?_
    exact ⟨I2, E3, 0, rfl, by decide, by decide⟩
set_option maxHeartbeats 1000000 in
theorem cm_318 {X : List (Nat × List Value)} {d : Nat} {h : pm_H} (hd : 4 ≤ d) (I : pw_I h) (z : Int) (hz1 : 0 ≤ z) (hz2 : z ≤ 1) (wt : Int) (hwt1 : (-2147483648) ≤ wt) (hwt2 : wt ≤ 2147483647) : pw X d h 318 0 [some (.ref 16), some (pw_i z), some (pw_i wt), some (.ref 185), none] [] (fun h' v => pw_I h' ∧ pw_E [22, 169] h h' ∧ ∃ a : Int, v = .inl (some (pw_i a)) ∧ 0 ≤ a ∧ a ≤ 1) := by
  have E : pm_ent 318 = some (4, 5, 13, 0, pmc_318) := rfl
  refine pw_ld E (pc' := 1) (st' := [.ref 185]) rfl (fun _ => rfl) ?_
  refine pw_ld E (pc' := 2) (st' := [pw_i 0, .ref 185]) rfl (fun _ => rfl) ?_
  refine pw_ld E (pc' := 3) (st' := [.ref 16, pw_i 0, .ref 185]) rfl (fun _ => rfl) ?_
  refine pw_ld E (pc' := 4) (st' := [pw_i z, .ref 16, pw_i 0, .ref 185]) rfl (fun _ => rfl) ?_
  refine pw_ld E (pc' := 5) (st' := [pw_i wt, pw_i z, .ref 16, pw_i 0, .ref 185]) rfl (fun _ => rfl) ?_
  obtain ⟨fl, fh, -⟩ := pw_obj (c := 0) I rfl
  refine pw_callH (m' := 181) (As := [.ref 16, pw_i z, pw_i wt]) (rest := [pw_i 0, .ref 185]) (ls'' := [some (.ref 16), some (pw_i z), some (pw_i wt)]) (by omega) E rfl (fun _ => pw_iVh rfl rfl rfl rfl (pw_cellI fh rfl)) (rfl : pm_ent 181 = some (3, 3, 11, 2, pmc_181)) rfl rfl (cm_181 (by omega) I z (by omega) (by omega) wt (by omega) (by omega)) ?_
  rintro h1 v1 ⟨I1, E1, rfl | ⟨w, rfl⟩⟩
  · exact Or.inl ⟨rfl, I1, (E1.wk (W' := [22, 169]) (by first | rfl | decide)), 1, rfl, by decide, by decide⟩
  · refine Or.inr ⟨_, rfl, ?_⟩
    show pw X d h1 318 8 [some (.ref 16), some (pw_i z), some (pw_i wt), some (.ref 185), none] [.long w, pw_i 0, .ref 185] _
    refine pw_last I1 E (c := 169) (pc' := 9) rfl rfl rfl (by decide) (by decide) (by decide) rfl ?_
    intro I2 E2
    have E3 := ((E1.wk (W' := [22, 169]) (by first | rfl | decide)) : pw_E [22, 169] h h1).tr (E2.wk (W' := [22, 169]) (by first | rfl | decide))
    refine pw_goto E (pc' := 16) rfl (by decide) ?_
    refine pw_ld E (pc' := 17) (st' := [pw_i 0]) rfl (fun _ => rfl) ?_
    refine pw_iret E rfl ?_
    exact ⟨I2, E3, 0, rfl, by decide, by decide⟩
set_option maxHeartbeats 1000000 in
theorem cm_319 {X : List (Nat × List Value)} {d : Nat} {h : pm_H} (hd : 7 ≤ d) (I : pw_I h) (wr : Int) (hwr1 : (-2147483648) ≤ wr) (hwr2 : wr ≤ 2147483647) (wt : Int) (hwt1 : (-2147483648) ≤ wt) (hwt2 : wt ≤ 2147483647) : pw X d h 319 0 [some (.ref 16), some (pw_i wr), some (pw_i wt), some (.ref 185), none] [] (fun h' v => pw_I h' ∧ pw_E [17, 18, 22, 95, 51, 65, 79, 93, 169] h h' ∧ ∃ a : Int, v = .inl (some (pw_i a)) ∧ 0 ≤ a ∧ a ≤ 1) := by
  have E : pm_ent 319 = some (4, 5, 13, 0, pmc_319) := rfl
  refine pw_ld E (pc' := 1) (st' := [.ref 185]) rfl (fun _ => rfl) ?_
  refine pw_ld E (pc' := 2) (st' := [pw_i 0, .ref 185]) rfl (fun _ => rfl) ?_
  refine pw_ld E (pc' := 3) (st' := [.ref 16, pw_i 0, .ref 185]) rfl (fun _ => rfl) ?_
  refine pw_ld E (pc' := 4) (st' := [pw_i wr, .ref 16, pw_i 0, .ref 185]) rfl (fun _ => rfl) ?_
  refine pw_ld E (pc' := 5) (st' := [pw_i wt, pw_i wr, .ref 16, pw_i 0, .ref 185]) rfl (fun _ => rfl) ?_
  obtain ⟨fl, fh, -⟩ := pw_obj (c := 0) I rfl
  refine pw_callH (m' := 182) (As := [.ref 16, pw_i wr, pw_i wt]) (rest := [pw_i 0, .ref 185]) (ls'' := [some (.ref 16), some (pw_i wr), some (pw_i wt), none]) (by omega) E rfl (fun _ => pw_iVh rfl rfl rfl rfl (pw_cellI fh rfl)) (rfl : pm_ent 182 = some (3, 4, 11, 2, pmc_182)) rfl rfl (cm_182 (by omega) I wr (by omega) (by omega) wt (by omega) (by omega)) ?_
  rintro h1 v1 ⟨I1, E1, rfl | ⟨w, rfl⟩⟩
  · exact Or.inl ⟨rfl, I1, (E1.wk (W' := [17, 18, 22, 95, 51, 65, 79, 93, 169]) (by first | rfl | decide)), 1, rfl, by decide, by decide⟩
  · refine Or.inr ⟨_, rfl, ?_⟩
    show pw X d h1 319 8 [some (.ref 16), some (pw_i wr), some (pw_i wt), some (.ref 185), none] [.long w, pw_i 0, .ref 185] _
    refine pw_last I1 E (c := 169) (pc' := 9) rfl rfl rfl (by decide) (by decide) (by decide) rfl ?_
    intro I2 E2
    have E3 := ((E1.wk (W' := [17, 18, 22, 95, 51, 65, 79, 93, 169]) (by first | rfl | decide)) : pw_E [17, 18, 22, 95, 51, 65, 79, 93, 169] h h1).tr (E2.wk (W' := [17, 18, 22, 95, 51, 65, 79, 93, 169]) (by first | rfl | decide))
    refine pw_goto E (pc' := 16) rfl (by decide) ?_
    refine pw_ld E (pc' := 17) (st' := [pw_i 0]) rfl (fun _ => rfl) ?_
    refine pw_iret E rfl ?_
    exact ⟨I2, E3, 0, rfl, by decide, by decide⟩
set_option maxHeartbeats 1000000 in
theorem cm_320 {X : List (Nat × List Value)} {d : Nat} {h : pm_H} (hd : 7 ≤ d) (I : pw_I h) (wt : Int) (hwt1 : (-2147483648) ≤ wt) (hwt2 : wt ≤ 2147483647) : pw X d h 320 0 [some (.ref 16), some (pw_i wt), some (.ref 185), none] [] (fun h' v => pw_I h' ∧ pw_E [17, 18, 22, 23, 95, 51, 65, 79, 93, 169] h h' ∧ ∃ a : Int, v = .inl (some (pw_i a)) ∧ 0 ≤ a ∧ a ≤ 1) := by
  have E : pm_ent 320 = some (3, 4, 13, 0, pmc_320) := rfl
  refine pw_ld E (pc' := 1) (st' := [.ref 185]) rfl (fun _ => rfl) ?_
  refine pw_ld E (pc' := 2) (st' := [pw_i 0, .ref 185]) rfl (fun _ => rfl) ?_
  refine pw_ld E (pc' := 3) (st' := [.ref 16, pw_i 0, .ref 185]) rfl (fun _ => rfl) ?_
  refine pw_ld E (pc' := 4) (st' := [pw_i wt, .ref 16, pw_i 0, .ref 185]) rfl (fun _ => rfl) ?_
  obtain ⟨fl, fh, -⟩ := pw_obj (c := 0) I rfl
  refine pw_callH (m' := 184) (As := [.ref 16, pw_i wt]) (rest := [pw_i 0, .ref 185]) (ls'' := [some (.ref 16), some (pw_i wt), none, none, none, none]) (by omega) E rfl (fun _ => pw_iVh rfl rfl rfl rfl (pw_cellI fh rfl)) (rfl : pm_ent 184 = some (2, 6, 11, 2, pmc_184)) rfl rfl (cm_184 (by omega) I wt (by omega) (by omega)) ?_
  rintro h1 v1 ⟨I1, E1, rfl | ⟨w, rfl⟩⟩
  · exact Or.inl ⟨rfl, I1, (E1.wk (W' := [17, 18, 22, 23, 95, 51, 65, 79, 93, 169]) (by first | rfl | decide)), 1, rfl, by decide, by decide⟩
  · refine Or.inr ⟨_, rfl, ?_⟩
    show pw X d h1 320 7 [some (.ref 16), some (pw_i wt), some (.ref 185), none] [.long w, pw_i 0, .ref 185] _
    refine pw_last I1 E (c := 169) (pc' := 8) rfl rfl rfl (by decide) (by decide) (by decide) rfl ?_
    intro I2 E2
    have E3 := ((E1.wk (W' := [17, 18, 22, 23, 95, 51, 65, 79, 93, 169]) (by first | rfl | decide)) : pw_E [17, 18, 22, 23, 95, 51, 65, 79, 93, 169] h h1).tr (E2.wk (W' := [17, 18, 22, 23, 95, 51, 65, 79, 93, 169]) (by first | rfl | decide))
    refine pw_goto E (pc' := 14) rfl (by decide) ?_
    refine pw_ld E (pc' := 15) (st' := [pw_i 0]) rfl (fun _ => rfl) ?_
    refine pw_iret E rfl ?_
    exact ⟨I2, E3, 0, rfl, by decide, by decide⟩
set_option maxHeartbeats 1000000 in
theorem cm_321 {X : List (Nat × List Value)} {d : Nat} {h : pm_H} (hd : 6 ≤ d) (I : pw_I h) (k : Int) (hk1 : (-2147483648) ≤ k) (hk2 : k ≤ 2147483647) (mo : Int) (hmo1 : (-2147483648) ≤ mo) (hmo2 : mo ≤ 2147483647) (wt : Int) (hwt1 : (-2147483648) ≤ wt) (hwt2 : wt ≤ 2147483647) : pw X d h 321 0 [some (.ref 16), some (pw_i k), some (pw_i mo), some (pw_i wt), some (.ref 185), none] [] (fun h' v => pw_I h' ∧ pw_E [169] h h' ∧ ∃ a : Int, v = .inl (some (pw_i a)) ∧ 0 ≤ a ∧ a ≤ 1) := by
  have E : pm_ent 321 = some (5, 6, 13, 0, pmc_321) := rfl
  refine pw_ld E (pc' := 2) (st' := [.ref 185]) rfl (fun _ => rfl) ?_
  refine pw_ld E (pc' := 3) (st' := [pw_i 0, .ref 185]) rfl (fun _ => rfl) ?_
  refine pw_ld E (pc' := 4) (st' := [.ref 16, pw_i 0, .ref 185]) rfl (fun _ => rfl) ?_
  refine pw_ld E (pc' := 5) (st' := [pw_i k, .ref 16, pw_i 0, .ref 185]) rfl (fun _ => rfl) ?_
  refine pw_ld E (pc' := 6) (st' := [pw_i mo, pw_i k, .ref 16, pw_i 0, .ref 185]) rfl (fun _ => rfl) ?_
  refine pw_ld E (pc' := 7) (st' := [pw_i wt, pw_i mo, pw_i k, .ref 16, pw_i 0, .ref 185]) rfl (fun _ => rfl) ?_
  obtain ⟨fl, fh, -⟩ := pw_obj (c := 0) I rfl
  refine pw_callH (m' := 187) (As := [.ref 16, pw_i k, pw_i mo, pw_i wt]) (rest := [pw_i 0, .ref 185]) (ls'' := [some (.ref 16), some (pw_i k), some (pw_i mo), some (pw_i wt)]) (by omega) E rfl (fun _ => pw_iVh rfl rfl rfl rfl (pw_cellI fh rfl)) (rfl : pm_ent 187 = some (4, 4, 11, 2, pmc_187)) rfl rfl (cm_187 (by omega) I k (by omega) (by omega) mo (by omega) (by omega) wt (by omega) (by omega)) ?_
  rintro h1 v1 ⟨rfl, rfl | ⟨w, rfl⟩⟩
  · exact Or.inl ⟨rfl, I, pw_E.rf _ _, 1, rfl, by decide, by decide⟩
  · refine Or.inr ⟨_, rfl, ?_⟩
    show pw X d h 321 10 [some (.ref 16), some (pw_i k), some (pw_i mo), some (pw_i wt), some (.ref 185), none] [.long w, pw_i 0, .ref 185] _
    refine pw_last I E (c := 169) (pc' := 11) rfl rfl rfl (by decide) (by decide) (by decide) rfl ?_
    intro I2 E2
    have E3 := (pw_E.rf _ _ : pw_E [169] h h).tr (E2.wk (W' := [169]) (by first | rfl | decide))
    refine pw_goto E (pc' := 18) rfl (by decide) ?_
    refine pw_ld E (pc' := 19) (st' := [pw_i 0]) rfl (fun _ => rfl) ?_
    refine pw_iret E rfl ?_
    exact ⟨I2, E3, 0, rfl, by decide, by decide⟩
set_option maxHeartbeats 1000000 in
theorem cm_322 {X : List (Nat × List Value)} {d : Nat} {h : pm_H} (hd : 7 ≤ d) (I : pw_I h) (bk : Int) (hbk1 : (-2147483648) ≤ bk) (hbk2 : bk ≤ 2147483647) (b : Int) (hb1 : (-2147483648) ≤ b) (hb2 : b ≤ 2147483647) (e : Int) (he1 : (-2147483648) ≤ e) (he2 : e ≤ 2147483647) (wt : Int) (hwt1 : (-2147483648) ≤ wt) (hwt2 : wt ≤ 2147483647) : pw X d h 322 0 [some (.ref 16), some (pw_i bk), some (pw_i b), some (pw_i e), some (pw_i wt), some (.ref 185), none] [] (fun h' v => pw_I h' ∧ pw_E [169] h h' ∧ ∃ a : Int, v = .inl (some (pw_i a)) ∧ 0 ≤ a ∧ a ≤ 1) := by
  have E : pm_ent 322 = some (6, 7, 13, 0, pmc_322) := rfl
  refine pw_ld E (pc' := 2) (st' := [.ref 185]) rfl (fun _ => rfl) ?_
  refine pw_ld E (pc' := 3) (st' := [pw_i 0, .ref 185]) rfl (fun _ => rfl) ?_
  refine pw_ld E (pc' := 4) (st' := [.ref 16, pw_i 0, .ref 185]) rfl (fun _ => rfl) ?_
  refine pw_ld E (pc' := 5) (st' := [pw_i bk, .ref 16, pw_i 0, .ref 185]) rfl (fun _ => rfl) ?_
  refine pw_ld E (pc' := 6) (st' := [pw_i b, pw_i bk, .ref 16, pw_i 0, .ref 185]) rfl (fun _ => rfl) ?_
  refine pw_ld E (pc' := 7) (st' := [pw_i e, pw_i b, pw_i bk, .ref 16, pw_i 0, .ref 185]) rfl (fun _ => rfl) ?_
  refine pw_ld E (pc' := 9) (st' := [pw_i wt, pw_i e, pw_i b, pw_i bk, .ref 16, pw_i 0, .ref 185]) rfl (fun _ => rfl) ?_
  obtain ⟨fl, fh, -⟩ := pw_obj (c := 0) I rfl
  refine pw_callH (m' := 193) (As := [.ref 16, pw_i bk, pw_i b, pw_i e, pw_i wt]) (rest := [pw_i 0, .ref 185]) (ls'' := [some (.ref 16), some (pw_i bk), some (pw_i b), some (pw_i e), some (pw_i wt), none, none, none]) (by omega) E rfl (fun _ => pw_iVh rfl rfl rfl rfl (pw_cellI fh rfl)) (rfl : pm_ent 193 = some (5, 8, 11, 2, pmc_193)) rfl rfl (cm_193 (by omega) I bk (by omega) (by omega) b (by omega) (by omega) e (by omega) (by omega) wt (by omega) (by omega)) ?_
  rintro h1 v1 ⟨rfl, rfl | ⟨w, rfl⟩⟩
  · exact Or.inl ⟨rfl, I, pw_E.rf _ _, 1, rfl, by decide, by decide⟩
  · refine Or.inr ⟨_, rfl, ?_⟩
    show pw X d h 322 12 [some (.ref 16), some (pw_i bk), some (pw_i b), some (pw_i e), some (pw_i wt), some (.ref 185), none] [.long w, pw_i 0, .ref 185] _
    refine pw_last I E (c := 169) (pc' := 13) rfl rfl rfl (by decide) (by decide) (by decide) rfl ?_
    intro I2 E2
    have E3 := (pw_E.rf _ _ : pw_E [169] h h).tr (E2.wk (W' := [169]) (by first | rfl | decide))
    refine pw_goto E (pc' := 20) rfl (by decide) ?_
    refine pw_ld E (pc' := 21) (st' := [pw_i 0]) rfl (fun _ => rfl) ?_
    refine pw_iret E rfl ?_
    exact ⟨I2, E3, 0, rfl, by decide, by decide⟩
set_option maxHeartbeats 1000000 in
theorem cm_323 {X : List (Nat × List Value)} {d : Nat} {h : pm_H} (hd : 6 ≤ d) (I : pw_I h) (a0 : Int) (ha01 : (-2147483648) ≤ a0) (ha02 : a0 ≤ 2147483647) (a1 : Int) (ha11 : (-2147483648) ≤ a1) (ha12 : a1 ≤ 2147483647) (a2 : Int) (ha21 : (-2147483648) ≤ a2) (ha22 : a2 ≤ 2147483647) : pw X d h 323 0 [some (.ref 16), some (pw_i a0), some (pw_i a1), some (pw_i a2), some (.ref 185), none] [] (fun h' v => pw_I h' ∧ pw_E [17, 18, 22, 169] h h' ∧ ∃ a : Int, v = .inl (some (pw_i a)) ∧ 0 ≤ a ∧ a ≤ 1) := by
  have E : pm_ent 323 = some (5, 6, 13, 0, pmc_323) := rfl
  refine pw_ld E (pc' := 2) (st' := [.ref 185]) rfl (fun _ => rfl) ?_
  refine pw_ld E (pc' := 3) (st' := [pw_i 0, .ref 185]) rfl (fun _ => rfl) ?_
  refine pw_ld E (pc' := 4) (st' := [.ref 16, pw_i 0, .ref 185]) rfl (fun _ => rfl) ?_
  refine pw_ld E (pc' := 5) (st' := [pw_i a0, .ref 16, pw_i 0, .ref 185]) rfl (fun _ => rfl) ?_
  refine pw_ld E (pc' := 6) (st' := [pw_i a1, pw_i a0, .ref 16, pw_i 0, .ref 185]) rfl (fun _ => rfl) ?_
  refine pw_ld E (pc' := 7) (st' := [pw_i a2, pw_i a1, pw_i a0, .ref 16, pw_i 0, .ref 185]) rfl (fun _ => rfl) ?_
  obtain ⟨fl, fh, -⟩ := pw_obj (c := 0) I rfl
  refine pw_callH (m' := 195) (As := [.ref 16, pw_i a0, pw_i a1, pw_i a2]) (rest := [pw_i 0, .ref 185]) (ls'' := [some (.ref 16), some (pw_i a0), some (pw_i a1), some (pw_i a2), none, none, none]) (by omega) E rfl (fun _ => pw_iVh rfl rfl rfl rfl (pw_cellI fh rfl)) (rfl : pm_ent 195 = some (4, 7, 11, 2, pmc_195)) rfl rfl (cm_195 (by omega) I a0 (by omega) (by omega) a1 (by omega) (by omega) a2 (by omega) (by omega)) ?_
  rintro h1 v1 ⟨I1, E1, rfl | ⟨w, rfl⟩⟩
  · exact Or.inl ⟨rfl, I1, (E1.wk (W' := [17, 18, 22, 169]) (by first | rfl | decide)), 1, rfl, by decide, by decide⟩
  · refine Or.inr ⟨_, rfl, ?_⟩
    show pw X d h1 323 10 [some (.ref 16), some (pw_i a0), some (pw_i a1), some (pw_i a2), some (.ref 185), none] [.long w, pw_i 0, .ref 185] _
    refine pw_last I1 E (c := 169) (pc' := 11) rfl rfl rfl (by decide) (by decide) (by decide) rfl ?_
    intro I2 E2
    have E3 := ((E1.wk (W' := [17, 18, 22, 169]) (by first | rfl | decide)) : pw_E [17, 18, 22, 169] h h1).tr (E2.wk (W' := [17, 18, 22, 169]) (by first | rfl | decide))
    refine pw_goto E (pc' := 18) rfl (by decide) ?_
    refine pw_ld E (pc' := 19) (st' := [pw_i 0]) rfl (fun _ => rfl) ?_
    refine pw_iret E rfl ?_
    exact ⟨I2, E3, 0, rfl, by decide, by decide⟩
