/-! decode of each method (wip/tool/heads.py) -/
theorem pm_all_groups {α : Type} {p : α → Bool} {l : List α} (k : Nat) (h : ∀ j, j < k → pm_all p ((l.drop (4 * j)).take 4) = true) (hl : l.length ≤ 4 * k) : pm_all p l = true := by
  rw [pm_all_eq, List.all_eq_true]
  intro x hx
  obtain ⟨i, hi, rfl⟩ := List.getElem_of_mem hx
  have hj := h (i / 4) (by omega)
  rw [pm_all_eq, List.all_eq_true] at hj
  refine hj _ (List.mem_of_getElem? (i := i % 4) ?_)
  rw [List.getElem?_take_of_lt (by omega), List.getElem?_drop, show 4 * (i / 4) + i % 4 = i by omega]
  exact List.getElem?_eq_getElem hi
abbrev pm_e309 : pm_M := (1, 8, 13, 1, pmc_309)
abbrev pm_y309 : pm_Hd := (⟨"RiverWageLaw", "law", "([I)Z"⟩, 99999, (some .boolean))
theorem pm_g309_0 : pm_all (fun c => pm_all (pm_crow 309 pm_e309 pm_y309) c) ((pmc_309.drop (4 * 0)).take 4) = true := by decide +kernel
theorem pm_g309_1 : pm_all (fun c => pm_all (pm_crow 309 pm_e309 pm_y309) c) ((pmc_309.drop (4 * 1)).take 4) = true := by decide +kernel
theorem pm_g309_2 : pm_all (fun c => pm_all (pm_crow 309 pm_e309 pm_y309) c) ((pmc_309.drop (4 * 2)).take 4) = true := by decide +kernel
theorem pm_g309_3 : pm_all (fun c => pm_all (pm_crow 309 pm_e309 pm_y309) c) ((pmc_309.drop (4 * 3)).take 4) = true := by decide +kernel
theorem pm_g309_4 : pm_all (fun c => pm_all (pm_crow 309 pm_e309 pm_y309) c) ((pmc_309.drop (4 * 4)).take 4) = true := by decide +kernel
theorem pm_g309_5 : pm_all (fun c => pm_all (pm_crow 309 pm_e309 pm_y309) c) ((pmc_309.drop (4 * 5)).take 4) = true := by decide +kernel
theorem pm_g309_6 : pm_all (fun c => pm_all (pm_crow 309 pm_e309 pm_y309) c) ((pmc_309.drop (4 * 6)).take 4) = true := by decide +kernel
theorem pm_g309_7 : pm_all (fun c => pm_all (pm_crow 309 pm_e309 pm_y309) c) ((pmc_309.drop (4 * 7)).take 4) = true := by decide +kernel
theorem pm_g309_8 : pm_all (fun c => pm_all (pm_crow 309 pm_e309 pm_y309) c) ((pmc_309.drop (4 * 8)).take 4) = true := by decide +kernel
theorem pm_g309_9 : pm_all (fun c => pm_all (pm_crow 309 pm_e309 pm_y309) c) ((pmc_309.drop (4 * 9)).take 4) = true := by decide +kernel
theorem pm_g309_10 : pm_all (fun c => pm_all (pm_crow 309 pm_e309 pm_y309) c) ((pmc_309.drop (4 * 10)).take 4) = true := by decide +kernel
theorem pm_g309_11 : pm_all (fun c => pm_all (pm_crow 309 pm_e309 pm_y309) c) ((pmc_309.drop (4 * 11)).take 4) = true := by decide +kernel
theorem pm_g309_12 : pm_all (fun c => pm_all (pm_crow 309 pm_e309 pm_y309) c) ((pmc_309.drop (4 * 12)).take 4) = true := by decide +kernel
theorem pm_g309_13 : pm_all (fun c => pm_all (pm_crow 309 pm_e309 pm_y309) c) ((pmc_309.drop (4 * 13)).take 4) = true := by decide +kernel
theorem pm_g309_14 : pm_all (fun c => pm_all (pm_crow 309 pm_e309 pm_y309) c) ((pmc_309.drop (4 * 14)).take 4) = true := by decide +kernel
theorem pm_g309_15 : pm_all (fun c => pm_all (pm_crow 309 pm_e309 pm_y309) c) ((pmc_309.drop (4 * 15)).take 4) = true := by decide +kernel
theorem pm_g309_16 : pm_all (fun c => pm_all (pm_crow 309 pm_e309 pm_y309) c) ((pmc_309.drop (4 * 16)).take 4) = true := by decide +kernel
theorem pm_g309_17 : pm_all (fun c => pm_all (pm_crow 309 pm_e309 pm_y309) c) ((pmc_309.drop (4 * 17)).take 4) = true := by decide +kernel
theorem pm_g309_18 : pm_all (fun c => pm_all (pm_crow 309 pm_e309 pm_y309) c) ((pmc_309.drop (4 * 18)).take 4) = true := by decide +kernel
theorem pm_g309_19 : pm_all (fun c => pm_all (pm_crow 309 pm_e309 pm_y309) c) ((pmc_309.drop (4 * 19)).take 4) = true := by decide +kernel
theorem pm_g309_20 : pm_all (fun c => pm_all (pm_crow 309 pm_e309 pm_y309) c) ((pmc_309.drop (4 * 20)).take 4) = true := by decide +kernel
theorem pm_g309_21 : pm_all (fun c => pm_all (pm_crow 309 pm_e309 pm_y309) c) ((pmc_309.drop (4 * 21)).take 4) = true := by decide +kernel
theorem pm_g309_22 : pm_all (fun c => pm_all (pm_crow 309 pm_e309 pm_y309) c) ((pmc_309.drop (4 * 22)).take 4) = true := by decide +kernel
theorem pm_g309_23 : pm_all (fun c => pm_all (pm_crow 309 pm_e309 pm_y309) c) ((pmc_309.drop (4 * 23)).take 4) = true := by decide +kernel
theorem pm_g309_24 : pm_all (fun c => pm_all (pm_crow 309 pm_e309 pm_y309) c) ((pmc_309.drop (4 * 24)).take 4) = true := by decide +kernel
theorem pm_g309_25 : pm_all (fun c => pm_all (pm_crow 309 pm_e309 pm_y309) c) ((pmc_309.drop (4 * 25)).take 4) = true := by decide +kernel
theorem pm_g309_26 : pm_all (fun c => pm_all (pm_crow 309 pm_e309 pm_y309) c) ((pmc_309.drop (4 * 26)).take 4) = true := by decide +kernel
theorem pm_g309_27 : pm_all (fun c => pm_all (pm_crow 309 pm_e309 pm_y309) c) ((pmc_309.drop (4 * 27)).take 4) = true := by decide +kernel
theorem pm_g309_28 : pm_all (fun c => pm_all (pm_crow 309 pm_e309 pm_y309) c) ((pmc_309.drop (4 * 28)).take 4) = true := by decide +kernel
theorem pm_g309_29 : pm_all (fun c => pm_all (pm_crow 309 pm_e309 pm_y309) c) ((pmc_309.drop (4 * 29)).take 4) = true := by decide +kernel
theorem pm_g309_30 : pm_all (fun c => pm_all (pm_crow 309 pm_e309 pm_y309) c) ((pmc_309.drop (4 * 30)).take 4) = true := by decide +kernel
theorem pm_g309_31 : pm_all (fun c => pm_all (pm_crow 309 pm_e309 pm_y309) c) ((pmc_309.drop (4 * 31)).take 4) = true := by decide +kernel
theorem pm_g309_32 : pm_all (fun c => pm_all (pm_crow 309 pm_e309 pm_y309) c) ((pmc_309.drop (4 * 32)).take 4) = true := by decide +kernel
theorem pm_g309_33 : pm_all (fun c => pm_all (pm_crow 309 pm_e309 pm_y309) c) ((pmc_309.drop (4 * 33)).take 4) = true := by decide +kernel
theorem pm_g309_34 : pm_all (fun c => pm_all (pm_crow 309 pm_e309 pm_y309) c) ((pmc_309.drop (4 * 34)).take 4) = true := by decide +kernel
theorem pm_g309_35 : pm_all (fun c => pm_all (pm_crow 309 pm_e309 pm_y309) c) ((pmc_309.drop (4 * 35)).take 4) = true := by decide +kernel
theorem pm_g309_36 : pm_all (fun c => pm_all (pm_crow 309 pm_e309 pm_y309) c) ((pmc_309.drop (4 * 36)).take 4) = true := by decide +kernel
theorem pm_d309 : pm_cm (309, (pm_ent 309).getD (0, 0, 0, 0, [])) = true := by
  have e1 : (pm_ent 309).getD (0, 0, 0, 0, []) = pm_e309 := rfl
  have e2 : pm_get pm_hds 309 = some pm_y309 := rfl
  rw [e1]
  unfold pm_cm
  dsimp only
  rw [e2]
  refine pm_all_groups 37 (fun j hj => ?_) (by decide +kernel)
  match j, hj with
  | 0, _ => exact pm_g309_0
  | 1, _ => exact pm_g309_1
  | 2, _ => exact pm_g309_2
  | 3, _ => exact pm_g309_3
  | 4, _ => exact pm_g309_4
  | 5, _ => exact pm_g309_5
  | 6, _ => exact pm_g309_6
  | 7, _ => exact pm_g309_7
  | 8, _ => exact pm_g309_8
  | 9, _ => exact pm_g309_9
  | 10, _ => exact pm_g309_10
  | 11, _ => exact pm_g309_11
  | 12, _ => exact pm_g309_12
  | 13, _ => exact pm_g309_13
  | 14, _ => exact pm_g309_14
  | 15, _ => exact pm_g309_15
  | 16, _ => exact pm_g309_16
  | 17, _ => exact pm_g309_17
  | 18, _ => exact pm_g309_18
  | 19, _ => exact pm_g309_19
  | 20, _ => exact pm_g309_20
  | 21, _ => exact pm_g309_21
  | 22, _ => exact pm_g309_22
  | 23, _ => exact pm_g309_23
  | 24, _ => exact pm_g309_24
  | 25, _ => exact pm_g309_25
  | 26, _ => exact pm_g309_26
  | 27, _ => exact pm_g309_27
  | 28, _ => exact pm_g309_28
  | 29, _ => exact pm_g309_29
  | 30, _ => exact pm_g309_30
  | 31, _ => exact pm_g309_31
  | 32, _ => exact pm_g309_32
  | 33, _ => exact pm_g309_33
  | 34, _ => exact pm_g309_34
  | 35, _ => exact pm_g309_35
  | 36, _ => exact pm_g309_36
  | n + 37, hj => exact absurd hj (by omega)
theorem pm_d310 : pm_cm (310, (pm_ent 310).getD (0, 0, 0, 0, [])) = true := by decide +kernel
theorem pm_d311 : pm_cm (311, (pm_ent 311).getD (0, 0, 0, 0, [])) = true := by decide +kernel
theorem pm_d312 : pm_cm (312, (pm_ent 312).getD (0, 0, 0, 0, [])) = true := by decide +kernel
theorem pm_d313 : pm_cm (313, (pm_ent 313).getD (0, 0, 0, 0, [])) = true := by decide +kernel
theorem pm_d314 : pm_cm (314, (pm_ent 314).getD (0, 0, 0, 0, [])) = true := by decide +kernel
theorem pm_d315 : pm_cm (315, (pm_ent 315).getD (0, 0, 0, 0, [])) = true := by decide +kernel
theorem pm_d316 : pm_cm (316, (pm_ent 316).getD (0, 0, 0, 0, [])) = true := by decide +kernel
theorem pm_d317 : pm_cm (317, (pm_ent 317).getD (0, 0, 0, 0, [])) = true := by decide +kernel
theorem pm_d318 : pm_cm (318, (pm_ent 318).getD (0, 0, 0, 0, [])) = true := by decide +kernel
theorem pm_d319 : pm_cm (319, (pm_ent 319).getD (0, 0, 0, 0, [])) = true := by decide +kernel
theorem pm_d320 : pm_cm (320, (pm_ent 320).getD (0, 0, 0, 0, [])) = true := by decide +kernel
theorem pm_d321 : pm_cm (321, (pm_ent 321).getD (0, 0, 0, 0, [])) = true := by decide +kernel
theorem pm_d322 : pm_cm (322, (pm_ent 322).getD (0, 0, 0, 0, [])) = true := by decide +kernel
theorem pm_d323 : pm_cm (323, (pm_ent 323).getD (0, 0, 0, 0, [])) = true := by decide +kernel
