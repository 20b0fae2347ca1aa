/-! a run makes cells and slots, it takes none away (printed by wip/tool/mono.py) -/
/-- a simple handler goes on, or not -/
def pm_thru (f : pm_S) : Prop := ∀ (K : Nat → pm_L → List Value → pm_R) (pc len : Nat) (ls : pm_L) (st : List Value) (o : pm_H × (Option Value ⊕ Unit)), f K pc len ls st = some o → ∃ q ls' st', K q ls' st' = some o
theorem pm_tC (v : Value) : pm_thru (pm_sC v) := by
  intro K pc len ls st o h
  unfold pm_sC at h
  rw [pm_fn_eq] at h
  exact ⟨_, _, _, h⟩
theorem pm_tIld (k : Nat) : pm_thru (pm_sIld k) := by
  intro K pc len ls st o h
  unfold pm_sIld at h
  split at h
  · rw [pm_fn_eq] at h
    exact ⟨_, _, _, h⟩
  · cases h
theorem pm_tLld (k : Nat) : pm_thru (pm_sLld k) := by
  intro K pc len ls st o h
  unfold pm_sLld at h
  split at h
  · rw [pm_fn_eq] at h
    exact ⟨_, _, _, h⟩
  · cases h
theorem pm_tAld (k : Nat) : pm_thru (pm_sAld k) := by
  intro K pc len ls st o h
  unfold pm_sAld at h
  split at h
  · rw [pm_fn_eq] at h
    exact ⟨_, _, _, h⟩
  · cases h
theorem pm_tIst (k : Nat) : pm_thru (pm_sIst k) := by
  intro K pc len ls st o h
  unfold pm_sIst at h
  split at h
  · replace h := pm_cond_true h
    obtain ⟨-, h⟩ := h
    rw [pm_fi_eq, pm_fn_eq] at h
    exact ⟨_, _, _, h⟩
  · cases h
theorem pm_tLst (k : Nat) : pm_thru (pm_sLst k) := by
  intro K pc len ls st o h
  unfold pm_sLst at h
  split at h
  · replace h := pm_cond_true h
    obtain ⟨-, h⟩ := h
    rw [pm_fl_eq, pm_fn_eq] at h
    exact ⟨_, _, _, h⟩
  · cases h
theorem pm_tAst (k : Nat) : pm_thru (pm_sAst k) := by
  intro K pc len ls st o h
  unfold pm_sAst at h
  split at h
  · replace h := pm_cond_true h
    obtain ⟨-, h⟩ := h
    rw [pm_fn_eq] at h
    exact ⟨_, _, _, h⟩
  · cases h
theorem pm_tInc (k : Nat) (n : Int) : pm_thru (pm_sInc k n) := by
  intro K pc len ls st o h
  unfold pm_sInc at h
  split at h
  · replace h := pm_cond_true h
    obtain ⟨-, h⟩ := h
    rw [pm_fi_eq, pm_fn_eq] at h
    exact ⟨_, _, _, h⟩
  · cases h
theorem pm_tII (f : Int32 → Int32 → Int32) : pm_thru (pm_sII f) := by
  intro K pc len ls st o h
  unfold pm_sII at h
  split at h
  · rw [pm_fn_eq] at h
    exact ⟨_, _, _, h⟩
  · cases h
theorem pm_tI (f : Int32 → Int32) : pm_thru (pm_sI f) := by
  intro K pc len ls st o h
  unfold pm_sI at h
  split at h
  · rw [pm_fn_eq] at h
    exact ⟨_, _, _, h⟩
  · cases h
theorem pm_tLL (f : Int64 → Int64 → Int64) : pm_thru (pm_sLL f) := by
  intro K pc len ls st o h
  unfold pm_sLL at h
  split at h
  · rw [pm_fn_eq] at h
    exact ⟨_, _, _, h⟩
  · cases h
theorem pm_tLI (f : Int64 → Int32 → Int64) : pm_thru (pm_sLI f) := by
  intro K pc len ls st o h
  unfold pm_sLI at h
  split at h
  · rw [pm_fn_eq] at h
    exact ⟨_, _, _, h⟩
  · cases h
theorem pm_tL (f : Int64 → Int64) : pm_thru (pm_sL f) := by
  intro K pc len ls st o h
  unfold pm_sL at h
  split at h
  · rw [pm_fn_eq] at h
    exact ⟨_, _, _, h⟩
  · cases h
theorem pm_tIL (f : Int32 → Int64) : pm_thru (pm_sIL f) := by
  intro K pc len ls st o h
  unfold pm_sIL at h
  split at h
  · rw [pm_fn_eq] at h
    exact ⟨_, _, _, h⟩
  · cases h
theorem pm_tLi (f : Int64 → Int32) : pm_thru (pm_sLi f) := by
  intro K pc len ls st o h
  unfold pm_sLi at h
  split at h
  · rw [pm_fn_eq] at h
    exact ⟨_, _, _, h⟩
  · cases h
theorem pm_tCmp  : pm_thru (pm_sCmp) := by
  intro K pc len ls st o h
  unfold pm_sCmp at h
  split at h
  · rw [pm_fn_eq] at h
    exact ⟨_, _, _, h⟩
  · cases h
theorem pm_tIIz (f : Int32 → Int32 → Int32) : pm_thru (pm_sIIz f) := by
  intro K pc len ls st o h
  unfold pm_sIIz at h
  split at h
  · replace h := pm_cond_false h
    obtain ⟨-, h⟩ := h
    rw [pm_fn_eq] at h
    exact ⟨_, _, _, h⟩
  · cases h
theorem pm_tLLz (f : Int64 → Int64 → Int64) : pm_thru (pm_sLLz f) := by
  intro K pc len ls st o h
  unfold pm_sLLz at h
  split at h
  · replace h := pm_cond_false h
    obtain ⟨-, h⟩ := h
    rw [pm_fn_eq] at h
    exact ⟨_, _, _, h⟩
  · cases h
theorem pm_tDup  : pm_thru (pm_sDup) := by
  intro K pc len ls st o h
  unfold pm_sDup at h
  split at h
  · replace h := pm_cond_true h
    obtain ⟨-, h⟩ := h
    rw [pm_fn_eq] at h
    exact ⟨_, _, _, h⟩
  · cases h
theorem pm_tPop  : pm_thru (pm_sPop) := by
  intro K pc len ls st o h
  unfold pm_sPop at h
  split at h
  · replace h := pm_cond_true h
    obtain ⟨-, h⟩ := h
    rw [pm_fn_eq] at h
    exact ⟨_, _, _, h⟩
  · cases h
theorem pm_tPop2  : pm_thru (pm_sPop2) := by
  intro K pc len ls st o h
  unfold pm_sPop2 at h
  split at h
  · replace h := pm_cond_true h
    obtain ⟨-, h⟩ := h
    rw [pm_fn_eq] at h
    exact ⟨_, _, _, h⟩
  · cases h
theorem pm_tIf (c : ClassFile.Cond) (off : Int) : pm_thru (pm_sIf c off) := by
  intro K pc len ls st o h
  unfold pm_sIf at h
  split at h
  · rename_i x r
    obtain ⟨t, -, h⟩ := pm_to_some h
    generalize pm_cnd c x 0 = b at h
    cases b with
    | true => exact ⟨_, _, _, h⟩
    | false =>
      rw [cond_false, pm_fn_eq] at h
      exact ⟨_, _, _, h⟩
  · cases h
theorem pm_tIf2 (c : ClassFile.Cond) (off : Int) : pm_thru (pm_sIf2 c off) := by
  intro K pc len ls st o h
  unfold pm_sIf2 at h
  split at h
  · rename_i y x r
    obtain ⟨t, -, h⟩ := pm_to_some h
    generalize pm_cnd c x y = b at h
    cases b with
    | true => exact ⟨_, _, _, h⟩
    | false =>
      rw [cond_false, pm_fn_eq] at h
      exact ⟨_, _, _, h⟩
  · cases h
theorem pm_tGo (off : Int) : pm_thru (pm_sGo off) := by
  intro K pc len ls st o h
  unfold pm_sGo at h
  obtain ⟨t, -, h⟩ := pm_to_some h
  exact ⟨_, _, _, h⟩
theorem pm_tTsw (d lo hi : Int) (offs : Array Int) : pm_thru (pm_sTsw d lo hi offs) := by
  intro K pc len ls st o h
  unfold pm_sTsw at h
  split at h
  · unfold pm_tsw at h
    split at h
    · obtain ⟨t, -, h⟩ := pm_to_some h
      exact ⟨_, _, _, h⟩
    · split at h
      · obtain ⟨t, -, h⟩ := pm_to_some h
        exact ⟨_, _, _, h⟩
      · cases h
  · cases h
theorem pm_tLsw (d : Int) (ps : Array (Int × Int)) : pm_thru (pm_sLsw d ps) := by
  intro K pc len ls st o h
  unfold pm_sLsw at h
  split at h
  · replace h := pm_cond_true h
    obtain ⟨-, h⟩ := h
    obtain ⟨t, -, h⟩ := pm_to_some h
    exact ⟨_, _, _, h⟩
  · cases h
/-- what comes behind has grown -/
def pm_up0 (ih : pm_I) : Prop := ∀ d h m pc ls st o, ih d h m pc ls st = some o → pm_le h o.1
def pm_thg (g : pm_G) : Prop := ∀ (ih : pm_I) (d : Nat) (h : pm_H) (m own pc len : Nat) (ls : pm_L) (st : List Value) (o : pm_H × (Option Value ⊕ Unit)), pm_up0 ih → g ih d h m own pc len ls st = some o → pm_le h o.1
theorem pm_tLift {f : pm_S} (hf : pm_thru f) : pm_thg (pm_lift f) := by
  intro ih d h m own pc len ls st o hu hr
  obtain ⟨q, ls', st', hr⟩ := hf (ih d h m) pc len ls st o hr
  exact hu _ _ _ _ _ _ _ hr
theorem pm_le_set {h : pm_H} {k : Nat} {c c' : pm_C} (hk : h[k]? = some c) (hz : pm_sz c' = pm_sz c) : pm_le h (h.set k c') := ⟨by simp, by rw [pm_slt_set hk hz]; exact Nat.le_refl _⟩
theorem pm_le_push (h : pm_H) (c : pm_C) : pm_le h (h ++ [c]) := ⟨by simp, by rw [pm_slt_push]; omega⟩
theorem pm_tgLdc (ix : Nat) : pm_thg (pm_gLdc ix) := by
  intro ih d h m own pc len ls st o hu hr
  unfold pm_gLdc at hr
  split at hr
  · rw [pm_fn_eq] at hr
    exact hu _ _ _ _ _ _ _ hr
  · rw [pm_fn_eq] at hr
    exact hu _ _ _ _ _ _ _ hr
  · cases hr
theorem pm_tgLdw (ix : Nat) : pm_thg (pm_gLdw ix) := by
  intro ih d h m own pc len ls st o hu hr
  unfold pm_gLdw at hr
  split at hr
  · rw [pm_fn_eq] at hr
    exact hu _ _ _ _ _ _ _ hr
  · cases hr
theorem pm_tgLd2 (ix : Nat) : pm_thg (pm_gLd2 ix) := by
  intro ih d h m own pc len ls st o hu hr
  unfold pm_gLd2 at hr
  split at hr
  · rw [pm_fn_eq] at hr
    exact hu _ _ _ _ _ _ _ hr
  · cases hr
theorem pm_tgSta (ix : Nat) : pm_thg (pm_gSta ix) := by
  intro ih d h m own pc len ls st o hu hr
  unfold pm_gSta at hr
  split at hr
  · rw [pm_fn_eq] at hr
    exact hu _ _ _ _ _ _ _ hr
  · cases hr
theorem pm_tgGet (ix : Nat) : pm_thg (pm_gGet ix) := by
  intro ih d h m own pc len ls st o hu hr
  unfold pm_gGet at hr
  split at hr
  · split at hr
    · replace hr := pm_cond_true hr
      obtain ⟨-, hr⟩ := hr
      split at hr
      · rw [pm_fn_eq] at hr
        exact hu _ _ _ _ _ _ _ hr
      · cases hr
    · cases hr
  · cases hr
theorem pm_tgPut (ix : Nat) : pm_thg (pm_gPut ix) := by
  intro ih d h m own pc len ls st o hu hr
  unfold pm_gPut at hr
  split at hr
  · split at hr
    · rename_i hg hc
      replace hr := pm_cond_true hr
      obtain ⟨-, hr⟩ := hr
      replace hr := pm_cond_true hr
      obtain ⟨-, hr⟩ := hr
      replace hr := pm_cond_true hr
      obtain ⟨-, hr⟩ := hr
      obtain ⟨k0, rfl, e2, hk0⟩ := pm_cell_some hc
      rw [pm_fv_eq, pm_fn_eq, e2, pm_set_eq, pm_set_eq] at hr
      exact (pm_le_set hk0 (by simp [pm_sz])).tr (hu _ _ _ _ _ _ _ hr)
    · cases hr
  · cases hr
theorem pm_tgNew (X : List (Nat × List Value)) (ix : Nat) : pm_thg (pm_gNew X ix) := by
  intro ih d h m own pc len ls st o hu hr
  unfold pm_gNew at hr
  split at hr
  · split at hr
    · replace hr := pm_cond_true hr
      obtain ⟨-, hr⟩ := hr
      rw [pm_fn_eq, pm_fn_eq] at hr
      exact (pm_le_push _ _).tr (hu _ _ _ _ _ _ _ hr)
    · cases hr
  · replace hr := pm_cond_true hr
    obtain ⟨-, hr⟩ := hr
    cases hr
    exact pm_le.rf _
  · cases hr
theorem pm_tgNwa (t : ArrayType) : pm_thg (pm_gNwa t) := by
  intro ih d h m own pc len ls st o hu hr
  unfold pm_gNwa at hr
  split at hr
  · replace hr := pm_cond_false hr
    obtain ⟨-, hr⟩ := hr
    replace hr := pm_cond_true hr
    obtain ⟨-, hr⟩ := hr
    replace hr := pm_cond_true hr
    obtain ⟨-, hr⟩ := hr
    rw [pm_fn_eq, pm_fn_eq] at hr
    exact (pm_le_push _ _).tr (hu _ _ _ _ _ _ _ hr)
  · cases hr
theorem pm_tgAnw (ix : Nat) : pm_thg (pm_gAnw ix) := by
  intro ih d h m own pc len ls st o hu hr
  unfold pm_gAnw at hr
  split at hr
  · replace hr := pm_cond_false hr
    obtain ⟨-, hr⟩ := hr
    replace hr := pm_cond_true hr
    obtain ⟨-, hr⟩ := hr
    rw [pm_fn_eq, pm_fn_eq] at hr
    exact (pm_le_push _ _).tr (hu _ _ _ _ _ _ _ hr)
  · cases hr
theorem pm_tgLen (X : List (Nat × List Value)) : pm_thg (pm_gLen X) := by
  intro ih d h m own pc len ls st o hu hr
  unfold pm_gLen at hr
  split at hr
  · split at hr
    · replace hr := pm_cond_true hr
      obtain ⟨-, hr⟩ := hr
      rw [pm_fn_eq, pm_fn_eq] at hr
      exact hu _ _ _ _ _ _ _ hr
    · cases hr
  · cases hr
theorem pm_tgAld (X : List (Nat × List Value)) (t t1 : Nat) : pm_thg (pm_gAld X t t1) := by
  intro ih d h m own pc len ls st o hu hr
  unfold pm_gAld at hr
  split at hr
  · split at hr
    · replace hr := pm_cond_true hr
      obtain ⟨-, hr⟩ := hr
      replace hr := pm_cond_false hr
      obtain ⟨-, hr⟩ := hr
      split at hr
      · rw [pm_fn_eq] at hr
        exact hu _ _ _ _ _ _ _ hr
      · cases hr
    · cases hr
  · cases hr
theorem pm_tgLald (X : List (Nat × List Value)) : pm_thg (pm_gLald X) := by
  intro ih d h m own pc len ls st o hu hr
  unfold pm_gLald at hr
  split at hr
  · split at hr
    · replace hr := pm_cond_true hr
      obtain ⟨-, hr⟩ := hr
      replace hr := pm_cond_false hr
      obtain ⟨-, hr⟩ := hr
      split at hr
      · rw [pm_fn_eq] at hr
        exact hu _ _ _ _ _ _ _ hr
      · cases hr
    · cases hr
  · cases hr
theorem pm_tgAald  : pm_thg (pm_gAald) := by
  intro ih d h m own pc len ls st o hu hr
  unfold pm_gAald at hr
  split at hr
  · split at hr
    · replace hr := pm_cond_true hr
      obtain ⟨-, hr⟩ := hr
      replace hr := pm_cond_false hr
      obtain ⟨-, hr⟩ := hr
      split at hr
      · rw [pm_fn_eq] at hr
        exact hu _ _ _ _ _ _ _ hr
      · cases hr
    · cases hr
  · cases hr
theorem pm_tgIst (t : Nat) (f : Int32 → Int32) : pm_thg (pm_gIst t f) := by
  intro ih d h m own pc len ls st o hu hr
  unfold pm_gIst at hr
  split at hr
  · split at hr
    · rename_i hc
      replace hr := pm_cond_true hr
      obtain ⟨-, hr⟩ := hr
      replace hr := pm_cond_true hr
      obtain ⟨-, hr⟩ := hr
      obtain ⟨k0, rfl, e2, hk0⟩ := pm_cell_some hc
      rw [pm_fi_eq, pm_fn_eq, e2, pm_set_eq, pm_set_eq] at hr
      exact (pm_le_set hk0 (by simp [pm_sz])).tr (hu _ _ _ _ _ _ _ hr)
    · cases hr
  · cases hr
theorem pm_tgLst  : pm_thg (pm_gLst) := by
  intro ih d h m own pc len ls st o hu hr
  unfold pm_gLst at hr
  split at hr
  · split at hr
    · rename_i hc
      replace hr := pm_cond_true hr
      obtain ⟨-, hr⟩ := hr
      replace hr := pm_cond_true hr
      obtain ⟨-, hr⟩ := hr
      obtain ⟨k0, rfl, e2, hk0⟩ := pm_cell_some hc
      rw [pm_fl_eq, pm_fn_eq, e2, pm_set_eq, pm_set_eq] at hr
      exact (pm_le_set hk0 (by simp [pm_sz])).tr (hu _ _ _ _ _ _ _ hr)
    · cases hr
  · cases hr
theorem pm_tgAst  : pm_thg (pm_gAst) := by
  intro ih d h m own pc len ls st o hu hr
  unfold pm_gAst at hr
  split at hr
  · split at hr
    · rename_i hc hcz
      replace hr := pm_cond_true hr
      obtain ⟨-, hr⟩ := hr
      replace hr := pm_cond_true hr
      obtain ⟨-, hr⟩ := hr
      obtain ⟨k0, rfl, e2, hk0⟩ := pm_cell_some hc
      rw [pm_fn_eq, e2, pm_set_eq, pm_set_eq] at hr
      exact (pm_le_set hk0 (by simp [pm_sz])).tr (hu _ _ _ _ _ _ _ hr)
    · cases hr
  · cases hr
theorem pm_tgRet (lo hi : Nat) : pm_thg (pm_gRet lo hi) := by
  intro ih d h m own pc len ls st o hu hr
  unfold pm_gRet at hr
  split at hr
  · split at hr
    · replace hr := pm_cond_true hr
      obtain ⟨-, hr⟩ := hr
      replace hr := pm_cond_true hr
      obtain ⟨-, hr⟩ := hr
      replace hr := pm_cond_true hr
      obtain ⟨-, hr⟩ := hr
      cases hr
      exact pm_le.rf _
    · cases hr
  · cases hr
theorem pm_tgRtv  : pm_thg (pm_gRtv) := by
  intro ih d h m own pc len ls st o hu hr
  unfold pm_gRtv at hr
  split at hr
  · split at hr
    · replace hr := pm_cond_true hr
      obtain ⟨-, hr⟩ := hr
      cases hr
      exact pm_le.rf _
    · cases hr
  · cases hr
theorem pm_tCall {ih : pm_I} {d : Nat} {h : pm_H} {m pc : Nat} {ls : pm_L} {m' : Nat} {As rest : List Value} {hnd : Bool} {o : pm_H × (Option Value ⊕ Unit)} (hu : pm_up0 ih) (hr : pm_call ih d h m pc ls m' As rest hnd = some o) : pm_le h o.1 := by
  unfold pm_call at hr
  split at hr
  · cases hr
  · split at hr
    · cases hr
    · replace hr := pm_cond_true hr
      obtain ⟨-, hr⟩ := hr
      split at hr
      · rename_i h1 v hrun
        rw [pm_fn_eq] at hr
        exact (hu _ _ _ _ _ _ _ hrun).tr (hu _ _ _ _ _ _ _ hr)
      · rename_i h1 v hrun
        replace hr := pm_cond_true hr
        obtain ⟨-, hr⟩ := hr
        cases hr
        exact (hu _ _ _ _ _ _ _ hrun : pm_le h (h1, Sum.inr v).1)
      · cases hr
theorem pm_tPrim {X : List (Nat × List Value)} {f : Nat} {K : pm_H → List Value → pm_R} {h : pm_H} {st : List Value} {o : pm_H × (Option Value ⊕ Unit)} (hK : ∀ h1 st1, K h1 st1 = some o → pm_le h1 o.1) (hr : pm_prim X f K h st = some o) : pm_le h o.1 := by
  unfold pm_prim at hr
  split at hr
  · unfold pm_p0 at hr
    split at hr
    · exact hK _ _ hr
    · cases hr
  · unfold pm_p1 at hr
    split at hr
    · exact hK _ _ hr
    · cases hr
  · unfold pm_p2 at hr
    split at hr
    · exact hK _ _ hr
    · cases hr
  · unfold pm_p3 at hr
    split at hr
    · exact hK _ _ hr
    · cases hr
  · unfold pm_p4 at hr
    split at hr
    · exact hK _ _ hr
    · cases hr
  · unfold pm_p5 at hr
    split at hr
    · split at hr
      · rename_i hrow hc
        replace hr := pm_cond_true hr
        obtain ⟨hb1, hr⟩ := hr
        simp only [Bool.and_eq_true] at hb1
        obtain ⟨t1, t2, t3, t4, t5, t6, t7, t8⟩ := hb1
        rw [pm_len_eq] at t7 t8
        obtain ⟨k0, rfl, e2, hk0⟩ := pm_cell_some hc
        rw [e2, pm_set_eq] at hr
        have hz := pm_cpy_len _ _ _ _ _ (Nat.le_of_ble_eq_true t7) (Nat.le_of_ble_eq_true t8)
        refine pm_le.tr ?_ (hK _ _ hr)
        exact pm_le_set hk0 hz
      · cases hr
    · cases hr
  · unfold pm_p6 at hr
    split at hr
    · split at hr
      · rename_i hc
        replace hr := pm_cond_true hr
        obtain ⟨-, hr⟩ := hr
        obtain ⟨k0, rfl, e2, hk0⟩ := pm_cell_some hc
        rw [e2, pm_set_eq, pm_rep_eq, pm_len_eq] at hr
        exact (pm_le_set hk0 (by simp [pm_sz])).tr (hK _ _ hr)
      · cases hr
    · cases hr
  · cases hr
theorem pm_tStr {X : List (Nat × List Value)} {f : Nat} {K : pm_H → List Value → pm_R} {h : pm_H} {st : List Value} {o : pm_H × (Option Value ⊕ Unit)} (hK : ∀ h1 st1, K h1 st1 = some o → pm_le h1 o.1) (hr : pm_str X f K h st = some o) : pm_le h o.1 := by
  unfold pm_str at hr
  split at hr
  · unfold pm_t7 at hr
    split at hr
    · split at hr
      · rw [pm_fn_eq] at hr
        exact hK _ _ hr
      · cases hr
    · cases hr
  · unfold pm_t8 at hr
    split at hr
    · split at hr
      · replace hr := pm_cond_false hr
        obtain ⟨-, hr⟩ := hr
        split at hr
        · exact hK _ _ hr
        · cases hr
      · cases hr
    · cases hr
  · unfold pm_t9 at hr
    split at hr
    · split at hr
      · exact hK _ _ hr
      · cases hr
    · cases hr
  · cases hr
theorem pm_tgInv (X : List (Nat × List Value)) (how ix : Nat) : pm_thg (pm_gInv X how ix) := by
  intro ih d h m own pc len ls st o hu hr
  unfold pm_gInv at hr
  split at hr
  · rename_i kind m' na ci hg
    cases hk : Nat.beq kind 12 with
    | true =>
      rw [hk, cond_true] at hr
      replace hr := pm_cond_true hr
      obtain ⟨-, hr⟩ := hr
      refine pm_tPrim (fun h1 st1 hz => ?_) hr
      replace hz := pm_cond_true hz
      obtain ⟨-, hz⟩ := hz
      rw [pm_fn_eq] at hz
      exact hu _ _ _ _ _ _ _ hz
    | false =>
      rw [hk, cond_false] at hr
      rcases Bool.eq_false_or_eq_true (Nat.beq kind 15) with hk15 | hk15
      · rw [hk15, cond_true] at hr
        replace hr := pm_cond_true hr
        obtain ⟨-, hr⟩ := hr
        refine pm_tStr (fun h1 st1 hz => ?_) hr
        replace hz := pm_cond_true hz
        obtain ⟨-, hz⟩ := hz
        rw [pm_fn_eq] at hz
        exact hu _ _ _ _ _ _ _ hz
      rw [hk15, cond_false] at hr
      split at hr
      · replace hr := pm_cond_true hr
        obtain ⟨-, hr⟩ := hr
        cases hk2 : Nat.beq kind how with
        | true =>
          rw [hk2, cond_true] at hr
          unfold pm_gC at hr
          split at hr
          · split at hr
            · split at hr
              · replace hr := pm_cond_true hr
                obtain ⟨-, hr⟩ := hr
                exact pm_tCall hu hr
              · cases hr
            · cases hr
          · exact pm_tCall hu hr
          · split at hr
            · exact pm_tCall hu hr
            · cases hr
          · cases hr
        | false =>
          rw [hk2, cond_false] at hr
          replace hr := pm_cond_true hr
          obtain ⟨-, hr⟩ := hr
          replace hr := pm_cond_true hr
          obtain ⟨-, hr⟩ := hr
          exact pm_tCall hu hr
      · cases hr
  · cases hr
theorem pm_tDsp (X : List (Nat × List Value)) (i : Instr) : pm_thg (pm_dsp X i) := by
  cases i with
  | iconst n => exact pm_tLift (pm_tC _)
  | bipush n => exact pm_tLift (pm_tC _)
  | sipush n => exact pm_tLift (pm_tC _)
  | lconst n => exact pm_tLift (pm_tC _)
  | aload k => exact pm_tLift (pm_tAld _)
  | aload_n k => exact pm_tLift (pm_tAld _)
  | iload k => exact pm_tLift (pm_tIld _)
  | iload_n k => exact pm_tLift (pm_tIld _)
  | lload k => exact pm_tLift (pm_tLld _)
  | lload_n k => exact pm_tLift (pm_tLld _)
  | astore k => exact pm_tLift (pm_tAst _)
  | astore_n k => exact pm_tLift (pm_tAst _)
  | istore k => exact pm_tLift (pm_tIst _)
  | istore_n k => exact pm_tLift (pm_tIst _)
  | lstore k => exact pm_tLift (pm_tLst _)
  | lstore_n k => exact pm_tLift (pm_tLst _)
  | iinc k n => exact pm_tLift (pm_tInc _ _)
  | iadd => exact pm_tLift (pm_tII _)
  | isub => exact pm_tLift (pm_tII _)
  | imul => exact pm_tLift (pm_tII _)
  | iand => exact pm_tLift (pm_tII _)
  | ior => exact pm_tLift (pm_tII _)
  | ishl => exact pm_tLift (pm_tII _)
  | ishr => exact pm_tLift (pm_tII _)
  | iushr => exact pm_tLift (pm_tII _)
  | idiv => exact pm_tLift (pm_tIIz _)
  | irem => exact pm_tLift (pm_tIIz _)
  | ineg => exact pm_tLift (pm_tI _)
  | i2b => exact pm_tLift (pm_tI _)
  | i2c => exact pm_tLift (pm_tI _)
  | ladd => exact pm_tLift (pm_tLL _)
  | lsub => exact pm_tLift (pm_tLL _)
  | lmul => exact pm_tLift (pm_tLL _)
  | land => exact pm_tLift (pm_tLL _)
  | lor => exact pm_tLift (pm_tLL _)
  | ldiv => exact pm_tLift (pm_tLLz _)
  | lrem => exact pm_tLift (pm_tLLz _)
  | lneg => exact pm_tLift (pm_tL _)
  | lshl => exact pm_tLift (pm_tLI _)
  | lshr => exact pm_tLift (pm_tLI _)
  | lushr => exact pm_tLift (pm_tLI _)
  | lcmp => exact pm_tLift pm_tCmp
  | i2l => exact pm_tLift (pm_tIL _)
  | l2i => exact pm_tLift (pm_tLi _)
  | dup => exact pm_tLift pm_tDup
  | pop => exact pm_tLift pm_tPop
  | pop2 => exact pm_tLift pm_tPop2
  | ifCond c off => exact pm_tLift (pm_tIf _ _)
  | if_icmp c off => exact pm_tLift (pm_tIf2 _ _)
  | goto off => exact pm_tLift (pm_tGo _)
  | tableswitch a b c2 d => exact pm_tLift (pm_tTsw _ _ _ _)
  | lookupswitch a b => exact pm_tLift (pm_tLsw _ _)
  | ldc ix => exact pm_tgLdc _
  | ldc_w ix => exact pm_tgLdw _
  | ldc2_w ix => exact pm_tgLd2 _
  | getstatic ix => exact pm_tgSta _
  | getfield ix => exact pm_tgGet _
  | putfield ix => exact pm_tgPut _
  | new ix => exact pm_tgNew _ _
  | newarray t => exact pm_tgNwa _
  | anewarray ix => exact pm_tgAnw _
  | arraylength => exact pm_tgLen _
  | iaload => exact pm_tgAld _ _ _
  | baload => exact pm_tgAld _ _ _
  | caload => exact pm_tgAld _ _ _
  | laload => exact pm_tgLald _
  | aaload => exact pm_tgAald
  | iastore => exact pm_tgIst _ _
  | bastore => exact pm_tgIst _ _
  | castore => exact pm_tgIst _ _
  | lastore => exact pm_tgLst
  | aastore => exact pm_tgAst
  | invokestatic ix => exact pm_tgInv _ _ _
  | invokevirtual ix => exact pm_tgInv _ _ _
  | invokespecial ix => exact pm_tgInv _ _ _
  | ireturn => exact pm_tgRet _ _
  | lreturn => exact pm_tgRet _ _
  | areturn => exact pm_tgRet _ _
  | return_ => exact pm_tgRtv
  | _ => exact fun _ _ _ _ _ _ _ _ _ _ _ hr => nomatch (show (none : pm_R) = some _ from hr)
theorem pm_mono (X : List (Nat × List Value)) : ∀ n, pm_up0 (pm_x X n)
  | 0 => fun d h m pc ls st o hr => nomatch (show (none : pm_R) = some o from hr)
  | n + 1 => fun d h m pc ls st o hr => by
    have hr : pm_F X (pm_x X n) d h m pc ls st = some o := hr
    unfold pm_F at hr
    split at hr
    · cases hr
    · split at hr
      · cases hr
      · exact pm_tDsp X _ _ _ _ _ _ _ _ _ _ _ (pm_mono X n) hr
/-- the law's own frame by its own steps: k of them; what it calls has n -/
noncomputable def pm_ik (X : List (Nat × List Value)) (n : Nat) (K : pm_I) : pm_I := fun d h m pc ls st => cond (Nat.beq m 309) (K d h m pc ls st) (pm_x X n d h m pc ls st)
noncomputable def pm_xk (X : List (Nat × List Value)) (n k : Nat) : pm_I := Nat.rec (fun _ _ _ _ _ _ => none) (fun _ K => pm_F X (pm_ik X n K)) k
theorem pm_ik_ne {X : List (Nat × List Value)} {n : Nat} {K : pm_I} {d : Nat} {h : pm_H} {m pc : Nat} {ls : pm_L} {st : List Value} (hm : m ≠ 309) : pm_ik X n K d h m pc ls st = pm_x X n d h m pc ls st := by
  unfold pm_ik
  cases hb : Nat.beq m 309 with
  | true => exact absurd (Nat.eq_of_beq_eq_true hb) hm
  | false => rfl
theorem pm_up_ik {X : List (Nat × List Value)} {n : Nat} {K : pm_I} (hK : pm_up0 K) : pm_up0 (pm_ik X n K) := by
  intro d h m pc ls st o hr
  unfold pm_ik at hr
  cases hb : Nat.beq m 309 with
  | true => rw [hb] at hr; exact hK _ _ _ _ _ _ _ hr
  | false => rw [hb] at hr; exact pm_mono X n _ _ _ _ _ _ _ hr
theorem pm_up_xk (X : List (Nat × List Value)) (n : Nat) : ∀ k, pm_up0 (pm_xk X n k)
  | 0 => fun d h m pc ls st o hr => nomatch (show (none : pm_R) = some o from hr)
  | k + 1 => fun d h m pc ls st o hr => by
    have hr : pm_F X (pm_ik X n (pm_xk X n k)) d h m pc ls st = some o := hr
    unfold pm_F at hr
    split at hr
    · cases hr
    · split at hr
      · cases hr
      · exact pm_tDsp X _ _ _ _ _ _ _ _ _ _ _ (pm_up_ik (pm_up_xk X n k)) hr
