/-! a run under less of X is a run under more -/
def pm_ms (f : pm_S) : Prop := ∀ (K K' : Nat → pm_L → List Value → pm_R), (∀ q ls st o, K q ls st = some o → K' q ls st = some o) → ∀ (pc len : Nat) (ls : pm_L) (st : List Value) (o : pm_H × (Option Value ⊕ Unit)), f K pc len ls st = some o → f K' pc len ls st = some o
theorem pm_cnd_m {b : Bool} {A B A' B' : pm_R} {o : pm_H × (Option Value ⊕ Unit)} (h1 : A = some o → A' = some o) (h2 : B = some o → B' = some o) (h : cond b A B = some o) : cond b A' B' = some o := by
  cases b with
  | true => exact h1 h
  | false => exact h2 h
theorem pm_nn {A : pm_R} {o : pm_H × (Option Value ⊕ Unit)} (h : (none : pm_R) = some o) : A = some o := nomatch h
theorem pm_fn_m {n : Nat} {K K' : Nat → pm_R} {o : pm_H × (Option Value ⊕ Unit)} (hK : ∀ q, K q = some o → K' q = some o) (h : pm_fn n K = some o) : pm_fn n K' = some o := by
  rw [pm_fn_eq] at h ⊢
  exact hK _ h
theorem pm_fi_m {n : Int32} {K K' : Int32 → pm_R} {o : pm_H × (Option Value ⊕ Unit)} (hK : ∀ q, K q = some o → K' q = some o) (h : pm_fi n K = some o) : pm_fi n K' = some o := by
  rw [pm_fi_eq] at h ⊢
  exact hK _ h
theorem pm_fl_m {n : Int64} {K K' : Int64 → pm_R} {o : pm_H × (Option Value ⊕ Unit)} (hK : ∀ q, K q = some o → K' q = some o) (h : pm_fl n K = some o) : pm_fl n K' = some o := by
  rw [pm_fl_eq] at h ⊢
  exact hK _ h
theorem pm_to_m {z : Int} {K K' : Nat → pm_R} {o : pm_H × (Option Value ⊕ Unit)} (hK : ∀ q, K q = some o → K' q = some o) (h : pm_to z K = some o) : pm_to z K' = some o := by
  unfold pm_to at h ⊢
  cases z with
  | ofNat t => exact pm_fn_m hK h
  | negSucc t => exact pm_nn h
theorem pm_mC (v : Value) : pm_ms (pm_sC v) := by
  intro K K' hK pc len ls st o h
  unfold pm_sC at h ⊢
  exact (pm_fn_m fun q => hK _ _ _ _) h
theorem pm_mIld (k : Nat) : pm_ms (pm_sIld k) := by
  intro K K' hK pc len ls st o h
  unfold pm_sIld at h ⊢
  split at h
  · exact (pm_fn_m fun q => hK _ _ _ _) h
  · exact pm_nn h
theorem pm_mLld (k : Nat) : pm_ms (pm_sLld k) := by
  intro K K' hK pc len ls st o h
  unfold pm_sLld at h ⊢
  split at h
  · exact (pm_fn_m fun q => hK _ _ _ _) h
  · exact pm_nn h
theorem pm_mAld (k : Nat) : pm_ms (pm_sAld k) := by
  intro K K' hK pc len ls st o h
  unfold pm_sAld at h ⊢
  split at h
  · exact (pm_fn_m fun q => hK _ _ _ _) h
  · exact pm_nn h
theorem pm_mIst (k : Nat) : pm_ms (pm_sIst k) := by
  intro K K' hK pc len ls st o h
  unfold pm_sIst at h ⊢
  split at h
  · exact pm_cnd_m (pm_fi_m fun y => pm_fn_m fun q => hK _ _ _ _) pm_nn h
  · exact pm_nn h
theorem pm_mLst (k : Nat) : pm_ms (pm_sLst k) := by
  intro K K' hK pc len ls st o h
  unfold pm_sLst at h ⊢
  split at h
  · exact pm_cnd_m (pm_fl_m fun y => pm_fn_m fun q => hK _ _ _ _) pm_nn h
  · exact pm_nn h
theorem pm_mAst (k : Nat) : pm_ms (pm_sAst k) := by
  intro K K' hK pc len ls st o h
  unfold pm_sAst at h ⊢
  split at h
  · exact pm_cnd_m (pm_fn_m fun q => hK _ _ _ _) pm_nn h
  · exact pm_nn h
theorem pm_mInc (k : Nat) (n : Int) : pm_ms (pm_sInc k n) := by
  intro K K' hK pc len ls st o h
  unfold pm_sInc at h ⊢
  split at h
  · exact pm_cnd_m (pm_fi_m fun y => pm_fn_m fun q => hK _ _ _ _) pm_nn h
  · exact pm_nn h
theorem pm_mII (f : Int32 → Int32 → Int32) : pm_ms (pm_sII f) := by
  intro K K' hK pc len ls st o h
  unfold pm_sII at h ⊢
  split at h
  · exact (pm_fn_m fun q => hK _ _ _ _) h
  · exact pm_nn h
theorem pm_mI (f : Int32 → Int32) : pm_ms (pm_sI f) := by
  intro K K' hK pc len ls st o h
  unfold pm_sI at h ⊢
  split at h
  · exact (pm_fn_m fun q => hK _ _ _ _) h
  · exact pm_nn h
theorem pm_mLL (f : Int64 → Int64 → Int64) : pm_ms (pm_sLL f) := by
  intro K K' hK pc len ls st o h
  unfold pm_sLL at h ⊢
  split at h
  · exact (pm_fn_m fun q => hK _ _ _ _) h
  · exact pm_nn h
theorem pm_mLI (f : Int64 → Int32 → Int64) : pm_ms (pm_sLI f) := by
  intro K K' hK pc len ls st o h
  unfold pm_sLI at h ⊢
  split at h
  · exact (pm_fn_m fun q => hK _ _ _ _) h
  · exact pm_nn h
theorem pm_mL (f : Int64 → Int64) : pm_ms (pm_sL f) := by
  intro K K' hK pc len ls st o h
  unfold pm_sL at h ⊢
  split at h
  · exact (pm_fn_m fun q => hK _ _ _ _) h
  · exact pm_nn h
theorem pm_mIL (f : Int32 → Int64) : pm_ms (pm_sIL f) := by
  intro K K' hK pc len ls st o h
  unfold pm_sIL at h ⊢
  split at h
  · exact (pm_fn_m fun q => hK _ _ _ _) h
  · exact pm_nn h
theorem pm_mLi (f : Int64 → Int32) : pm_ms (pm_sLi f) := by
  intro K K' hK pc len ls st o h
  unfold pm_sLi at h ⊢
  split at h
  · exact (pm_fn_m fun q => hK _ _ _ _) h
  · exact pm_nn h
theorem pm_mIIz (f : Int32 → Int32 → Int32) : pm_ms (pm_sIIz f) := by
  intro K K' hK pc len ls st o h
  unfold pm_sIIz at h ⊢
  split at h
  · exact pm_cnd_m pm_nn (pm_fn_m fun q => hK _ _ _ _) h
  · exact pm_nn h
theorem pm_mLLz (f : Int64 → Int64 → Int64) : pm_ms (pm_sLLz f) := by
  intro K K' hK pc len ls st o h
  unfold pm_sLLz at h ⊢
  split at h
  · exact pm_cnd_m pm_nn (pm_fn_m fun q => hK _ _ _ _) h
  · exact pm_nn h
theorem pm_mCmp : pm_ms (pm_sCmp) := by
  intro K K' hK pc len ls st o h
  unfold pm_sCmp at h ⊢
  split at h
  · exact (pm_fn_m fun q => hK _ _ _ _) h
  · exact pm_nn h
theorem pm_mDup : pm_ms (pm_sDup) := by
  intro K K' hK pc len ls st o h
  unfold pm_sDup at h ⊢
  split at h
  · exact pm_cnd_m (pm_fn_m fun q => hK _ _ _ _) pm_nn h
  · exact pm_nn h
theorem pm_mPop : pm_ms (pm_sPop) := by
  intro K K' hK pc len ls st o h
  unfold pm_sPop at h ⊢
  split at h
  · exact pm_cnd_m (pm_fn_m fun q => hK _ _ _ _) pm_nn h
  · exact pm_nn h
theorem pm_mPop2 : pm_ms (pm_sPop2) := by
  intro K K' hK pc len ls st o h
  unfold pm_sPop2 at h ⊢
  split at h
  · exact pm_cnd_m (pm_fn_m fun q => hK _ _ _ _) pm_nn h
  · exact pm_nn h
theorem pm_mIf (c : ClassFile.Cond) (off : Int) : pm_ms (pm_sIf c off) := by
  intro K K' hK pc len ls st o h
  unfold pm_sIf at h ⊢
  split at h
  · exact pm_to_m (fun t => pm_cnd_m (hK _ _ _ _) (pm_fn_m fun q => hK _ _ _ _)) h
  · exact pm_nn h
theorem pm_mIf2 (c : ClassFile.Cond) (off : Int) : pm_ms (pm_sIf2 c off) := by
  intro K K' hK pc len ls st o h
  unfold pm_sIf2 at h ⊢
  split at h
  · exact pm_to_m (fun t => pm_cnd_m (hK _ _ _ _) (pm_fn_m fun q => hK _ _ _ _)) h
  · exact pm_nn h
theorem pm_mGo (off : Int) : pm_ms (pm_sGo off) := by
  intro K K' hK pc len ls st o h
  unfold pm_sGo at h ⊢
  exact pm_to_m (fun t => hK _ _ _ _) h
theorem pm_tsw_m {x lo hi dflt : Int} {offs : Array Int} {K K' : Int → pm_R} {o : pm_H × (Option Value ⊕ Unit)} (hK : ∀ q, K q = some o → K' q = some o) (h : pm_tsw x lo hi dflt offs K = some o) : pm_tsw x lo hi dflt offs K' = some o := by
  unfold pm_tsw at h ⊢
  by_cases hc : x < lo ∨ hi < x
  · rw [if_pos hc] at h ⊢
    exact hK _ h
  · rw [if_neg hc] at h ⊢
    split at h
    · exact hK _ h
    · exact pm_nn h
theorem pm_mTsw (d : Int) (lo : Int) (hi : Int) (offs : Array Int) : pm_ms (pm_sTsw d lo hi offs) := by
  intro K K' hK pc len ls st o h
  unfold pm_sTsw at h ⊢
  split at h
  · exact pm_tsw_m (fun t => pm_to_m fun u => hK _ _ _ _) h
  · exact pm_nn h
theorem pm_mLsw (d : Int) (ps : Array (Int × Int)) : pm_ms (pm_sLsw d ps) := by
  intro K K' hK pc len ls st o h
  unfold pm_sLsw at h ⊢
  split at h
  · exact pm_cnd_m (pm_to_m fun u => hK _ _ _ _) pm_nn h
  · exact pm_nn h
def pm_lei (ih ih' : pm_I) : Prop := ∀ d h m pc ls st o, ih d h m pc ls st = some o → ih' d h m pc ls st = some o
def pm_mg (g g' : pm_G) : Prop := ∀ (ih ih' : pm_I), pm_lei ih ih' → ∀ (d : Nat) (h : pm_H) (m own pc len : Nat) (ls : pm_L) (st : List Value) (o : pm_H × (Option Value ⊕ Unit)), g ih d h m own pc len ls st = some o → g' ih' d h m own pc len ls st = some o
theorem pm_mLift {f : pm_S} (hf : pm_ms f) : pm_mg (pm_lift f) (pm_lift f) := fun ih ih' hi d h m own pc len ls st o hr => hf _ _ (fun q ls st o => hi d h m q ls st o) pc len ls st o hr
/-- the same but for the script's place, which can't be read there -/
def pm_leX (X X' : List (Nat × List Value)) : Prop := (∀ a : Nat, a ≠ 0 → X'[a]? = X[a]?) ∧ X[0]? = some (99, [])
theorem pm_leX.row {X X' : List (Nat × List Value)} (hX : pm_leX X X') {h : pm_H} {a : Nat} {q : Nat × List Value} (hr : pm_row X h a = some q) : pm_row X' h a = some q := by
  unfold pm_row at hr ⊢
  refine Eq.trans ?_ hr
  cases hb : Nat.blt a 16 with
  | false => rfl
  | true =>
    rw [hb, cond_true] at hr
    rw [cond_true, cond_true, pm_nth_eq, pm_nth_eq]
    by_cases h0 : a = 0
    · subst h0
      rw [pm_nth_eq, hX.2] at hr
      cases hr
    · rw [hX.1 a h0]
theorem pm_leX.sx {X X' : List (Nat × List Value)} (hX : pm_leX X X') (a : Nat) : pm_sx X' a = pm_sx X a := by
  unfold pm_sx
  cases hb : (Nat.ble 4 a && Nat.blt a 12) with
  | false => rfl
  | true =>
    rw [Bool.and_eq_true] at hb
    have := Nat.le_of_ble_eq_true hb.1
    rw [cond_true, cond_true, pm_nth_eq, pm_nth_eq, hX.1 a (by omega)]
theorem pm_mgLdc (ix : Nat) : pm_mg (pm_gLdc ix) (pm_gLdc ix) := by
  intro ih ih' hi d h m own pc len ls st o hr
  unfold pm_gLdc at hr ⊢
  split at hr
  · exact (pm_fn_m fun q => hi _ _ _ _ _ _ _) hr
  · exact (pm_fn_m fun q => hi _ _ _ _ _ _ _) hr
  · exact pm_nn hr
theorem pm_mgLdw (ix : Nat) : pm_mg (pm_gLdw ix) (pm_gLdw ix) := by
  intro ih ih' hi d h m own pc len ls st o hr
  unfold pm_gLdw at hr ⊢
  split at hr
  · exact (pm_fn_m fun q => hi _ _ _ _ _ _ _) hr
  · exact pm_nn hr
theorem pm_mgLd2 (ix : Nat) : pm_mg (pm_gLd2 ix) (pm_gLd2 ix) := by
  intro ih ih' hi d h m own pc len ls st o hr
  unfold pm_gLd2 at hr ⊢
  split at hr
  · exact (pm_fn_m fun q => hi _ _ _ _ _ _ _) hr
  · exact pm_nn hr
theorem pm_mgSta (ix : Nat) : pm_mg (pm_gSta ix) (pm_gSta ix) := by
  intro ih ih' hi d h m own pc len ls st o hr
  unfold pm_gSta at hr ⊢
  split at hr
  · exact (pm_fn_m fun q => hi _ _ _ _ _ _ _) hr
  · exact pm_nn hr
theorem pm_mgGet (ix : Nat) : pm_mg (pm_gGet ix) (pm_gGet ix) := by
  intro ih ih' hi d h m own pc len ls st o hr
  unfold pm_gGet at hr ⊢
  split at hr
  · split at hr
    · refine pm_cnd_m (fun hr => ?_) pm_nn hr
      split at hr
      · exact (pm_fn_m fun q => hi _ _ _ _ _ _ _) hr
      · exact pm_nn hr
    · exact pm_nn hr
  · exact pm_nn hr
theorem pm_fv_m {n : Value} {K K' : Value → pm_R} {o : pm_H × (Option Value ⊕ Unit)} (hK : ∀ q, K q = some o → K' q = some o) (h : pm_fv n K = some o) : pm_fv n K' = some o := by
  rw [pm_fv_eq] at h ⊢
  exact hK _ h
theorem pm_mgPut (ix : Nat) : pm_mg (pm_gPut ix) (pm_gPut ix) := by
  intro ih ih' hi d h m own pc len ls st o hr
  unfold pm_gPut at hr ⊢
  split at hr
  · split at hr
    · exact pm_cnd_m (pm_cnd_m (pm_cnd_m (pm_fv_m fun v => pm_fn_m fun q => hi _ _ _ _ _ _ _) pm_nn) pm_nn) pm_nn hr
    · exact pm_nn hr
  · exact pm_nn hr
theorem pm_mgNew {X X' : List (Nat × List Value)} (hX : pm_leX X X') (ix : Nat) : pm_mg (pm_gNew X ix) (pm_gNew X' ix) := by
  intro ih ih' hi d h m own pc len ls st o hr
  unfold pm_gNew at hr ⊢
  split at hr
  · rw [pm_nth_eq] at hr ⊢
    rw [hX.1 _ (by omega)]
    split at hr
    · exact pm_cnd_m (pm_fn_m fun z => pm_fn_m fun q => hi _ _ _ _ _ _ _) pm_nn hr
    · exact pm_nn hr
  · exact hr
  · exact pm_nn hr
theorem pm_mgNwa (t : ArrayType) : pm_mg (pm_gNwa t) (pm_gNwa t) := by
  intro ih ih' hi d h m own pc len ls st o hr
  unfold pm_gNwa at hr ⊢
  split at hr
  · exact pm_cnd_m pm_nn (pm_cnd_m (pm_cnd_m (pm_fn_m fun z => pm_fn_m fun q => hi _ _ _ _ _ _ _) pm_nn) pm_nn) hr
  · exact pm_nn hr
theorem pm_mgAnw (ix : Nat) : pm_mg (pm_gAnw ix) (pm_gAnw ix) := by
  intro ih ih' hi d h m own pc len ls st o hr
  unfold pm_gAnw at hr ⊢
  split at hr
  · exact pm_cnd_m pm_nn (pm_cnd_m (pm_fn_m fun z => pm_fn_m fun q => hi _ _ _ _ _ _ _) pm_nn) hr
  · exact pm_nn hr
theorem pm_mgLen {X X' : List (Nat × List Value)} (hX : pm_leX X X') : pm_mg (pm_gLen X) (pm_gLen X') := by
  intro ih ih' hi d h m own pc len ls st o hr
  unfold pm_gLen at hr ⊢
  split at hr
  · split at hr
    · rename_i hrow
      rw [hX.row hrow]
      exact pm_cnd_m (pm_fn_m fun z => pm_fn_m fun q => hi _ _ _ _ _ _ _) pm_nn hr
    · exact pm_nn hr
  · exact pm_nn hr
theorem pm_mgAld {X X' : List (Nat × List Value)} (hX : pm_leX X X') (t : Nat) (t1 : Nat) : pm_mg (pm_gAld X t t1) (pm_gAld X' t t1) := by
  intro ih ih' hi d h m own pc len ls st o hr
  unfold pm_gAld at hr ⊢
  split at hr
  · split at hr
    · rename_i hrow
      rw [hX.row hrow]
      refine pm_cnd_m (pm_cnd_m pm_nn fun hr => ?_) pm_nn hr
      split at hr
      · exact (pm_fn_m fun q => hi _ _ _ _ _ _ _) hr
      · exact pm_nn hr
    · exact pm_nn hr
  · exact pm_nn hr
theorem pm_mgLald {X X' : List (Nat × List Value)} (hX : pm_leX X X') : pm_mg (pm_gLald X) (pm_gLald X') := by
  intro ih ih' hi d h m own pc len ls st o hr
  unfold pm_gLald at hr ⊢
  split at hr
  · split at hr
    · rename_i hrow
      rw [hX.row hrow]
      refine pm_cnd_m (pm_cnd_m pm_nn fun hr => ?_) pm_nn hr
      split at hr
      · exact (pm_fn_m fun q => hi _ _ _ _ _ _ _) hr
      · exact pm_nn hr
    · exact pm_nn hr
  · exact pm_nn hr
theorem pm_mgAald : pm_mg (pm_gAald) (pm_gAald) := by
  intro ih ih' hi d h m own pc len ls st o hr
  unfold pm_gAald at hr ⊢
  split at hr
  · split at hr
    · refine pm_cnd_m (pm_cnd_m pm_nn fun hr => ?_) pm_nn hr
      split at hr
      · exact (pm_fn_m fun q => hi _ _ _ _ _ _ _) hr
      · exact pm_nn hr
    · exact pm_nn hr
  · exact pm_nn hr
theorem pm_mgIst (t : Nat) (f : Int32 → Int32) : pm_mg (pm_gIst t f) (pm_gIst t f) := by
  intro ih ih' hi d h m own pc len ls st o hr
  unfold pm_gIst at hr ⊢
  split at hr
  · split at hr
    · exact pm_cnd_m (pm_cnd_m (pm_fi_m fun y => pm_fn_m fun q => hi _ _ _ _ _ _ _) pm_nn) pm_nn hr
    · exact pm_nn hr
  · exact pm_nn hr
theorem pm_mgLst : pm_mg (pm_gLst) (pm_gLst) := by
  intro ih ih' hi d h m own pc len ls st o hr
  unfold pm_gLst at hr ⊢
  split at hr
  · split at hr
    · exact pm_cnd_m (pm_cnd_m (pm_fl_m fun y => pm_fn_m fun q => hi _ _ _ _ _ _ _) pm_nn) pm_nn hr
    · exact pm_nn hr
  · exact pm_nn hr
theorem pm_mgAst : pm_mg (pm_gAst) (pm_gAst) := by
  intro ih ih' hi d h m own pc len ls st o hr
  unfold pm_gAst at hr ⊢
  split at hr
  · split at hr
    · exact pm_cnd_m (pm_cnd_m (pm_fn_m fun q => hi _ _ _ _ _ _ _) pm_nn) pm_nn hr
    · exact pm_nn hr
  · exact pm_nn hr
theorem pm_mgRet (lo : Nat) (hi : Nat) : pm_mg (pm_gRet lo hi) (pm_gRet lo hi) := by
  intro ih ih' hii d h m own pc len ls st o hr
  unfold pm_gRet at hr ⊢
  exact hr
theorem pm_mgRtv : pm_mg (pm_gRtv) (pm_gRtv) := by
  intro ih ih' hi d h m own pc len ls st o hr
  unfold pm_gRtv at hr ⊢
  exact hr
theorem pm_mPrim {X X' : List (Nat × List Value)} (hX : pm_leX X X') {f : Nat} {K K' : pm_H → List Value → pm_R} {h : pm_H} {st : List Value} {o : pm_H × (Option Value ⊕ Unit)} (hK : ∀ h1 st1, K h1 st1 = some o → K' h1 st1 = some o) (hr : pm_prim X f K h st = some o) : pm_prim X' f K' h st = some o := by
  unfold pm_prim at hr ⊢
  split at hr
  · unfold pm_p0 at hr ⊢
    split at hr
    · exact hK _ _ hr
    · exact pm_nn hr
  · unfold pm_p1 at hr ⊢
    split at hr
    · exact hK _ _ hr
    · exact pm_nn hr
  · unfold pm_p2 at hr ⊢
    split at hr
    · exact hK _ _ hr
    · exact pm_nn hr
  · unfold pm_p3 at hr ⊢
    split at hr
    · exact hK _ _ hr
    · exact pm_nn hr
  · unfold pm_p4 at hr ⊢
    split at hr
    · exact hK _ _ hr
    · exact pm_nn hr
  · unfold pm_p5 at hr ⊢
    split at hr
    · split at hr
      · rename_i hrow hc
        rw [hX.row hrow, hc]
        exact pm_cnd_m (hK _ _) pm_nn hr
      · exact pm_nn hr
    · exact pm_nn hr
  · unfold pm_p6 at hr ⊢
    split at hr
    · split at hr
      · exact pm_cnd_m (hK _ _) pm_nn hr
      · exact pm_nn hr
    · exact pm_nn hr
  · exact pm_nn hr
theorem pm_mStr {X X' : List (Nat × List Value)} (hX : pm_leX X X') {f : Nat} {K K' : pm_H → List Value → pm_R} {h : pm_H} {st : List Value} {o : pm_H × (Option Value ⊕ Unit)} (hK : ∀ h1 st1, K h1 st1 = some o → K' h1 st1 = some o) (hr : pm_str X f K h st = some o) : pm_str X' f K' h st = some o := by
  unfold pm_str at hr ⊢
  split at hr
  · unfold pm_t7 at hr ⊢
    split at hr
    · rw [hX.sx]
      split at hr
      · exact pm_fn_m (fun q => hK _ _) hr
      · exact pm_nn hr
    · exact pm_nn hr
  · unfold pm_t8 at hr ⊢
    split at hr
    · rw [hX.sx]
      split at hr
      · refine pm_cnd_m pm_nn (fun hr => ?_) hr
        split at hr
        · exact hK _ _ hr
        · exact pm_nn hr
      · exact pm_nn hr
    · exact pm_nn hr
  · unfold pm_t9 at hr ⊢
    split at hr
    · rw [hX.sx]
      split at hr
      · exact hK _ _ hr
      · exact pm_nn hr
    · exact pm_nn hr
  · exact pm_nn hr
theorem pm_mCall {ih ih' : pm_I} (hi : pm_lei ih ih') {d : Nat} {h : pm_H} {m pc : Nat} {ls : pm_L} {m' : Nat} {As rest : List Value} {hnd : Bool} {o : pm_H × (Option Value ⊕ Unit)} (hr : pm_call ih d h m pc ls m' As rest hnd = some o) : pm_call ih' d h m pc ls m' As rest hnd = some o := by
  unfold pm_call at hr ⊢
  split at hr
  · exact pm_nn hr
  · split at hr
    · exact pm_nn hr
    · refine pm_cnd_m (fun hr => ?_) pm_nn hr
      split at hr
      · rename_i hrun
        rw [hi _ _ _ _ _ _ _ hrun]
        exact pm_fn_m (fun q => hi _ _ _ _ _ _ _) hr
      · rename_i hrun
        rw [hi _ _ _ _ _ _ _ hrun]
        exact hr
      · exact pm_nn hr
theorem pm_mgInv {X X' : List (Nat × List Value)} (hX : pm_leX X X') (how ix : Nat) : pm_mg (pm_gInv X how ix) (pm_gInv X' how ix) := by
  intro ih ih' hi d h m own pc len ls st o hr
  unfold pm_gInv at hr ⊢
  split at hr
  · refine pm_cnd_m (pm_cnd_m (pm_mPrim hX fun h1 st1 => pm_cnd_m (pm_fn_m fun q => hi _ _ _ _ _ _ _) pm_nn) pm_nn) (pm_cnd_m (pm_cnd_m (pm_mStr hX fun h1 st1 => pm_cnd_m (pm_fn_m fun q => hi _ _ _ _ _ _ _) pm_nn) pm_nn) fun hr => ?_) hr
    split at hr
    · refine pm_cnd_m (pm_cnd_m (fun hr => ?_) (pm_cnd_m (pm_cnd_m (pm_mCall hi) pm_nn) pm_nn)) pm_nn hr
      unfold pm_gC at hr ⊢
      split at hr
      · split at hr
        · split at hr
          · exact pm_cnd_m (pm_mCall hi) pm_nn hr
          · exact pm_nn hr
        · exact pm_nn hr
      · exact pm_mCall hi hr
      · split at hr
        · exact pm_mCall hi hr
        · exact pm_nn hr
      · exact pm_nn hr
    · exact pm_nn hr
  · exact pm_nn hr
theorem pm_mDsp {X X' : List (Nat × List Value)} (hX : pm_leX X X') (i : Instr) : pm_mg (pm_dsp X i) (pm_dsp X' i) := by
  cases i with
  | iconst n => exact pm_mLift (pm_mC _)
  | bipush n => exact pm_mLift (pm_mC _)
  | sipush n => exact pm_mLift (pm_mC _)
  | lconst n => exact pm_mLift (pm_mC _)
  | aload k => exact pm_mLift (pm_mAld _)
  | aload_n k => exact pm_mLift (pm_mAld _)
  | iload k => exact pm_mLift (pm_mIld _)
  | iload_n k => exact pm_mLift (pm_mIld _)
  | lload k => exact pm_mLift (pm_mLld _)
  | lload_n k => exact pm_mLift (pm_mLld _)
  | astore k => exact pm_mLift (pm_mAst _)
  | astore_n k => exact pm_mLift (pm_mAst _)
  | istore k => exact pm_mLift (pm_mIst _)
  | istore_n k => exact pm_mLift (pm_mIst _)
  | lstore k => exact pm_mLift (pm_mLst _)
  | lstore_n k => exact pm_mLift (pm_mLst _)
  | iinc k n => exact pm_mLift (pm_mInc _ _)
  | iadd => exact pm_mLift (pm_mII _)
  | isub => exact pm_mLift (pm_mII _)
  | imul => exact pm_mLift (pm_mII _)
  | iand => exact pm_mLift (pm_mII _)
  | ior => exact pm_mLift (pm_mII _)
  | ishl => exact pm_mLift (pm_mII _)
  | ishr => exact pm_mLift (pm_mII _)
  | iushr => exact pm_mLift (pm_mII _)
  | idiv => exact pm_mLift (pm_mIIz _)
  | irem => exact pm_mLift (pm_mIIz _)
  | ineg => exact pm_mLift (pm_mI _)
  | i2b => exact pm_mLift (pm_mI _)
  | i2c => exact pm_mLift (pm_mI _)
  | ladd => exact pm_mLift (pm_mLL _)
  | lsub => exact pm_mLift (pm_mLL _)
  | lmul => exact pm_mLift (pm_mLL _)
  | land => exact pm_mLift (pm_mLL _)
  | lor => exact pm_mLift (pm_mLL _)
  | ldiv => exact pm_mLift (pm_mLLz _)
  | lrem => exact pm_mLift (pm_mLLz _)
  | lneg => exact pm_mLift (pm_mL _)
  | lshl => exact pm_mLift (pm_mLI _)
  | lshr => exact pm_mLift (pm_mLI _)
  | lushr => exact pm_mLift (pm_mLI _)
  | lcmp => exact pm_mLift pm_mCmp
  | i2l => exact pm_mLift (pm_mIL _)
  | l2i => exact pm_mLift (pm_mLi _)
  | dup => exact pm_mLift pm_mDup
  | pop => exact pm_mLift pm_mPop
  | pop2 => exact pm_mLift pm_mPop2
  | ifCond c off => exact pm_mLift (pm_mIf _ _)
  | if_icmp c off => exact pm_mLift (pm_mIf2 _ _)
  | goto off => exact pm_mLift (pm_mGo _)
  | tableswitch a b c2 d => exact pm_mLift (pm_mTsw _ _ _ _)
  | lookupswitch a b => exact pm_mLift (pm_mLsw _ _)
  | ldc ix => exact pm_mgLdc _
  | ldc_w ix => exact pm_mgLdw _
  | ldc2_w ix => exact pm_mgLd2 _
  | getstatic ix => exact pm_mgSta _
  | getfield ix => exact pm_mgGet _
  | putfield ix => exact pm_mgPut _
  | new ix => exact pm_mgNew hX _
  | newarray t => exact pm_mgNwa _
  | anewarray ix => exact pm_mgAnw _
  | arraylength => exact pm_mgLen hX
  | iaload => exact pm_mgAld hX _ _
  | baload => exact pm_mgAld hX _ _
  | caload => exact pm_mgAld hX _ _
  | laload => exact pm_mgLald hX
  | aaload => exact pm_mgAald
  | iastore => exact pm_mgIst _ _
  | bastore => exact pm_mgIst _ _
  | castore => exact pm_mgIst _ _
  | lastore => exact pm_mgLst
  | aastore => exact pm_mgAst
  | invokestatic ix => exact pm_mgInv hX _ _
  | invokevirtual ix => exact pm_mgInv hX _ _
  | invokespecial ix => exact pm_mgInv hX _ _
  | ireturn => exact pm_mgRet _ _
  | lreturn => exact pm_mgRet _ _
  | areturn => exact pm_mgRet _ _
  | return_ => exact pm_mgRtv
  | _ => exact fun _ _ _ _ _ _ _ _ _ _ _ _ hr => nomatch (show (none : pm_R) = some _ from hr)
theorem pm_mX {X X' : List (Nat × List Value)} (hX : pm_leX X X') : ∀ n, pm_lei (pm_x X n) (pm_x X' n)
  | 0 => fun d h m pc ls st o hr => nomatch (show (none : pm_R) = some o from hr)
  | n + 1 => fun d h m pc ls st o hr => by
    have hr : pm_F X (pm_x X n) d h m pc ls st = some o := hr
    show pm_F X' (pm_x X' n) d h m pc ls st = some o
    unfold pm_F at hr ⊢
    split at hr
    · exact pm_nn hr
    · split at hr
      · exact pm_nn hr
      · exact pm_mDsp hX _ _ _ (pm_mX hX n) _ _ _ _ _ _ _ _ _ hr
