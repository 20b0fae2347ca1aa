section
/-! what waits in a Reader: the ranks rise strictly between entries of rank 0 (not, an open bracket), of which there are at most five -/
def pw_rk (x : Int) : Int := if x ≤ 0 then 0 else if x ≤ 2 then 1 else if x ≤ 4 then 2 else if x ≤ 6 then 3 else if x = 7 then 4 else 0
def pw_r0 (w : Nat → Int) : Nat → Nat
  | 0 => 0
  | n + 1 => pw_r0 w n + (if 8 ≤ w n then 1 else 0)
def pw_o9 (w : Nat → Int) : Nat → Nat
  | 0 => 0
  | n + 1 => pw_o9 w n + (if w n = 9 then 1 else 0)
def pw_Jw (w : Nat → Int) (n : Nat) (dp op : Int) : Prop := (∀ j, j < n → 1 ≤ w j ∧ w j ≤ 9) ∧ (∀ j, j + 1 < n → 8 ≤ w (j + 1) ∨ pw_rk (w j) < pw_rk (w (j + 1))) ∧ (pw_r0 w n : Int) = dp ∧ op ≤ (pw_o9 w n : Int) ∧ dp ≤ 5
theorem pw_rk_le (x : Int) : 0 ≤ pw_rk x ∧ pw_rk x ≤ 4 := by
  unfold pw_rk
  split
  · omega
  · split
    · omega
    · split
      · omega
      · split
        · omega
        · split <;> omega
theorem pw_rk8 {x : Int} (h : 8 ≤ x) : pw_rk x = 0 := by
  unfold pw_rk
  rw [if_neg (by omega), if_neg (by omega), if_neg (by omega), if_neg (by omega), if_neg (by omega)]
theorem pw_rk1 {x : Int} (h1 : 1 ≤ x) (h8 : ¬ 8 ≤ x) : 1 ≤ pw_rk x := by
  unfold pw_rk
  rw [if_neg (by omega)]
  split
  · omega
  · split
    · omega
    · split
      · omega
      · rw [if_pos (by omega)]; omega
theorem pw_Jle {w : Nat → Int} : ∀ n : Nat, (∀ j, j < n → 1 ≤ w j) → (∀ j, j + 1 < n → 8 ≤ w (j + 1) ∨ pw_rk (w j) < pw_rk (w (j + 1))) → (n : Int) ≤ 5 * (pw_r0 w n : Int) + 4 ∧ ∀ k, n = k + 1 → (n : Int) ≤ 5 * (pw_r0 w n : Int) + pw_rk (w k)
  | 0, _, _ => ⟨by show (0 : Int) ≤ 5 * ((0 : Nat) : Int) + 4; omega, fun k hk => by omega⟩
  | n + 1, ha, h => by
    obtain ⟨h1, h2⟩ := pw_Jle n (fun j hj => ha j (by omega)) (fun j hj => h j (by omega))
    have hr := pw_rk_le (w n)
    have key : ((n + 1 : Nat) : Int) ≤ 5 * (pw_r0 w (n + 1) : Int) + pw_rk (w n) := by
      show ((n + 1 : Nat) : Int) ≤ 5 * ((pw_r0 w n + (if 8 ≤ w n then 1 else 0) : Nat) : Int) + pw_rk (w n)
      by_cases h8 : 8 ≤ w n
      · rw [if_pos h8]
        omega
      · rw [if_neg h8]
        cases n with
        | zero =>
          have h0 := pw_rk1 (ha 0 (by omega)) h8
          omega
        | succ k =>
          have h3 := h2 k rfl
          have h4 := (h k (by omega)).resolve_left h8
          omega
    refine ⟨by omega, fun k hk => ?_⟩
    have : k = n := by omega
    subst this
    exact key
theorem pw_Jw.le {w : Nat → Int} {n : Nat} {dp op : Int} (h : pw_Jw w n dp op) : (n : Int) ≤ 29 := by
  have h1 := (pw_Jle n (fun j hj => (h.1 j hj).1) h.2.1).1
  have h3 := h.2.2.1
  have h5 := h.2.2.2.2
  omega
theorem pw_o9_le (w : Nat → Int) : ∀ n, pw_o9 w n ≤ n
  | 0 => Nat.le_refl 0
  | n + 1 => by
    have := pw_o9_le w n
    show pw_o9 w n + (if w n = 9 then 1 else 0) ≤ n + 1
    split <;> omega
theorem pw_Jw.pos {w : Nat → Int} {n : Nat} {dp op : Int} (h : pw_Jw w n dp op) (ho : 0 < op) : 0 < n := by
  have h1 := pw_o9_le w n
  have h2 := h.2.2.2.1
  omega
theorem pw_r0_congr {w w' : Nat → Int} : ∀ n, (∀ j, j < n → w' j = w j) → pw_r0 w' n = pw_r0 w n ∧ pw_o9 w' n = pw_o9 w n
  | 0, _ => ⟨rfl, rfl⟩
  | n + 1, h => by
    obtain ⟨h1, h2⟩ := pw_r0_congr n (fun j hj => h j (by omega))
    refine ⟨?_, ?_⟩
    · show pw_r0 w' n + (if 8 ≤ w' n then 1 else 0) = pw_r0 w n + (if 8 ≤ w n then 1 else 0)
      rw [h1, h n (by omega)]
    · show pw_o9 w' n + (if w' n = 9 then 1 else 0) = pw_o9 w n + (if w n = 9 then 1 else 0)
      rw [h2, h n (by omega)]
theorem pw_Jw.congr {w w' : Nat → Int} {n : Nat} {dp op : Int} (h : pw_Jw w n dp op) (hw : ∀ j, j < n → w' j = w j) : pw_Jw w' n dp op := by
  obtain ⟨h1, h2, h3, h4, h5⟩ := h
  obtain ⟨e1, e2⟩ := pw_r0_congr n hw
  refine ⟨fun j hj => by rw [hw j hj]; exact h1 j hj, fun j hj => ?_, by rw [e1]; exact h3, by rw [e2]; exact h4, h5⟩
  rw [hw j (by omega), hw (j + 1) hj]
  exact h2 j hj
/-- the topmost goes -/
theorem pw_Jw.pop {w : Nat → Int} {n : Nat} {dp op : Int} (h : pw_Jw w (n + 1) dp op) : (w n < 8 → pw_Jw w n dp op) ∧ (w n = 8 → pw_Jw w n (dp - 1) op) ∧ (8 ≤ w n → pw_Jw w n (dp - 1) (op - 1)) := by
  obtain ⟨h1, h2, h3, h4, h5⟩ := h
  have h3 : ((pw_r0 w n + (if 8 ≤ w n then 1 else 0) : Nat) : Int) = dp := h3
  have h4 : op ≤ ((pw_o9 w n + (if w n = 9 then 1 else 0) : Nat) : Int) := h4
  have g1 : ∀ j, j < n → 1 ≤ w j ∧ w j ≤ 9 := fun j hj => h1 j (by omega)
  have g2 : ∀ j, j + 1 < n → 8 ≤ w (j + 1) ∨ pw_rk (w j) < pw_rk (w (j + 1)) := fun j hj => h2 j (by omega)
  refine ⟨fun hw => ?_, fun hw => ?_, fun hw => ?_⟩
  · rw [if_neg (by omega)] at h3
    rw [if_neg (by omega)] at h4
    exact ⟨g1, g2, by omega, by omega, h5⟩
  · rw [if_pos (by omega)] at h3
    rw [if_neg (by omega)] at h4
    exact ⟨g1, g2, by omega, by omega, by omega⟩
  · rw [if_pos hw] at h3
    refine ⟨g1, g2, by omega, ?_, by omega⟩
    split at h4 <;> omega
/-- one more -/
theorem pw_Jw.push {w w' : Nat → Int} {n : Nat} {dp op x : Int} (h : pw_Jw w n dp op) (hw : ∀ j, j < n → w' j = w j) (hx : w' n = x) (h1 : 1 ≤ x) (h9 : x ≤ 9) (hr : 8 ≤ x ∨ ∀ k, n = k + 1 → pw_rk (w k) < pw_rk x) (hd : 8 ≤ x → dp ≤ 4) : pw_Jw w' (n + 1) (dp + if 8 ≤ x then 1 else 0) (op + if x = 9 then 1 else 0) := by
  obtain ⟨g1, g2, g3, g4, g5⟩ := h.congr hw
  refine ⟨fun j hj => ?_, fun j hj => ?_, ?_, ?_, ?_⟩
  · by_cases hj2 : j = n
    · subst hj2; rw [hx]; exact ⟨h1, h9⟩
    · exact g1 j (by omega)
  · by_cases hj2 : j + 1 = n
    · rw [hj2, hx, hw j (by omega)]
      rcases hr with hr | hr
      · exact Or.inl hr
      · exact Or.inr (hr j hj2.symm)
    · exact g2 j (by omega)
  · show ((pw_r0 w' n + (if 8 ≤ w' n then 1 else 0) : Nat) : Int) = _
    rw [hx]
    split <;> omega
  · show _ ≤ ((pw_o9 w' n + (if w' n = 9 then 1 else 0) : Nat) : Int)
    rw [hx]
    split <;> omega
  · split
    · have := hd (by assumption); omega
    · omega
theorem pw_Jw0 (w : Nat → Int) : pw_Jw w 0 0 0 := ⟨fun j hj => by omega, fun j hj => by omega, rfl, by show (0 : Int) ≤ ((0 : Nat) : Int); omega, by omega⟩
end
section
/-! a run under less of X is a run under more -/
def pm_ms (f : pm_S) : Prop := ∀ (K K' : Nat → pm_L → List Value → pm_R), (∀ q ls st o, K q ls st = some o → K' q ls st = some o) → ∀ (pc len : Nat) (ls : pm_L) (st : List Value) (o : pm_H × (Option Value ⊕ Unit)), f K pc len ls st = some o → f K' pc len ls st = some o
theorem pm_cnd_m {b : Bool} {A B A' B' : pm_R} {o : pm_H × (Option Value ⊕ Unit)} (h1 : A = some o → A' = some o) (h2 : B = some o → B' = some o) (h : cond b A B = some o) : cond b A' B' = some o := by
  cases b with
  | true => exact h1 h
  | false => exact h2 h
theorem pm_nn {A : pm_R} {o : pm_H × (Option Value ⊕ Unit)} (h : (none : pm_R) = some o) : A = some o := nomatch h
theorem pm_fn_m {n : Nat} {K K' : Nat → pm_R} {o : pm_H × (Option Value ⊕ Unit)} (hK : ∀ q, K q = some o → K' q = some o) (h : pm_fn n K = some o) : pm_fn n K' = some o := by
  rw [pm_fn_eq] at h ⊢
  exact hK _ h
theorem pm_fi_m {n : Int32} {K K' : Int32 → pm_R} {o : pm_H × (Option Value ⊕ Unit)} (hK : ∀ q, K q = some o → K' q = some o) (h : pm_fi n K = some o) : pm_fi n K' = some o := by
  rw [pm_fi_eq] at h ⊢
  exact hK _ h
theorem pm_fl_m {n : Int64} {K K' : Int64 → pm_R} {o : pm_H × (Option Value ⊕ Unit)} (hK : ∀ q, K q = some o → K' q = some o) (h : pm_fl n K = some o) : pm_fl n K' = some o := by
  rw [pm_fl_eq] at h ⊢
  exact hK _ h
theorem pm_to_m {z : Int} {K K' : Nat → pm_R} {o : pm_H × (Option Value ⊕ Unit)} (hK : ∀ q, K q = some o → K' q = some o) (h : pm_to z K = some o) : pm_to z K' = some o := by
  unfold pm_to at h ⊢
  cases z with
  | ofNat t => exact pm_fn_m hK h
  | negSucc t => exact pm_nn h
theorem pm_mC (v : Value) : pm_ms (pm_sC v) := by
  intro K K' hK pc len ls st o h
  unfold pm_sC at h ⊢
  exact (pm_fn_m fun q => hK _ _ _ _) h
theorem pm_mIld (k : Nat) : pm_ms (pm_sIld k) := by
  intro K K' hK pc len ls st o h
  unfold pm_sIld at h ⊢
  split at h
  · exact (pm_fn_m fun q => hK _ _ _ _) h
  · exact pm_nn h
theorem pm_mLld (k : Nat) : pm_ms (pm_sLld k) := by
  intro K K' hK pc len ls st o h
  unfold pm_sLld at h ⊢
  split at h
  · exact (pm_fn_m fun q => hK _ _ _ _) h
  · exact pm_nn h
theorem pm_mAld (k : Nat) : pm_ms (pm_sAld k) := by
  intro K K' hK pc len ls st o h
  unfold pm_sAld at h ⊢
  split at h
  · exact (pm_fn_m fun q => hK _ _ _ _) h
  · exact pm_nn h
theorem pm_mIst (k : Nat) : pm_ms (pm_sIst k) := by
  intro K K' hK pc len ls st o h
  unfold pm_sIst at h ⊢
  split at h
  · exact pm_cnd_m (pm_fi_m fun y => pm_fn_m fun q => hK _ _ _ _) pm_nn h
  · exact pm_nn h
theorem pm_mLst (k : Nat) : pm_ms (pm_sLst k) := by
  intro K K' hK pc len ls st o h
  unfold pm_sLst at h ⊢
  split at h
  · exact pm_cnd_m (pm_fl_m fun y => pm_fn_m fun q => hK _ _ _ _) pm_nn h
  · exact pm_nn h
theorem pm_mAst (k : Nat) : pm_ms (pm_sAst k) := by
  intro K K' hK pc len ls st o h
  unfold pm_sAst at h ⊢
  split at h
  · exact pm_cnd_m (pm_fn_m fun q => hK _ _ _ _) pm_nn h
  · exact pm_nn h
theorem pm_mInc (k : Nat) (n : Int) : pm_ms (pm_sInc k n) := by
  intro K K' hK pc len ls st o h
  unfold pm_sInc at h ⊢
  split at h
  · exact pm_cnd_m (pm_fi_m fun y => pm_fn_m fun q => hK _ _ _ _) pm_nn h
  · exact pm_nn h
theorem pm_mII (f : Int32 → Int32 → Int32) : pm_ms (pm_sII f) := by
  intro K K' hK pc len ls st o h
  unfold pm_sII at h ⊢
  split at h
  · exact (pm_fn_m fun q => hK _ _ _ _) h
  · exact pm_nn h
theorem pm_mI (f : Int32 → Int32) : pm_ms (pm_sI f) := by
  intro K K' hK pc len ls st o h
  unfold pm_sI at h ⊢
  split at h
  · exact (pm_fn_m fun q => hK _ _ _ _) h
  · exact pm_nn h
theorem pm_mLL (f : Int64 → Int64 → Int64) : pm_ms (pm_sLL f) := by
  intro K K' hK pc len ls st o h
  unfold pm_sLL at h ⊢
  split at h
  · exact (pm_fn_m fun q => hK _ _ _ _) h
  · exact pm_nn h
theorem pm_mLI (f : Int64 → Int32 → Int64) : pm_ms (pm_sLI f) := by
  intro K K' hK pc len ls st o h
  unfold pm_sLI at h ⊢
  split at h
  · exact (pm_fn_m fun q => hK _ _ _ _) h
  · exact pm_nn h
theorem pm_mL (f : Int64 → Int64) : pm_ms (pm_sL f) := by
  intro K K' hK pc len ls st o h
  unfold pm_sL at h ⊢
  split at h
  · exact (pm_fn_m fun q => hK _ _ _ _) h
  · exact pm_nn h
theorem pm_mIL (f : Int32 → Int64) : pm_ms (pm_sIL f) := by
  intro K K' hK pc len ls st o h
  unfold pm_sIL at h ⊢
  split at h
  · exact (pm_fn_m fun q => hK _ _ _ _) h
  · exact pm_nn h
theorem pm_mLi (f : Int64 → Int32) : pm_ms (pm_sLi f) := by
  intro K K' hK pc len ls st o h
  unfold pm_sLi at h ⊢
  split at h
  · exact (pm_fn_m fun q => hK _ _ _ _) h
  · exact pm_nn h
theorem pm_mIIz (f : Int32 → Int32 → Int32) : pm_ms (pm_sIIz f) := by
  intro K K' hK pc len ls st o h
  unfold pm_sIIz at h ⊢
  split at h
  · exact pm_cnd_m pm_nn (pm_fn_m fun q => hK _ _ _ _) h
  · exact pm_nn h
theorem pm_mLLz (f : Int64 → Int64 → Int64) : pm_ms (pm_sLLz f) := by
  intro K K' hK pc len ls st o h
  unfold pm_sLLz at h ⊢
  split at h
  · exact pm_cnd_m pm_nn (pm_fn_m fun q => hK _ _ _ _) h
  · exact pm_nn h
theorem pm_mCmp : pm_ms (pm_sCmp) := by
  intro K K' hK pc len ls st o h
  unfold pm_sCmp at h ⊢
  split at h
  · exact (pm_fn_m fun q => hK _ _ _ _) h
  · exact pm_nn h
theorem pm_mDup : pm_ms (pm_sDup) := by
  intro K K' hK pc len ls st o h
  unfold pm_sDup at h ⊢
  split at h
  · exact pm_cnd_m (pm_fn_m fun q => hK _ _ _ _) pm_nn h
  · exact pm_nn h
theorem pm_mPop : pm_ms (pm_sPop) := by
  intro K K' hK pc len ls st o h
  unfold pm_sPop at h ⊢
  split at h
  · exact pm_cnd_m (pm_fn_m fun q => hK _ _ _ _) pm_nn h
  · exact pm_nn h
theorem pm_mPop2 : pm_ms (pm_sPop2) := by
  intro K K' hK pc len ls st o h
  unfold pm_sPop2 at h ⊢
  split at h
  · exact pm_cnd_m (pm_fn_m fun q => hK _ _ _ _) pm_nn h
  · exact pm_nn h
theorem pm_mIf (c : ClassFile.Cond) (off : Int) : pm_ms (pm_sIf c off) := by
  intro K K' hK pc len ls st o h
  unfold pm_sIf at h ⊢
  split at h
  · exact pm_to_m (fun t => pm_cnd_m (hK _ _ _ _) (pm_fn_m fun q => hK _ _ _ _)) h
  · exact pm_nn h
theorem pm_mIf2 (c : ClassFile.Cond) (off : Int) : pm_ms (pm_sIf2 c off) := by
  intro K K' hK pc len ls st o h
  unfold pm_sIf2 at h ⊢
  split at h
  · exact pm_to_m (fun t => pm_cnd_m (hK _ _ _ _) (pm_fn_m fun q => hK _ _ _ _)) h
  · exact pm_nn h
theorem pm_mGo (off : Int) : pm_ms (pm_sGo off) := by
  intro K K' hK pc len ls st o h
  unfold pm_sGo at h ⊢
  exact pm_to_m (fun t => hK _ _ _ _) h
theorem pm_tsw_m {x lo hi dflt : Int} {offs : Array Int} {K K' : Int → pm_R} {o : pm_H × (Option Value ⊕ Unit)} (hK : ∀ q, K q = some o → K' q = some o) (h : pm_tsw x lo hi dflt offs K = some o) : pm_tsw x lo hi dflt offs K' = some o := by
  unfold pm_tsw at h ⊢
  by_cases hc : x < lo ∨ hi < x
  · rw [if_pos hc] at h ⊢
    exact hK _ h
  · rw [if_neg hc] at h ⊢
    split at h
    · exact hK _ h
    · exact pm_nn h
theorem pm_mTsw (d : Int) (lo : Int) (hi : Int) (offs : Array Int) : pm_ms (pm_sTsw d lo hi offs) := by
  intro K K' hK pc len ls st o h
  unfold pm_sTsw at h ⊢
  split at h
  · exact pm_tsw_m (fun t => pm_to_m fun u => hK _ _ _ _) h
  · exact pm_nn h
theorem pm_mLsw (d : Int) (ps : Array (Int × Int)) : pm_ms (pm_sLsw d ps) := by
  intro K K' hK pc len ls st o h
  unfold pm_sLsw at h ⊢
  split at h
  · exact pm_cnd_m (pm_to_m fun u => hK _ _ _ _) pm_nn h
  · exact pm_nn h
def pm_lei (ih ih' : pm_I) : Prop := ∀ d h m pc ls st o, ih d h m pc ls st = some o → ih' d h m pc ls st = some o
def pm_mg (g g' : pm_G) : Prop := ∀ (ih ih' : pm_I), pm_lei ih ih' → ∀ (d : Nat) (h : pm_H) (m own pc len : Nat) (ls : pm_L) (st : List Value) (o : pm_H × (Option Value ⊕ Unit)), g ih d h m own pc len ls st = some o → g' ih' d h m own pc len ls st = some o
theorem pm_mLift {f : pm_S} (hf : pm_ms f) : pm_mg (pm_lift f) (pm_lift f) := fun ih ih' hi d h m own pc len ls st o hr => hf _ _ (fun q ls st o => hi d h m q ls st o) pc len ls st o hr
/-- the same but for the script's place, which can't be read there -/
def pm_leX (X X' : List (Nat × List Value)) : Prop := (∀ a : Nat, a ≠ 0 → X'[a]? = X[a]?) ∧ X[0]? = some (99, [])
theorem pm_leX.row {X X' : List (Nat × List Value)} (hX : pm_leX X X') {h : pm_H} {a : Nat} {q : Nat × List Value} (hr : pm_row X h a = some q) : pm_row X' h a = some q := by
  unfold pm_row at hr ⊢
  refine Eq.trans ?_ hr
  cases hb : Nat.blt a 16 with
  | false => rfl
  | true =>
    rw [hb, cond_true] at hr
    rw [cond_true, cond_true, pm_nth_eq, pm_nth_eq]
    by_cases h0 : a = 0
    · subst h0
      rw [pm_nth_eq, hX.2] at hr
      cases hr
    · rw [hX.1 a h0]
theorem pm_leX.sx {X X' : List (Nat × List Value)} (hX : pm_leX X X') (a : Nat) : pm_sx X' a = pm_sx X a := by
  unfold pm_sx
  cases hb : (Nat.ble 4 a && Nat.blt a 12) with
  | false => rfl
  | true =>
    rw [Bool.and_eq_true] at hb
    have := Nat.le_of_ble_eq_true hb.1
    rw [cond_true, cond_true, pm_nth_eq, pm_nth_eq, hX.1 a (by omega)]
theorem pm_mgLdc (ix : Nat) : pm_mg (pm_gLdc ix) (pm_gLdc ix) := by
  intro ih ih' hi d h m own pc len ls st o hr
  unfold pm_gLdc at hr ⊢
  split at hr
  · exact (pm_fn_m fun q => hi _ _ _ _ _ _ _) hr
  · exact (pm_fn_m fun q => hi _ _ _ _ _ _ _) hr
  · exact pm_nn hr
theorem pm_mgLdw (ix : Nat) : pm_mg (pm_gLdw ix) (pm_gLdw ix) := by
  intro ih ih' hi d h m own pc len ls st o hr
  unfold pm_gLdw at hr ⊢
  split at hr
  · exact (pm_fn_m fun q => hi _ _ _ _ _ _ _) hr
  · exact pm_nn hr
theorem pm_mgLd2 (ix : Nat) : pm_mg (pm_gLd2 ix) (pm_gLd2 ix) := by
  intro ih ih' hi d h m own pc len ls st o hr
  unfold pm_gLd2 at hr ⊢
  split at hr
  · exact (pm_fn_m fun q => hi _ _ _ _ _ _ _) hr
  · exact pm_nn hr
theorem pm_mgSta (ix : Nat) : pm_mg (pm_gSta ix) (pm_gSta ix) := by
  intro ih ih' hi d h m own pc len ls st o hr
  unfold pm_gSta at hr ⊢
  split at hr
  · exact (pm_fn_m fun q => hi _ _ _ _ _ _ _) hr
  · exact pm_nn hr
theorem pm_mgGet (ix : Nat) : pm_mg (pm_gGet ix) (pm_gGet ix) := by
  intro ih ih' hi d h m own pc len ls st o hr
  unfold pm_gGet at hr ⊢
  split at hr
  · split at hr
    · refine pm_cnd_m (fun hr => ?_) pm_nn hr
      split at hr
      · exact (pm_fn_m fun q => hi _ _ _ _ _ _ _) hr
      · exact pm_nn hr
    · exact pm_nn hr
  · exact pm_nn hr
theorem pm_fv_m {n : Value} {K K' : Value → pm_R} {o : pm_H × (Option Value ⊕ Unit)} (hK : ∀ q, K q = some o → K' q = some o) (h : pm_fv n K = some o) : pm_fv n K' = some o := by
  rw [pm_fv_eq] at h ⊢
  exact hK _ h
theorem pm_mgPut (ix : Nat) : pm_mg (pm_gPut ix) (pm_gPut ix) := by
  intro ih ih' hi d h m own pc len ls st o hr
  unfold pm_gPut at hr ⊢
  split at hr
  · split at hr
    · exact pm_cnd_m (pm_cnd_m (pm_cnd_m (pm_fv_m fun v => pm_fn_m fun q => hi _ _ _ _ _ _ _) pm_nn) pm_nn) pm_nn hr
    · exact pm_nn hr
  · exact pm_nn hr
theorem pm_mgNew {X X' : List (Nat × List Value)} (hX : pm_leX X X') (ix : Nat) : pm_mg (pm_gNew X ix) (pm_gNew X' ix) := by
  intro ih ih' hi d h m own pc len ls st o hr
  unfold pm_gNew at hr ⊢
  split at hr
  · rw [pm_nth_eq] at hr ⊢
    rw [hX.1 _ (by omega)]
    split at hr
    · exact pm_cnd_m (pm_fn_m fun z => pm_fn_m fun q => hi _ _ _ _ _ _ _) pm_nn hr
    · exact pm_nn hr
  · exact hr
  · exact pm_nn hr
theorem pm_mgNwa (t : ArrayType) : pm_mg (pm_gNwa t) (pm_gNwa t) := by
  intro ih ih' hi d h m own pc len ls st o hr
  unfold pm_gNwa at hr ⊢
  split at hr
  · exact pm_cnd_m pm_nn (pm_cnd_m (pm_cnd_m (pm_fn_m fun z => pm_fn_m fun q => hi _ _ _ _ _ _ _) pm_nn) pm_nn) hr
  · exact pm_nn hr
theorem pm_mgAnw (ix : Nat) : pm_mg (pm_gAnw ix) (pm_gAnw ix) := by
  intro ih ih' hi d h m own pc len ls st o hr
  unfold pm_gAnw at hr ⊢
  split at hr
  · exact pm_cnd_m pm_nn (pm_cnd_m (pm_fn_m fun z => pm_fn_m fun q => hi _ _ _ _ _ _ _) pm_nn) hr
  · exact pm_nn hr
theorem pm_mgLen {X X' : List (Nat × List Value)} (hX : pm_leX X X') : pm_mg (pm_gLen X) (pm_gLen X') := by
  intro ih ih' hi d h m own pc len ls st o hr
  unfold pm_gLen at hr ⊢
  split at hr
  · split at hr
    · rename_i hrow
      rw [hX.row hrow]
      exact pm_cnd_m (pm_fn_m fun z => pm_fn_m fun q => hi _ _ _ _ _ _ _) pm_nn hr
    · exact pm_nn hr
  · exact pm_nn hr
theorem pm_mgAld {X X' : List (Nat × List Value)} (hX : pm_leX X X') (t : Nat) (t1 : Nat) : pm_mg (pm_gAld X t t1) (pm_gAld X' t t1) := by
  intro ih ih' hi d h m own pc len ls st o hr
  unfold pm_gAld at hr ⊢
  split at hr
  · split at hr
    · rename_i hrow
      rw [hX.row hrow]
      refine pm_cnd_m (pm_cnd_m pm_nn fun hr => ?_) pm_nn hr
      split at hr
      · exact (pm_fn_m fun q => hi _ _ _ _ _ _ _) hr
      · exact pm_nn hr
    · exact pm_nn hr
  · exact pm_nn hr
theorem pm_mgLald {X X' : List (Nat × List Value)} (hX : pm_leX X X') : pm_mg (pm_gLald X) (pm_gLald X') := by
  intro ih ih' hi d h m own pc len ls st o hr
  unfold pm_gLald at hr ⊢
  split at hr
  · split at hr
    · rename_i hrow
      rw [hX.row hrow]
      refine pm_cnd_m (pm_cnd_m pm_nn fun hr => ?_) pm_nn hr
      split at hr
      · exact (pm_fn_m fun q => hi _ _ _ _ _ _ _) hr
      · exact pm_nn hr
    · exact pm_nn hr
  · exact pm_nn hr
theorem pm_mgAald : pm_mg (pm_gAald) (pm_gAald) := by
  intro ih ih' hi d h m own pc len ls st o hr
  unfold pm_gAald at hr ⊢
  split at hr
  · split at hr
    · refine pm_cnd_m (pm_cnd_m pm_nn fun hr => ?_) pm_nn hr
      split at hr
      · exact (pm_fn_m fun q => hi _ _ _ _ _ _ _) hr
      · exact pm_nn hr
    · exact pm_nn hr
  · exact pm_nn hr
theorem pm_mgIst (t : Nat) (f : Int32 → Int32) : pm_mg (pm_gIst t f) (pm_gIst t f) := by
  intro ih ih' hi d h m own pc len ls st o hr
  unfold pm_gIst at hr ⊢
  split at hr
  · split at hr
    · exact pm_cnd_m (pm_cnd_m (pm_fi_m fun y => pm_fn_m fun q => hi _ _ _ _ _ _ _) pm_nn) pm_nn hr
    · exact pm_nn hr
  · exact pm_nn hr
theorem pm_mgLst : pm_mg (pm_gLst) (pm_gLst) := by
  intro ih ih' hi d h m own pc len ls st o hr
  unfold pm_gLst at hr ⊢
  split at hr
  · split at hr
    · exact pm_cnd_m (pm_cnd_m (pm_fl_m fun y => pm_fn_m fun q => hi _ _ _ _ _ _ _) pm_nn) pm_nn hr
    · exact pm_nn hr
  · exact pm_nn hr
theorem pm_mgAst : pm_mg (pm_gAst) (pm_gAst) := by
  intro ih ih' hi d h m own pc len ls st o hr
  unfold pm_gAst at hr ⊢
  split at hr
  · split at hr
    · exact pm_cnd_m (pm_cnd_m (pm_fn_m fun q => hi _ _ _ _ _ _ _) pm_nn) pm_nn hr
    · exact pm_nn hr
  · exact pm_nn hr
theorem pm_mgRet (lo : Nat) (hi : Nat) : pm_mg (pm_gRet lo hi) (pm_gRet lo hi) := by
  intro ih ih' hii d h m own pc len ls st o hr
  unfold pm_gRet at hr ⊢
  exact hr
theorem pm_mgRtv : pm_mg (pm_gRtv) (pm_gRtv) := by
  intro ih ih' hi d h m own pc len ls st o hr
  unfold pm_gRtv at hr ⊢
  exact hr
theorem pm_mPrim {X X' : List (Nat × List Value)} (hX : pm_leX X X') {f : Nat} {K K' : pm_H → List Value → pm_R} {h : pm_H} {st : List Value} {o : pm_H × (Option Value ⊕ Unit)} (hK : ∀ h1 st1, K h1 st1 = some o → K' h1 st1 = some o) (hr : pm_prim X f K h st = some o) : pm_prim X' f K' h st = some o := by
  unfold pm_prim at hr ⊢
  split at hr
  · unfold pm_p0 at hr ⊢
    split at hr
    · exact hK _ _ hr
    · exact pm_nn hr
  · unfold pm_p1 at hr ⊢
    split at hr
    · exact hK _ _ hr
    · exact pm_nn hr
  · unfold pm_p2 at hr ⊢
    split at hr
    · exact hK _ _ hr
    · exact pm_nn hr
  · unfold pm_p3 at hr ⊢
    split at hr
    · exact hK _ _ hr
    · exact pm_nn hr
  · unfold pm_p4 at hr ⊢
    split at hr
    · exact hK _ _ hr
    · exact pm_nn hr
  · unfold pm_p5 at hr ⊢
    split at hr
    · split at hr
      · rename_i hrow hc
        rw [hX.row hrow, hc]
        exact pm_cnd_m (hK _ _) pm_nn hr
      · exact pm_nn hr
    · exact pm_nn hr
  · unfold pm_p6 at hr ⊢
    split at hr
    · split at hr
      · exact pm_cnd_m (hK _ _) pm_nn hr
      · exact pm_nn hr
    · exact pm_nn hr
  · exact pm_nn hr
theorem pm_mStr {X X' : List (Nat × List Value)} (hX : pm_leX X X') {f : Nat} {K K' : pm_H → List Value → pm_R} {h : pm_H} {st : List Value} {o : pm_H × (Option Value ⊕ Unit)} (hK : ∀ h1 st1, K h1 st1 = some o → K' h1 st1 = some o) (hr : pm_str X f K h st = some o) : pm_str X' f K' h st = some o := by
  unfold pm_str at hr ⊢
  split at hr
  · unfold pm_t7 at hr ⊢
    split at hr
    · rw [hX.sx]
      split at hr
      · exact pm_fn_m (fun q => hK _ _) hr
      · exact pm_nn hr
    · exact pm_nn hr
  · unfold pm_t8 at hr ⊢
    split at hr
    · rw [hX.sx]
      split at hr
      · refine pm_cnd_m pm_nn (fun hr => ?_) hr
        split at hr
        · exact hK _ _ hr
        · exact pm_nn hr
      · exact pm_nn hr
    · exact pm_nn hr
  · unfold pm_t9 at hr ⊢
    split at hr
    · rw [hX.sx]
      split at hr
      · exact hK _ _ hr
      · exact pm_nn hr
    · exact pm_nn hr
  · exact pm_nn hr
theorem pm_mCall {ih ih' : pm_I} (hi : pm_lei ih ih') {d : Nat} {h : pm_H} {m pc : Nat} {ls : pm_L} {m' : Nat} {As rest : List Value} {hnd : Bool} {o : pm_H × (Option Value ⊕ Unit)} (hr : pm_call ih d h m pc ls m' As rest hnd = some o) : pm_call ih' d h m pc ls m' As rest hnd = some o := by
  unfold pm_call at hr ⊢
  split at hr
  · exact pm_nn hr
  · split at hr
    · exact pm_nn hr
    · refine pm_cnd_m (fun hr => ?_) pm_nn hr
      split at hr
      · rename_i hrun
        rw [hi _ _ _ _ _ _ _ hrun]
        exact pm_fn_m (fun q => hi _ _ _ _ _ _ _) hr
      · rename_i hrun
        rw [hi _ _ _ _ _ _ _ hrun]
        exact hr
      · exact pm_nn hr
theorem pm_mgInv {X X' : List (Nat × List Value)} (hX : pm_leX X X') (how ix : Nat) : pm_mg (pm_gInv X how ix) (pm_gInv X' how ix) := by
  intro ih ih' hi d h m own pc len ls st o hr
  unfold pm_gInv at hr ⊢
  split at hr
  · refine pm_cnd_m (pm_cnd_m (pm_mPrim hX fun h1 st1 => pm_cnd_m (pm_fn_m fun q => hi _ _ _ _ _ _ _) pm_nn) pm_nn) (pm_cnd_m (pm_cnd_m (pm_mStr hX fun h1 st1 => pm_cnd_m (pm_fn_m fun q => hi _ _ _ _ _ _ _) pm_nn) pm_nn) fun hr => ?_) hr
    split at hr
    · refine pm_cnd_m (pm_cnd_m (fun hr => ?_) (pm_cnd_m (pm_cnd_m (pm_mCall hi) pm_nn) pm_nn)) pm_nn hr
      unfold pm_gC at hr ⊢
      split at hr
      · split at hr
        · split at hr
          · exact pm_cnd_m (pm_mCall hi) pm_nn hr
          · exact pm_nn hr
        · exact pm_nn hr
      · exact pm_mCall hi hr
      · split at hr
        · exact pm_mCall hi hr
        · exact pm_nn hr
      · exact pm_nn hr
    · exact pm_nn hr
  · exact pm_nn hr
theorem pm_mDsp {X X' : List (Nat × List Value)} (hX : pm_leX X X') (i : Instr) : pm_mg (pm_dsp X i) (pm_dsp X' i) := by
  cases i with
  | iconst n => exact pm_mLift (pm_mC _)
  | bipush n => exact pm_mLift (pm_mC _)
  | sipush n => exact pm_mLift (pm_mC _)
  | lconst n => exact pm_mLift (pm_mC _)
  | aload k => exact pm_mLift (pm_mAld _)
  | aload_n k => exact pm_mLift (pm_mAld _)
  | iload k => exact pm_mLift (pm_mIld _)
  | iload_n k => exact pm_mLift (pm_mIld _)
  | lload k => exact pm_mLift (pm_mLld _)
  | lload_n k => exact pm_mLift (pm_mLld _)
  | astore k => exact pm_mLift (pm_mAst _)
  | astore_n k => exact pm_mLift (pm_mAst _)
  | istore k => exact pm_mLift (pm_mIst _)
  | istore_n k => exact pm_mLift (pm_mIst _)
  | lstore k => exact pm_mLift (pm_mLst _)
  | lstore_n k => exact pm_mLift (pm_mLst _)
  | iinc k n => exact pm_mLift (pm_mInc _ _)
  | iadd => exact pm_mLift (pm_mII _)
  | isub => exact pm_mLift (pm_mII _)
  | imul => exact pm_mLift (pm_mII _)
  | iand => exact pm_mLift (pm_mII _)
  | ior => exact pm_mLift (pm_mII _)
  | ishl => exact pm_mLift (pm_mII _)
  | ishr => exact pm_mLift (pm_mII _)
  | iushr => exact pm_mLift (pm_mII _)
  | idiv => exact pm_mLift (pm_mIIz _)
  | irem => exact pm_mLift (pm_mIIz _)
  | ineg => exact pm_mLift (pm_mI _)
  | i2b => exact pm_mLift (pm_mI _)
  | i2c => exact pm_mLift (pm_mI _)
  | ladd => exact pm_mLift (pm_mLL _)
  | lsub => exact pm_mLift (pm_mLL _)
  | lmul => exact pm_mLift (pm_mLL _)
  | land => exact pm_mLift (pm_mLL _)
  | lor => exact pm_mLift (pm_mLL _)
  | ldiv => exact pm_mLift (pm_mLLz _)
  | lrem => exact pm_mLift (pm_mLLz _)
  | lneg => exact pm_mLift (pm_mL _)
  | lshl => exact pm_mLift (pm_mLI _)
  | lshr => exact pm_mLift (pm_mLI _)
  | lushr => exact pm_mLift (pm_mLI _)
  | lcmp => exact pm_mLift pm_mCmp
  | i2l => exact pm_mLift (pm_mIL _)
  | l2i => exact pm_mLift (pm_mLi _)
  | dup => exact pm_mLift pm_mDup
  | pop => exact pm_mLift pm_mPop
  | pop2 => exact pm_mLift pm_mPop2
  | ifCond c off => exact pm_mLift (pm_mIf _ _)
  | if_icmp c off => exact pm_mLift (pm_mIf2 _ _)
  | goto off => exact pm_mLift (pm_mGo _)
  | tableswitch a b c2 d => exact pm_mLift (pm_mTsw _ _ _ _)
  | lookupswitch a b => exact pm_mLift (pm_mLsw _ _)
  | ldc ix => exact pm_mgLdc _
  | ldc_w ix => exact pm_mgLdw _
  | ldc2_w ix => exact pm_mgLd2 _
  | getstatic ix => exact pm_mgSta _
  | getfield ix => exact pm_mgGet _
  | putfield ix => exact pm_mgPut _
  | new ix => exact pm_mgNew hX _
  | newarray t => exact pm_mgNwa _
  | anewarray ix => exact pm_mgAnw _
  | arraylength => exact pm_mgLen hX
  | iaload => exact pm_mgAld hX _ _
  | baload => exact pm_mgAld hX _ _
  | caload => exact pm_mgAld hX _ _
  | laload => exact pm_mgLald hX
  | aaload => exact pm_mgAald
  | iastore => exact pm_mgIst _ _
  | bastore => exact pm_mgIst _ _
  | castore => exact pm_mgIst _ _
  | lastore => exact pm_mgLst
  | aastore => exact pm_mgAst
  | invokestatic ix => exact pm_mgInv hX _ _
  | invokevirtual ix => exact pm_mgInv hX _ _
  | invokespecial ix => exact pm_mgInv hX _ _
  | ireturn => exact pm_mgRet _ _
  | lreturn => exact pm_mgRet _ _
  | areturn => exact pm_mgRet _ _
  | return_ => exact pm_mgRtv
  | _ => exact fun _ _ _ _ _ _ _ _ _ _ _ _ hr => nomatch (show (none : pm_R) = some _ from hr)
theorem pm_mX {X X' : List (Nat × List Value)} (hX : pm_leX X X') : ∀ n, pm_lei (pm_x X n) (pm_x X' n)
  | 0 => fun d h m pc ls st o hr => nomatch (show (none : pm_R) = some o from hr)
  | n + 1 => fun d h m pc ls st o hr => by
    have hr : pm_F X (pm_x X n) d h m pc ls st = some o := hr
    show pm_F X' (pm_x X' n) d h m pc ls st = some o
    unfold pm_F at hr ⊢
    split at hr
    · exact pm_nn hr
    · split at hr
      · exact pm_nn hr
      · exact pm_mDsp hX _ _ _ (pm_mX hX n) _ _ _ _ _ _ _ _ _ hr
end
section
/-! the heap behind both constructors: the kernel runs them, and looks at the table -/
noncomputable def pw_isi (v : Value) : Bool := match v with
  | .int _ => true
  | _ => false
noncomputable def pw_vkb (h : pm_H) (sp : pw_F) (v : Value) : Bool := match v with
  | .int x => Nat.beq sp.1 0 && (decide (sp.2.1 ≤ x.toInt) && decide (x.toInt ≤ sp.2.2))
  | .long x => Nat.beq sp.1 1 || (Nat.beq sp.1 4 && (decide (sp.2.1 ≤ x.toInt) && (decide (x.toInt ≤ sp.2.2) && (decide (-4611686018427387904 ≤ sp.2.1) && decide (sp.2.2 ≤ 4611686018427387904)))))
  | .ref a => (Nat.beq sp.1 2 && Nat.beq a sp.2.1.toNat) || (Nat.beq sp.1 3 && (Nat.ble 16 a && (match pm_nth h (a - 16) with
    | some (.inl q) => Nat.beq q.1 0 && (Nat.ble (pm_len q.2) 1000 && pm_all pw_isi q.2)
    | _ => false)))
  | _ => false
noncomputable def pw_veb (t : Nat) (lo hi : Int) (j : Nat) (v : Value) : Bool := match v with
  | .int x => Nat.blt t 3 && (decide (lo ≤ x.toInt) && decide (x.toInt ≤ hi))
  | .long _ => Nat.beq t 3
  | .ref a => Nat.ble 5 t && Nat.beq a (lo + hi * j).toNat
  | _ => false
noncomputable def pw_veL (t : Nat) (lo hi : Int) (l : List Value) : Nat → Bool := List.rec (fun _ => true) (fun v _ ih j => cond (pw_veb t lo hi j v) (ih (j + 1)) false) l
noncomputable def pw_vkL (h : pm_H) (l : List Value) : List pw_F → Bool := List.rec (fun sps => List.rec true (fun _ _ _ => false) sps) (fun v _ ih sps => List.rec false (fun sp r _ => cond (pw_vkb h sp v) (ih r) false) sps) l
noncomputable def pw_okb (h : pm_H) (s : pw_S) (q : pm_C) : Bool := match s, q with
  | .inl z, .inl y => Nat.beq y.1 z.1 && (Nat.beq (pm_len y.2) z.2.1 && pw_veL z.1 z.2.2.1 z.2.2.2 y.2 0)
  | .inr z, .inr y => Nat.beq y.1 z.1 && pw_vkL h y.2 z.2
  | _, _ => false
noncomputable def pw_Tb (h : pm_H) (T : List pw_S) : List pm_C → Bool := List.rec (fun _ => true) (fun s _ ih l => List.rec false (fun q r _ => cond (pw_okb h s q) (ih r) false) l) T
noncomputable def pw_Ib (h : pm_H) : Bool := pw_Tb h pw_T h && pm_scH h
theorem pw_veL_ok {t : Nat} {lo hi : Int} : ∀ (l : List Value) (i : Nat), pw_veL t lo hi l i = true → ∀ (j : Nat) (v : Value), l[j]? = some v → pw_veb t lo hi (i + j) v = true
  | [], i, _, j, v, hv => by simp at hv
  | a :: l, i, h, j, v, hv => by
    have h : cond (pw_veb t lo hi i a) (pw_veL t lo hi l (i + 1)) false = true := h
    cases hb : pw_veb t lo hi i a with
    | false => rw [hb] at h; cases h
    | true =>
      rw [hb, cond_true] at h
      cases j with
      | zero => cases hv; exact hb
      | succ j =>
        have := pw_veL_ok l (i + 1) h j v (by simpa using hv)
        rw [show i + (j + 1) = i + 1 + j by omega]
        exact this
theorem pw_vkL_ok {h : pm_H} : ∀ (l : List Value) (sps : List pw_F), pw_vkL h l sps = true → l.length = sps.length ∧ ∀ (k : Nat) (sp : pw_F) (v : Value), sps[k]? = some sp → l[k]? = some v → pw_vkb h sp v = true
  | [], [], _ => ⟨rfl, fun k sp v h1 h2 => by simp at h2⟩
  | [], _ :: _, hr => by cases hr
  | _ :: _, [], hr => by cases hr
  | a :: l, sp0 :: sps, hr => by
    have hr : cond (pw_vkb h sp0 a) (pw_vkL h l sps) false = true := hr
    cases hb : pw_vkb h sp0 a with
    | false => rw [hb] at hr; cases hr
    | true =>
      rw [hb, cond_true] at hr
      obtain ⟨e1, e2⟩ := pw_vkL_ok l sps hr
      refine ⟨by simp [e1], fun k sp v h1 h2 => ?_⟩
      cases k with
      | zero => cases h1; cases h2; exact hb
      | succ k => exact e2 k sp v (by simpa using h1) (by simpa using h2)
theorem pw_isi_ok {v : Value} (h : pw_isi v = true) : ∃ x : Int32, v = .int x := by
  cases v with
  | int x => exact ⟨x, rfl⟩
  | _ => cases h
theorem pw_int_i (x : Int32) : Value.int x = pw_i x.toInt ∧ -2147483648 ≤ x.toInt ∧ x.toInt ≤ 2147483647 := by
  refine ⟨by unfold pw_i; rw [Int32.ofInt_toInt], by have := x.le_toInt; omega, by have := x.toInt_lt; omega⟩
theorem pw_vkb_ok {h : pm_H} {sp : pw_F} {v : Value} (hb : pw_vkb h sp v = true) : pw_vk h sp v := by
  obtain ⟨k, lo, hi⟩ := sp
  cases v with
  | int x =>
    have hb : (Nat.beq k 0 && (decide (lo ≤ x.toInt) && decide (x.toInt ≤ hi))) = true := hb
    rw [Bool.and_eq_true, Bool.and_eq_true, decide_eq_true_eq, decide_eq_true_eq] at hb
    have hk := Nat.eq_of_beq_eq_true hb.1
    subst hk
    obtain ⟨e1, e2, e3⟩ := pw_int_i x
    exact ⟨x.toInt, e1, hb.2.1, hb.2.2, e2, e3⟩
  | long x =>
    have hb : (Nat.beq k 1 || (Nat.beq k 4 && (decide (lo ≤ x.toInt) && (decide (x.toInt ≤ hi) && (decide (-4611686018427387904 ≤ lo) && decide (hi ≤ 4611686018427387904)))))) = true := hb
    rw [Bool.or_eq_true] at hb
    rcases hb with hb | hb
    · have hk := Nat.eq_of_beq_eq_true hb
      subst hk
      exact ⟨x, rfl⟩
    · simp only [Bool.and_eq_true, decide_eq_true_eq] at hb
      have hk := Nat.eq_of_beq_eq_true hb.1
      subst hk
      refine ⟨x.toInt, ?_, hb.2.1, hb.2.2.1, by omega, by omega⟩
      unfold pw_l
      rw [Int64.ofInt_toInt]
  | ref a =>
    have hc : ((Nat.beq k 2 && Nat.beq a lo.toNat) || (Nat.beq k 3 && (Nat.ble 16 a && (match pm_nth h (a - 16) with
      | some (.inl q) => Nat.beq q.1 0 && (Nat.ble (pm_len q.2) 1000 && pm_all pw_isi q.2)
      | _ => false)))) = true := hb
    clear hb
    rw [Bool.or_eq_true] at hc
    rcases hc with hb | hb
    · rw [Bool.and_eq_true] at hb
      have hk := Nat.eq_of_beq_eq_true hb.1
      subst hk
      show Value.ref a = .ref lo.toNat
      rw [Nat.eq_of_beq_eq_true hb.2]
    · rw [Bool.and_eq_true, Bool.and_eq_true] at hb
      obtain ⟨hk0, h16, hm⟩ := hb
      have hk := Nat.eq_of_beq_eq_true hk0
      subst hk
      have h16 := Nat.le_of_ble_eq_true h16
      split at hm
      · rename_i q hq
        rw [pm_nth_eq] at hq
        simp only [Bool.and_eq_true] at hm
        obtain ⟨b1, b2, b3⟩ := hm
        rw [pm_len_eq] at b2
        rw [pm_all_eq, List.all_eq_true] at b3
        obtain ⟨q1, q2⟩ := q
        have b1 : q1 = 0 := Nat.eq_of_beq_eq_true b1
        subst b1
        refine ⟨a - 16, q2, congrArg Value.ref (Nat.add_sub_cancel' (n := a) (m := 16) h16).symm, hq, Nat.le_of_ble_eq_true b2, fun j v hv => pw_isi_ok (b3 v (List.mem_of_getElem? hv))⟩
      · cases hm
  | _ => cases hb
theorem pw_veb_ok {t : Nat} {lo hi : Int} {j : Nat} {v : Value} (hb : pw_veb t lo hi j v = true) : pw_ve t lo hi j v := by
  cases v with
  | int x =>
    have hb : (Nat.blt t 3 && (decide (lo ≤ x.toInt) && decide (x.toInt ≤ hi))) = true := hb
    rw [Bool.and_eq_true, Bool.and_eq_true, decide_eq_true_eq, decide_eq_true_eq] at hb
    have ht := pm_blt hb.1
    obtain ⟨e1, e2, e3⟩ := pw_int_i x
    match t, ht with
    | 0, _ => exact ⟨x.toInt, e1, hb.2.1, hb.2.2, e2, e3⟩
    | 1, _ => exact ⟨x.toInt, e1, hb.2.1, hb.2.2, e2, e3⟩
    | 2, _ => exact ⟨x.toInt, e1, hb.2.1, hb.2.2, e2, e3⟩
  | long x =>
    have hb : Nat.beq t 3 = true := hb
    have ht := Nat.eq_of_beq_eq_true hb
    subst ht
    exact ⟨x, rfl⟩
  | ref a =>
    have hb : (Nat.ble 5 t && Nat.beq a (lo + hi * j).toNat) = true := hb
    rw [Bool.and_eq_true] at hb
    have ht := Nat.le_of_ble_eq_true hb.1
    have ha := Nat.eq_of_beq_eq_true hb.2
    obtain ⟨t, rfl⟩ : ∃ u, t = u + 5 := ⟨t - 5, by omega⟩
    show Value.ref a = .ref (lo + hi * j).toNat
    rw [ha]
  | _ => cases hb
theorem pw_okb_ok {h : pm_H} {s : pw_S} {q : pm_C} (hb : pw_okb h s q = true) : pw_ok h s q := by
  match s, q, hb with
  | .inl (t, n, lo, hi), .inl (t', l), hb =>
    have hb : (Nat.beq t' t && (Nat.beq (pm_len l) n && pw_veL t lo hi l 0)) = true := hb
    rw [Bool.and_eq_true, Bool.and_eq_true, pm_len_eq] at hb
    refine ⟨Nat.eq_of_beq_eq_true hb.1, Nat.eq_of_beq_eq_true hb.2.1, fun j v hv => pw_veb_ok ?_⟩
    have := pw_veL_ok l 0 hb.2.2 j v hv
    rw [Nat.zero_add] at this
    exact this
  | .inr (ci, sps), .inr (cj, fs), hb =>
    have hb : (Nat.beq cj ci && pw_vkL h fs sps) = true := hb
    rw [Bool.and_eq_true] at hb
    obtain ⟨e1, e2⟩ := pw_vkL_ok fs sps hb.2
    exact ⟨Nat.eq_of_beq_eq_true hb.1, e1, fun k sp v g1 g2 => pw_vkb_ok (e2 k sp v g1 g2)⟩
  | .inl _, .inr _, hb => cases hb
  | .inr _, .inl _, hb => cases hb
theorem pw_Tb_ok {h : pm_H} : ∀ (T : List pw_S) (l : List pm_C), pw_Tb h T l = true → ∀ (c : Nat) (s : pw_S), T[c]? = some s → ∃ q, l[c]? = some q ∧ pw_ok h s q
  | [], _, _, c, s, hs => by simp at hs
  | _ :: _, [], hb, _, _, _ => by cases hb
  | s0 :: T, q0 :: l, hb, c, s, hs => by
    have hb : cond (pw_okb h s0 q0) (pw_Tb h T l) false = true := hb
    cases hz : pw_okb h s0 q0 with
    | false => rw [hz] at hb; cases hb
    | true =>
      rw [hz, cond_true] at hb
      cases c with
      | zero => cases hs; exact ⟨q0, rfl, pw_okb_ok hz⟩
      | succ c =>
        obtain ⟨q, h1, h2⟩ := pw_Tb_ok T l hb c s (by simpa using hs)
        exact ⟨q, by simpa using h1, h2⟩
theorem pw_Ib_ok {h : pm_H} (hb : pw_Ib h = true) : pw_I h := by
  have hb : (pw_Tb h pw_T h && pm_scH h) = true := hb
  rw [Bool.and_eq_true] at hb
  exact ⟨fun c s hs => pw_Tb_ok pw_T h hb.1 c s hs, hb.2⟩
/-- what is there at the start, the script's place shut -/
def pw_X0 : List (Nat × List Value) := (99, []) :: (pm_ext []).tail
theorem pw_X0_le (xs : List Int32) : pm_leX pw_X0 (pm_ext xs) := by
  refine ⟨fun a ha => ?_, rfl⟩
  cases a with
  | zero => exact absurd rfl ha
  | succ a => rfl
theorem pw_Xk0 : ∀ xs, pw_Xk (pm_ext xs) := by
  intro xs
  have key : ∀ (l : List Value) (lo hi : Int), l.all (fun v => match v with
      | .int x => decide (lo ≤ x.toInt) && decide (x.toInt ≤ hi)
      | _ => false) = true → pw_xr l lo hi := by
    intro l lo hi hl j v hv
    have := List.all_eq_true.mp hl v (List.mem_of_getElem? hv)
    cases v with
    | int x =>
      rw [Bool.and_eq_true, decide_eq_true_eq, decide_eq_true_eq] at this
      exact ⟨x.toInt, (pw_int_i x).1, this.1, this.2⟩
    | _ => cases this
  have ints : ∀ l : List Value, l.all pw_isi = true → pw_ints l := fun l hl j v hv => pw_isi_ok (List.all_eq_true.mp hl v (List.mem_of_getElem? hv))
  refine ⟨⟨_, rfl, rfl, key _ _ _ (by decide +kernel)⟩, ⟨_, rfl, rfl, key _ _ _ (by decide +kernel)⟩, ⟨_, rfl, rfl, key _ _ _ (by decide +kernel)⟩, fun p h1 h2 => ?_⟩
  match p, h1, h2 with
  | 4, _, _ => exact ⟨_, rfl, by decide, ints _ (by decide +kernel)⟩
  | 5, _, _ => exact ⟨_, rfl, by decide, ints _ (by decide +kernel)⟩
  | 6, _, _ => exact ⟨_, rfl, by decide, ints _ (by decide +kernel)⟩
  | 7, _, _ => exact ⟨_, rfl, by decide, ints _ (by decide +kernel)⟩
  | 8, _, _ => exact ⟨_, rfl, by decide, ints _ (by decide +kernel)⟩
  | 9, _, _ => exact ⟨_, rfl, by decide, ints _ (by decide +kernel)⟩
  | 10, _, _ => exact ⟨_, rfl, by decide, ints _ (by decide +kernel)⟩
  | 11, _, _ => exact ⟨_, rfl, by decide, ints _ (by decide +kernel)⟩
  | p + 12, _, h2 => omega
noncomputable def pw_tpl (ci : Nat) : List Value := match pm_nth pw_X0 (16 + ci) with
  | some q => q.2
  | none => []
end
section
/-! the Readers: what waits (printed by wip/tool/reader.py) -/
def pw_Xr (X : List (Nat × List Value)) : Prop := X[3]? = some (0, [pw_i 0, pw_i 1, pw_i 1, pw_i 2, pw_i 2, pw_i 3, pw_i 3, pw_i 4, pw_i 0, pw_i 0])
def pw_J (c c1 : Nat) (h : pm_H) (dp op : Int) : Prop := pw_Jw (fun j => pw_g h c1 j) (pw_g h c 4).toNat dp op
def pw_tr (c c1 : Nat) (h : pm_H) : Int := if pw_g h c 4 ≤ 0 then 0 else pw_rk (pw_g h c1 (pw_g h c 4 - 1).toNat)
theorem pw_tr0 {c c1 : Nat} {h : pm_H} (h0 : pw_g h c 4 ≤ 0) : pw_tr c c1 h = 0 := if_pos h0
theorem pw_tr1 {c c1 : Nat} {h : pm_H} {k : Nat} (h0 : pw_g h c 4 = (k : Int) + 1) : pw_tr c c1 h = pw_rk (pw_g h c1 k) := by
  unfold pw_tr
  rw [if_neg (by omega), show (pw_g h c 4 - 1).toNat = k by omega]
theorem pw_Jof {c c1 : Nat} {h h' : pm_H} {n : Nat} {dp op : Int} (J : pw_Jw (fun j => pw_g h c1 j) n dp op) (hw : ∀ j, pw_g h' c1 j = pw_g h c1 j) (hn : (pw_g h' c 4).toNat = n) : pw_J c c1 h' dp op := by
  unfold pw_J
  rw [hn]
  exact J.congr (fun j _ => hw j)
theorem pw_Jk {c c1 : Nat} {h : pm_H} {k : Nat} {dp op : Int} (J : pw_J c c1 h dp op) (hk : pw_g h c 4 = (k : Int) + 1) : pw_Jw (fun j => pw_g h c1 j) (k + 1) dp op := by
  have J : pw_Jw (fun j => pw_g h c1 j) (pw_g h c 4).toNat dp op := J
  rwa [show (pw_g h c 4).toNat = k + 1 by omega] at J
theorem pw_J.le {c c1 : Nat} {h : pm_H} {dp op : Int} (J : pw_J c c1 h dp op) : pw_g h c 4 ≤ 29 := by
  have h1 : (((pw_g h c 4).toNat : Nat) : Int) ≤ 29 := pw_Jw.le J
  omega
theorem pw_xaldR {X : List (Nat × List Value)} {d : Nat} {h : pm_H} {m pc pc' len na nl own rt : Nat} {C : pm_T (Instr × Nat)} {ls : pm_L} {r : List Value} {Q : pm_H → (Option Value ⊕ Unit) → Prop} {j : Int} (he : pm_ent m = some (na, nl, own, rt, C)) (hq : pm_get C pc = some (.iaload, len)) (hR : pw_Xr X) (h0 : 0 ≤ j) (h1 : j ≤ 9) (hc : pc + len = pc') (H : pw X d h m pc' ls (pw_i (pw_rk j) :: r) Q) : pw X d h m pc ls (pw_i j :: .ref 3 :: r) Q := by
  subst hc
  have hy : ([pw_i 0, pw_i 1, pw_i 1, pw_i 2, pw_i 2, pw_i 3, pw_i 3, pw_i 4, pw_i 0, pw_i 0] : List Value)[j.toNat]? = some (pw_i (pw_rk j)) := by
    have hj : j = 0 ∨ j = 1 ∨ j = 2 ∨ j = 3 ∨ j = 4 ∨ j = 5 ∨ j = 6 ∨ j = 7 ∨ j = 8 ∨ j = 9 := by omega
    rcases hj with rfl | rfl | rfl | rfl | rfl | rfl | rfl | rfl | rfl | rfl <;> rfl
  refine pw_ld he hq (st' := pw_i (pw_rk j) :: r) (pc' := pc + len) (fun ih => ?_) H
  show pm_gAld X 0 0 ih d h m own pc len ls (pw_i j :: .ref 3 :: r) = _
  have hrow : pm_row X h 3 = some (0, [pw_i 0, pw_i 1, pw_i 1, pw_i 2, pw_i 2, pw_i 3, pw_i 3, pw_i 4, pw_i 0, pw_i 0]) := by
    unfold pm_row
    rw [show Nat.blt 3 16 = true from rfl, cond_true, pm_nth_eq, hR]
    rfl
  rw [show (pw_i j : Value) = .int (Int32.ofInt j) from rfl]
  unfold pm_gAld
  dsimp only
  rw [hrow]
  show cond (Nat.beq 0 0 || Nat.beq 0 0) (cond (decide (Int32.ofInt j < 0)) none (match pm_nth [pw_i 0, pw_i 1, pw_i 1, pw_i 2, pw_i 2, pw_i 3, pw_i 3, pw_i 4, pw_i 0, pw_i 0] (Int32.ofInt j).toNatClampNeg with
        | some (.int x) => pm_fn (pc + len) fun q => ih d h m q ls (.int x :: r)
        | _ => none)) none = _
  rw [decide_eq_false (pw_neg h0 (by omega)), pw_clamp h0 (by omega), pm_nth_eq, hy]
  show pm_fn (pc + len) (fun q => ih d h m q ls (.int (Int32.ofInt (pw_rk j)) :: r)) = _
  rw [pm_fn_eq]
  rfl
theorem pw_g_eqA {h : pm_H} {c t n : Nat} {lo hi : Int} {j : Nat} {b : Int} (I : pw_I h) (hs : pw_T[c]? = some (.inl (t, n, lo, hi))) (hj : j < n) (h1 : -2147483648 ≤ b) (h2 : b ≤ 2147483647) : pw_g (pw_w h c j (pw_i b)) c j = b := by
  obtain ⟨l, e1, e2, -⟩ := pw_arr (c := c) I hs
  unfold pw_g
  rw [pw_at_w (by unfold pw_at; rw [e1]; show (l[j]?).isSome = true; rw [List.getElem?_eq_getElem (by omega)]; rfl), if_pos ⟨rfl, rfl⟩, pw_iv_i h1 h2]
set_option maxHeartbeats 4000000 in
theorem cm_71_30 {X : List (Nat × List Value)} {d : Nat} {h : pm_H} (hd : 1 ≤ d) (I : pw_I h) (li : Int) (hli1 : 0 ≤ li) (hli2 : li ≤ 3) (wd : Int) (hwd1 : (-2147483648) ≤ wd) (hwd2 : wd ≤ 2147483647) : pw X d h 71 0 [some (.ref 46), some (pw_i li), some (pw_i wd)] [] (fun h' v => pw_I h' ∧ pw_E [30, 33, 36] h h' ∧ (pw_g h' 30 1 ≤ pw_g h 30 1 + 1) ∧ (v = .inl none)) := by
  have E : pm_ent 71 = some (3, 3, 7, 4, pmc_71) := rfl
  have E0 : pw_E [30, 33, 36] h h := pw_E.rf _ _
  refine pw_ld E (pc' := 1) (st' := [.ref 46]) rfl (fun _ => rfl) ?_
  refine pw_getI2 I E (c := 30) (k := 1) (pc' := 4) rfl rfl rfl rfl rfl rfl (fun hf1a hf1b => ?_)
  refine pw_ld E (pc' := 5) (st' := [.ref 46, pw_i (pw_g h 30 1)]) rfl (fun _ => rfl) ?_
  refine pw_getR (b := 52) I E (c := 30) (k := 0) (pc' := 8) rfl rfl rfl rfl rfl rfl rfl ?_
  obtain ⟨z2l, z2h, z2n, -⟩ := pw_arr (c := 36) I rfl
  refine pw_alen E (pc' := 9) rfl (pw_rowI z2h rfl) rfl rfl ?_
  rw [z2n]
  refine pw_if2 E (pc' := 42) rfl (by decide) (by omega) (by omega) (by decide) (by decide) ?_ ?_
  · intro hc3
    change (1000 : Nat) ≤ pw_g h 30 1 at hc3
    refine pw_vret E rfl ?_
    exact ⟨I, E0, ⟨by omega, rfl⟩⟩
  · intro hc4
    change ¬ ((1000 : Nat) ≤ pw_g h 30 1) at hc4
    refine pw_ld E (pc' := 13) (st' := [.ref 46]) rfl (fun _ => rfl) ?_
    refine pw_getR (b := 52) I E (c := 30) (k := 0) (pc' := 16) rfl rfl rfl rfl rfl rfl rfl ?_
    refine pw_ld E (pc' := 17) (st' := [.ref 46, .ref 52]) rfl (fun _ => rfl) ?_
    refine pw_getI2 I E (c := 30) (k := 1) (pc' := 20) rfl rfl rfl rfl rfl rfl (fun hf5a hf5b => ?_)
    refine pw_ld E (pc' := 21) (st' := [pw_i wd, pw_i (pw_g h 30 1), .ref 52]) rfl (fun _ => rfl) ?_
    refine pw_ast0 I E (c := 36) (pc' := 22) rfl rfl rfl (by decide) rfl (by decide) (by omega) (by omega) rfl (by omega) (by omega) (by omega) (by omega) rfl ?_
    intro h6I h6E
    generalize h6w : pw_w h 36 ((pw_g h 30 1).toNat) (pw_i wd) = h6 at h6I h6E ⊢
    have h6F := E0.tr (h6E.wk (W' := [30, 33, 36]) (by first | rfl | simp))
    refine pw_ld E (pc' := 23) (st' := [.ref 46]) rfl (fun _ => rfl) ?_
    refine pw_ld E (pc' := 24) (st' := [.ref 46, .ref 46]) rfl (fun _ => rfl) ?_
    have he8 : pw_g h6 30 1 = pw_g h 30 1 := by rw [← h6w]; exact pw_g_ne (by omega)
    refine pw_getI2 h6I E (c := 30) (k := 1) (pc' := 27) rfl rfl rfl rfl rfl rfl (fun hf7a hf7b => ?_)
    refine pw_ld E (pc' := 28) (st' := [pw_i 1, pw_i (pw_g h6 30 1), .ref 46]) rfl (fun _ => rfl) ?_
    refine pw_add E (pc' := 29) rfl rfl ?_
    refine pw_putI h6I E (c := 30) (k := 1) (pc' := 32) rfl rfl rfl rfl (by omega) (by omega) (by omega) (by omega) rfl rfl ?_
    intro h9I h9E
    generalize h9w : pw_w h6 30 1 (pw_i ((pw_g h6 30 1) + 1)) = h9 at h9I h9E ⊢
    have h9F := h6F.tr (h9E.wk (W' := [30, 33, 36]) (by first | rfl | simp))
    refine pw_ld E (pc' := 33) (st' := [.ref 46]) rfl (fun _ => rfl) ?_
    refine pw_getR (b := 49) h9I E (c := 30) (k := 4) (pc' := 36) rfl rfl rfl rfl rfl rfl rfl ?_
    refine pw_ld E (pc' := 37) (st' := [pw_i li, .ref 49]) rfl (fun _ => rfl) ?_
    refine pw_ld E (pc' := 38) (st' := [.ref 46, pw_i li, .ref 49]) rfl (fun _ => rfl) ?_
    have he11 : pw_g h9 30 1 = (pw_g h6 30 1) + 1 := by rw [← h9w]; exact pw_g_eq (c := 30) (k := 1) h6I rfl rfl (by omega) (by omega)
    refine pw_getI2 h9I E (c := 30) (k := 1) (pc' := 41) rfl rfl rfl rfl rfl rfl (fun hf10a hf10b => ?_)
    refine pw_ast0 h9I E (c := 33) (pc' := 42) rfl rfl rfl (by decide) rfl (by decide) (by omega) (by omega) rfl (by omega) (by omega) (by omega) (by omega) rfl ?_
    intro h12I h12E
    generalize h12w : pw_w h9 33 (li.toNat) (pw_i (pw_g h9 30 1)) = h12 at h12I h12E ⊢
    have h12F := h9F.tr (h12E.wk (W' := [30, 33, 36]) (by first | rfl | simp))
    have he13 : pw_g h12 30 1 = pw_g h9 30 1 := by rw [← h12w]; exact pw_g_ne (by omega)
    refine pw_vret E rfl ?_
    exact ⟨h12I, h12F, ⟨by omega, rfl⟩⟩
set_option maxHeartbeats 4000000 in
theorem cm_48_26 {X : List (Nat × List Value)} {d : Nat} {h : pm_H} (hd : 1 ≤ d) (I : pw_I h) (x : Int) (hx1 : 1 ≤ x) (hx2 : x ≤ 9) {dp op : Int} (J : pw_J 26 27 h dp op) (hr : 8 ≤ x ∨ pw_tr 26 27 h < pw_rk x) (hdp : 8 ≤ x → dp ≤ 4) : pw X d h 48 0 [some (.ref 42), some (pw_i x)] [] (fun h' v => pw_I h' ∧ pw_E [26, 27] h h' ∧ (pw_J 26 27 h' (dp + if 8 ≤ x then 1 else 0) (op + if x = 9 then 1 else 0) ∧ pw_g h' 26 4 = pw_g h 26 4 + 1 ∧ (∀ k, k ≠ 4 → pw_g h' 26 k = pw_g h 26 k)) ∧ (v = .inl none)) := by
  have E : pm_ent 48 = some (2, 2, 5, 4, pmc_48) := rfl
  have E0 : pw_E [26, 27] h h := pw_E.rf _ _
  have hJ := J.le
  refine pw_ld E (pc' := 1) (st' := [.ref 42]) rfl (fun _ => rfl) ?_
  refine pw_getI2 I E (c := 26) (k := 4) (pc' := 4) rfl rfl rfl rfl rfl rfl (fun hf1a hf1b => ?_)
  refine pw_bip E (pc' := 6) rfl rfl (by decide) ?_
  refine pw_if2 E (pc' := 29) rfl (by decide) (by omega) (by omega) (by decide) (by decide) ?_ ?_
  · intro hc2
    change (40 : Int) ≤ pw_g h 26 4 at hc2
    exfalso; omega
  · intro hc3
    change ¬ ((40 : Int) ≤ pw_g h 26 4) at hc3
    refine pw_ld E (pc' := 10) (st' := [.ref 42]) rfl (fun _ => rfl) ?_
    refine pw_getR (b := 43) I E (c := 26) (k := 3) (pc' := 13) rfl rfl rfl rfl rfl rfl rfl ?_
    refine pw_ld E (pc' := 14) (st' := [.ref 42, .ref 43]) rfl (fun _ => rfl) ?_
    refine pw_getI2 I E (c := 26) (k := 4) (pc' := 17) rfl rfl rfl rfl rfl rfl (fun hf4a hf4b => ?_)
    refine pw_ld E (pc' := 18) (st' := [pw_i x, pw_i (pw_g h 26 4), .ref 43]) rfl (fun _ => rfl) ?_
    refine pw_ast0 I E (c := 27) (pc' := 19) rfl rfl rfl (by decide) rfl (by decide) (by omega) (by omega) rfl (by omega) (by omega) (by omega) (by omega) rfl ?_
    intro h5I h5E
    have h5x : pw_g (pw_w h 27 ((pw_g h 26 4).toNat) (pw_i x)) 27 ((pw_g h 26 4).toNat) = x := pw_g_eqA I rfl (by omega) (by omega) (by omega)
    generalize h5w : pw_w h 27 ((pw_g h 26 4).toNat) (pw_i x) = h5 at h5I h5E h5x ⊢
    have h5F := E0.tr (h5E.wk (W' := [26, 27]) (by first | rfl | simp))
    refine pw_ld E (pc' := 20) (st' := [.ref 42]) rfl (fun _ => rfl) ?_
    refine pw_ld E (pc' := 21) (st' := [.ref 42, .ref 42]) rfl (fun _ => rfl) ?_
    have he7 : ∀ k, pw_g h5 26 k = pw_g h 26 k := fun k => by rw [← h5w]; exact pw_g_ne (by omega)
    have he7' := he7 4
    have hw5 : ∀ j, j < (pw_g h 26 4).toNat → pw_g h5 27 j = pw_g h 27 j := fun j hj => by rw [← h5w]; exact pw_g_ne (by omega)
    refine pw_getI2 h5I E (c := 26) (k := 4) (pc' := 24) rfl rfl rfl rfl rfl rfl (fun hf6a hf6b => ?_)
    refine pw_ld E (pc' := 25) (st' := [pw_i 1, pw_i (pw_g h5 26 4), .ref 42]) rfl (fun _ => rfl) ?_
    refine pw_add E (pc' := 26) rfl rfl ?_
    refine pw_putI h5I E (c := 26) (k := 4) (pc' := 29) rfl rfl rfl rfl (by omega) (by omega) (by omega) (by omega) rfl rfl ?_
    intro h8I h8E
    generalize h8w : pw_w h5 26 4 (pw_i ((pw_g h5 26 4) + 1)) = h8 at h8I h8E ⊢
    have h8F := h5F.tr (h8E.wk (W' := [26, 27]) (by first | rfl | simp))
    have he9 : pw_g h8 26 4 = (pw_g h5 26 4) + 1 := by rw [← h8w]; exact pw_g_eq (c := 26) (k := 4) h5I rfl rfl (by omega) (by omega)
    have he8 : ∀ k, k ≠ 4 → pw_g h8 26 k = pw_g h 26 k := fun k hk => by rw [← he7 k, ← h8w]; exact pw_g_ne (by omega)
    have hw8 : ∀ j, pw_g h8 27 j = pw_g h5 27 j := fun j => by rw [← h8w]; exact pw_g_ne (by omega)
    refine pw_vret E rfl ?_
    refine ⟨h8I, h8F, ⟨?_, by omega, he8⟩, rfl⟩
    have JP := pw_Jw.push (w' := fun j => pw_g h8 27 j) (x := x) J (fun j hj => by show pw_g h8 27 j = pw_g h 27 j; rw [hw8, hw5 j hj]) (by show pw_g h8 27 _ = x; rw [hw8, h5x]) hx1 hx2 (by
      rcases hr with hr | hr
      · exact Or.inl hr
      · exact Or.inr fun k hk => by rw [pw_tr1 (k := k) (by omega)] at hr; exact hr) hdp
    unfold pw_J
    rw [show (pw_g h8 26 4).toNat = (pw_g h 26 4).toNat + 1 by omega]
    exact JP
set_option maxHeartbeats 4000000 in
theorem cm_53_26 {X : List (Nat × List Value)} {d : Nat} {h : pm_H} (hd : 1 ≤ d) (I : pw_I h) (hR : pw_Xr X) : pw X d h 53 0 [some (.ref 42)] [] (fun h' v => h = h' ∧ v = .inl (some (pw_i (pw_tr 26 27 h)))) := by
  have E : pm_ent 53 = some (1, 1, 5, 0, pmc_53) := rfl
  refine pw_ld E (pc' := 1) (st' := [.ref 42]) rfl (fun _ => rfl) ?_
  refine pw_getI2 I E (c := 26) (k := 4) (pc' := 4) rfl rfl rfl rfl rfl rfl (fun hf1a hf1b => ?_)
  refine pw_if E (pc' := 25) rfl (by decide) (by omega) (by omega) ?_ ?_
  · intro hc2
    change pw_g h 26 4 ≤ (0 : Int) at hc2
    refine pw_ld E (pc' := 26) (st' := [pw_i 0]) rfl (fun _ => rfl) ?_
    refine pw_iret E rfl ?_
    rw [pw_tr0 hc2]
    exact ⟨rfl, rfl⟩
  · intro hc3
    change ¬ (pw_g h 26 4 ≤ (0 : Int)) at hc3
    refine pw_ld E (pc' := 10) (st' := [.ref 3]) rfl (fun _ => rfl) ?_
    refine pw_ld E (pc' := 11) (st' := [.ref 42, .ref 3]) rfl (fun _ => rfl) ?_
    refine pw_getR (b := 43) I E (c := 26) (k := 3) (pc' := 14) rfl rfl rfl rfl rfl rfl rfl ?_
    refine pw_ld E (pc' := 15) (st' := [.ref 42, .ref 43, .ref 3]) rfl (fun _ => rfl) ?_
    refine pw_getI2 I E (c := 26) (k := 4) (pc' := 18) rfl rfl rfl rfl rfl rfl (fun hf4a hf4b => ?_)
    refine pw_ld E (pc' := 19) (st' := [pw_i 1, pw_i (pw_g h 26 4), .ref 43, .ref 3]) rfl (fun _ => rfl) ?_
    refine pw_sub E (pc' := 20) rfl rfl ?_
    refine pw_ald2 I E (c := 27) (pc' := 21) rfl rfl rfl (by decide) rfl (by decide) (by omega) (by omega) rfl (fun hf5a hf5b => ?_)
    refine pw_xaldR E (pc' := 22) rfl hR (by omega) (by omega) rfl ?_
    refine pw_goto E (pc' := 26) rfl (by decide) ?_
    refine pw_iret E rfl ?_
    refine ⟨rfl, ?_⟩
    unfold pw_tr
    rw [if_neg hc3]
set_option maxHeartbeats 4000000 in
theorem cm_52_26 {X : List (Nat × List Value)} {d : Nat} (hd : 2 ≤ d) (hR : pw_Xr X) (rk : Int) (hk1 : 1 ≤ rk) (hk2 : rk ≤ 4) {dp op : Int} : ∀ (n : Nat) {h : pm_H} (_ : pw_I h) (_ : (pw_g h 26 4).toNat = n) (_ : pw_J 26 27 h dp op), pw X d h 52 0 [some (.ref 42), some (pw_i rk), some (.ref 46)] [] (fun h' v => pw_I h' ∧ pw_E [26, 30, 33, 36] h h' ∧ (pw_J 26 27 h' dp op ∧ pw_tr 26 27 h' < rk ∧ pw_g h' 30 1 + pw_g h' 26 4 ≤ pw_g h 30 1 + pw_g h 26 4 ∧ (∀ k, k ≠ 4 → pw_g h' 26 k = pw_g h 26 k)) ∧ (v = .inl none)) := by
  intro n
  induction n using Nat.strongRecOn with
  | ind n ih =>
    intro h I hn J
    have E : pm_ent 52 = some (3, 3, 5, 4, pmc_52) := rfl
    have E0 : pw_E [26, 30, 33, 36] h h := pw_E.rf _ _
    refine pw_ld E (pc' := 1) (st' := [.ref 42]) rfl (fun _ => rfl) ?_
    refine pw_getI2 I E (c := 26) (k := 4) (pc' := 4) rfl rfl rfl rfl rfl rfl (fun hf1a hf1b => ?_)
    refine pw_if E (pc' := 48) rfl (by decide) (by omega) (by omega) ?_ ?_
    · intro hc2
      change pw_g h 26 4 ≤ (0 : Int) at hc2
      refine pw_vret E rfl ?_
      exact ⟨I, E0, ⟨J, by rw [pw_tr0 hc2]; omega, by omega, fun _ _ => rfl⟩, rfl⟩
    · intro hc3
      change ¬ (pw_g h 26 4 ≤ (0 : Int)) at hc3
      refine pw_ld E (pc' := 8) (st' := [.ref 42]) rfl (fun _ => rfl) ?_
      obtain ⟨f1l, f1h, -⟩ := pw_obj (c := 26) I rfl
      refine pw_call (m' := 53) (As := [.ref 42]) (rest := []) (ls'' := [some (.ref 42)]) (Nat.le_trans (by decide) hd) E rfl (fun _ => pw_iV rfl rfl rfl rfl (pw_cellI f1h rfl)) (rfl : pm_ent 53 = some (1, 1, 5, 0, pmc_53)) rfl rfl (cm_53_26 (pw_dp hd (by decide)) I hR) ?_
      rintro u3 v2 ⟨rfl, rfl⟩
      refine ⟨_, rfl, ?_⟩
      show pw X d h 52 11 [some (.ref 42), some (pw_i rk), some (.ref 46)] [pw_i (pw_tr 26 27 h)] _
      obtain ⟨k, hk⟩ : ∃ k : Nat, pw_g h 26 4 = (k : Int) + 1 := ⟨(pw_g h 26 4 - 1).toNat, by omega⟩
      have ht := pw_tr1 (c1 := 27) hk
      have ht2 := pw_rk_le (pw_g h 27 k)
      refine pw_ld E (pc' := 12) (st' := [pw_i rk, pw_i (pw_tr 26 27 h)]) rfl (fun _ => rfl) ?_
      refine pw_if2 E (pc' := 48) rfl (by decide) (by omega) (by omega) (by omega) (by omega) ?_ ?_
      · intro hc4
        change pw_tr 26 27 h < rk at hc4
        refine pw_vret E rfl ?_
        exact ⟨I, E0, ⟨J, hc4, by omega, fun _ _ => rfl⟩, rfl⟩
      · intro hc5
        change ¬ (pw_tr 26 27 h < rk) at hc5
        refine pw_ld E (pc' := 16) (st' := [.ref 46]) rfl (fun _ => rfl) ?_
        refine pw_ld E (pc' := 17) (st' := [.ref 42, .ref 46]) rfl (fun _ => rfl) ?_
        refine pw_getI2 I E (c := 26) (k := 8) (pc' := 20) rfl rfl rfl rfl rfl rfl (fun hf6a hf6b => ?_)
        refine pw_ld E (pc' := 21) (st' := [.ref 42, pw_i (pw_g h 26 8), .ref 46]) rfl (fun _ => rfl) ?_
        refine pw_getR (b := 43) I E (c := 26) (k := 3) (pc' := 24) rfl rfl rfl rfl rfl rfl rfl ?_
        refine pw_ld E (pc' := 25) (st' := [.ref 42, .ref 43, pw_i (pw_g h 26 8), .ref 46]) rfl (fun _ => rfl) ?_
        refine pw_getI2 I E (c := 26) (k := 4) (pc' := 28) rfl rfl rfl rfl rfl rfl (fun hf7a hf7b => ?_)
        refine pw_ld E (pc' := 29) (st' := [pw_i 1, pw_i (pw_g h 26 4), .ref 43, pw_i (pw_g h 26 8), .ref 46]) rfl (fun _ => rfl) ?_
        refine pw_sub E (pc' := 30) rfl rfl ?_
        refine pw_ald2 I E (c := 27) (pc' := 31) rfl rfl rfl (by decide) rfl (by decide) (by omega) (by omega) rfl (fun hf8a hf8b => ?_)
        refine pw_ineg E (pc' := 32) rfl rfl ?_
        obtain ⟨f9l, f9h, -⟩ := pw_obj (c := 30) I rfl
        refine pw_call (m' := 71) (As := [.ref 46, pw_i (pw_g h 26 8), pw_i (-(pw_g h 27 (pw_g h 26 4 - 1).toNat))]) (rest := []) (ls'' := [some (.ref 46), some (pw_i (pw_g h 26 8)), some (pw_i (-(pw_g h 27 (pw_g h 26 4 - 1).toNat)))]) (Nat.le_trans (by decide) hd) E rfl (fun _ => pw_iV rfl rfl rfl rfl (pw_cellI f9h rfl)) (rfl : pm_ent 71 = some (3, 3, 7, 4, pmc_71)) rfl rfl (cm_71_30 (pw_dp hd (by decide)) I _ (by omega) (by omega) _ (by omega) (by omega)) ?_
        rintro h1 v3 ⟨h1I, h1E, h1p, rfl⟩
        refine ⟨_, rfl, ?_⟩
        show pw X d h1 52 35 [some (.ref 42), some (pw_i rk), some (.ref 46)] [] _
        have h1F := E0.tr (h1E.wk (W' := [26, 30, 33, 36]) (by first | rfl | simp))
        have he1 : ∀ k, pw_g h1 26 k = pw_g h 26 k := fun k => pw_Eg (c := 26) I h1E rfl rfl k
        have hw1 : ∀ j, pw_g h1 27 j = pw_g h 27 j := fun k => pw_Eg (c := 27) I h1E rfl rfl k
        have he14 := he1 4
        refine pw_ld E (pc' := 36) (st' := [.ref 42]) rfl (fun _ => rfl) ?_
        refine pw_ld E (pc' := 37) (st' := [.ref 42, .ref 42]) rfl (fun _ => rfl) ?_
        refine pw_getI2 h1I E (c := 26) (k := 4) (pc' := 40) rfl rfl rfl rfl rfl rfl (fun hf9a hf9b => ?_)
        refine pw_ld E (pc' := 41) (st' := [pw_i 1, pw_i (pw_g h1 26 4), .ref 42]) rfl (fun _ => rfl) ?_
        refine pw_sub E (pc' := 42) rfl rfl ?_
        refine pw_putI h1I E (c := 26) (k := 4) (pc' := 45) rfl rfl rfl rfl (by omega) (by omega) (by omega) (by omega) rfl rfl ?_
        intro h2I h2E
        generalize h2w : pw_w h1 26 4 (pw_i ((pw_g h1 26 4) - 1)) = h2 at h2I h2E ⊢
        have h2F := h1F.tr (h2E.wk (W' := [26, 30, 33, 36]) (by first | rfl | simp))
        have he2 : pw_g h2 26 4 = (pw_g h1 26 4) - 1 := by rw [← h2w]; exact pw_g_eq (c := 26) (k := 4) h1I rfl rfl (by omega) (by omega)
        have he3 : ∀ k, k ≠ 4 → pw_g h2 26 k = pw_g h 26 k := fun k hk => by rw [← he1 k, ← h2w]; exact pw_g_ne (by omega)
        have hw2 : ∀ j, pw_g h2 27 j = pw_g h 27 j := fun j => by rw [← hw1 j, ← h2w]; exact pw_g_ne (by omega)
        have he4 : pw_g h2 30 1 = pw_g h1 30 1 := by rw [← h2w]; exact pw_g_ne (by omega)
        refine pw_goto E (pc' := 0) rfl (by decide) ?_
        have hJ := pw_Jk J hk
        have hlt : pw_g h 27 k < 8 := by
          by_cases h8 : 8 ≤ pw_g h 27 k
          · rw [pw_rk8 h8] at ht; omega
          · omega
        have J2 : pw_J 26 27 h2 dp op := pw_Jof (hJ.pop.1 hlt) hw2 (by omega)
        refine pw_mono (ih (pw_g h2 26 4).toNat (by omega) h2I rfl J2) ?_
        rintro h3 v4 ⟨q1, q2, ⟨q3, q4, q5, q6⟩, q7⟩
        exact ⟨q1, h2F.tr q2, ⟨q3, q4, by omega, fun k hk => by rw [q6 k hk, he3 k hk]⟩, q7⟩
set_option maxHeartbeats 4000000 in
theorem cm_49_26 {X : List (Nat × List Value)} {d : Nat} (hd : 2 ≤ d) : ∀ (n : Nat) {h : pm_H} (_ : pw_I h) (_ : (pw_g h 26 4).toNat = n) (_ : pw_J 26 27 h (pw_g h 26 5) (pw_g h 26 6)) (_ : 0 ≤ pw_g h 26 6), pw X d h 49 0 [some (.ref 42), some (.ref 46)] [] (fun h' v => pw_I h' ∧ pw_E [26, 30, 33, 36] h h' ∧ (pw_J 26 27 h' (pw_g h' 26 5) (pw_g h' 26 6) ∧ pw_g h' 30 1 + pw_g h' 26 4 ≤ pw_g h 30 1 + pw_g h 26 4 ∧ pw_g h' 26 7 = 3 ∧ pw_g h' 26 6 = pw_g h 26 6 ∧ pw_g h' 26 8 = pw_g h 26 8) ∧ (v = .inl none)) := by
  intro n
  induction n using Nat.strongRecOn with
  | ind n ih =>
    intro h I hn J ho
    have E : pm_ent 49 = some (2, 2, 5, 4, pmc_49) := rfl
    have E0 : pw_E [26, 30, 33, 36] h h := pw_E.rf _ _
    have FIN : pw X d h 49 56 [some (.ref 42), some (.ref 46)] [] (fun h' v => pw_I h' ∧ pw_E [26, 30, 33, 36] h h' ∧ (pw_J 26 27 h' (pw_g h' 26 5) (pw_g h' 26 6) ∧ pw_g h' 30 1 + pw_g h' 26 4 ≤ pw_g h 30 1 + pw_g h 26 4 ∧ pw_g h' 26 7 = 3 ∧ pw_g h' 26 6 = pw_g h 26 6 ∧ pw_g h' 26 8 = pw_g h 26 8) ∧ (v = .inl none)) := by
      refine pw_ld E (pc' := 57) (st' := [.ref 42]) rfl (fun _ => rfl) ?_
      refine pw_ld E (pc' := 58) (st' := [pw_i 3, .ref 42]) rfl (fun _ => rfl) ?_
      refine pw_putI I E (c := 26) (k := 7) (pc' := 61) rfl rfl rfl rfl (by decide) (by decide) (by decide) (by decide) rfl rfl ?_
      intro h2I h2E
      generalize h2w : pw_w h 26 7 (pw_i 3) = h2 at h2I h2E ⊢
      have h2F := E0.tr (h2E.wk (W' := [26, 30, 33, 36]) (by first | rfl | simp))
      have he2 : pw_g h2 26 7 = 3 := by rw [← h2w]; exact pw_g_eq (c := 26) (k := 7) I rfl rfl (by omega) (by omega)
      have he3 : ∀ k, k ≠ 7 → pw_g h2 26 k = pw_g h 26 k := fun k hk => by rw [← h2w]; exact pw_g_ne (by omega)
      have hw2 : ∀ j, pw_g h2 27 j = pw_g h 27 j := fun j => by rw [← h2w]; exact pw_g_ne (by omega)
      have he4 : pw_g h2 30 1 = pw_g h 30 1 := by rw [← h2w]; exact pw_g_ne (by omega)
      refine pw_vret E rfl ?_
      refine ⟨h2I, h2F, ⟨?_, ?_, he2, he3 6 (by decide), he3 8 (by decide)⟩, rfl⟩
      · rw [he3 5 (by decide), he3 6 (by decide)]
        exact pw_Jof (h := h) J hw2 (by rw [he3 4 (by decide)])
      · rw [he4, he3 4 (by decide)]
        exact Int.le_refl _
    refine pw_ld E (pc' := 1) (st' := [.ref 42]) rfl (fun _ => rfl) ?_
    refine pw_getI2 I E (c := 26) (k := 4) (pc' := 4) rfl rfl rfl rfl rfl rfl (fun hf1a hf1b => ?_)
    refine pw_if E (pc' := 56) rfl (by decide) (by omega) (by omega) ?_ ?_
    · intro _
      exact FIN
    · intro hc3
      change ¬ (pw_g h 26 4 ≤ (0 : Int)) at hc3
      obtain ⟨k, hk⟩ : ∃ k : Nat, pw_g h 26 4 = (k : Int) + 1 := ⟨(pw_g h 26 4 - 1).toNat, by omega⟩
      have hk2 : (pw_g h 26 4 - 1).toNat = k := by omega
      refine pw_ld E (pc' := 8) (st' := [.ref 42]) rfl (fun _ => rfl) ?_
      refine pw_getR (b := 43) I E (c := 26) (k := 3) (pc' := 11) rfl rfl rfl rfl rfl rfl rfl ?_
      refine pw_ld E (pc' := 12) (st' := [.ref 42, .ref 43]) rfl (fun _ => rfl) ?_
      refine pw_getI2 I E (c := 26) (k := 4) (pc' := 15) rfl rfl rfl rfl rfl rfl (fun hf7a hf7b => ?_)
      refine pw_ld E (pc' := 16) (st' := [pw_i 1, pw_i (pw_g h 26 4), .ref 43]) rfl (fun _ => rfl) ?_
      refine pw_sub E (pc' := 17) rfl rfl ?_
      refine pw_ald2 I E (c := 27) (pc' := 18) rfl rfl rfl (by decide) rfl (by decide) (by omega) (by omega) rfl (fun hf8a hf8b => ?_)
      refine pw_bip E (pc' := 20) rfl rfl (by decide) ?_
      refine pw_if2 E (pc' := 56) rfl (by decide) (by omega) (by omega) (by decide) (by decide) ?_ ?_
      · intro _
        exact FIN
      · intro hc5
        change ¬ (pw_g h 27 (pw_g h 26 4 - 1).toNat ≠ 8) at hc5
        have h8 : pw_g h 27 k = 8 := by
          rw [hk2] at hc5
          omega
        refine pw_ld E (pc' := 24) (st' := [.ref 46]) rfl (fun _ => rfl) ?_
        refine pw_ld E (pc' := 25) (st' := [.ref 42, .ref 46]) rfl (fun _ => rfl) ?_
        refine pw_getI2 I E (c := 26) (k := 8) (pc' := 28) rfl rfl rfl rfl rfl rfl (fun hf6a hf6b => ?_)
        refine pw_bip E (pc' := 30) rfl rfl (by decide) ?_
        obtain ⟨f9l, f9h, -⟩ := pw_obj (c := 30) I rfl
        refine pw_call (m' := 71) (As := [.ref 46, pw_i (pw_g h 26 8), pw_i (-8)]) (rest := []) (ls'' := [some (.ref 46), some (pw_i (pw_g h 26 8)), some (pw_i (-8))]) (Nat.le_trans (by decide) hd) E rfl (fun _ => pw_iV rfl rfl rfl rfl (pw_cellI f9h rfl)) (rfl : pm_ent 71 = some (3, 3, 7, 4, pmc_71)) rfl rfl (cm_71_30 (pw_dp hd (by decide)) I _ (by omega) (by omega) _ (by omega) (by omega)) ?_
        rintro h1 v3 ⟨h1I, h1E, h1p, rfl⟩
        refine ⟨_, rfl, ?_⟩
        show pw X d h1 49 33 [some (.ref 42), some (.ref 46)] [] _
        have h1F := E0.tr (h1E.wk (W' := [26, 30, 33, 36]) (by first | rfl | simp))
        have he1 : ∀ k, pw_g h1 26 k = pw_g h 26 k := fun k => pw_Eg (c := 26) I h1E rfl rfl k
        have hw1 : ∀ j, pw_g h1 27 j = pw_g h 27 j := fun k => pw_Eg (c := 27) I h1E rfl rfl k
        have he14 := he1 4
        refine pw_ld E (pc' := 34) (st' := [.ref 42]) rfl (fun _ => rfl) ?_
        refine pw_ld E (pc' := 35) (st' := [.ref 42, .ref 42]) rfl (fun _ => rfl) ?_
        refine pw_getI2 h1I E (c := 26) (k := 4) (pc' := 38) rfl rfl rfl rfl rfl rfl (fun hf9a hf9b => ?_)
        refine pw_ld E (pc' := 39) (st' := [pw_i 1, pw_i (pw_g h1 26 4), .ref 42]) rfl (fun _ => rfl) ?_
        refine pw_sub E (pc' := 40) rfl rfl ?_
        refine pw_putI h1I E (c := 26) (k := 4) (pc' := 43) rfl rfl rfl rfl (by omega) (by omega) (by omega) (by omega) rfl rfl ?_
        intro h2I h2E
        generalize h2w : pw_w h1 26 4 (pw_i ((pw_g h1 26 4) - 1)) = h2 at h2I h2E ⊢
        have h2F := h1F.tr (h2E.wk (W' := [26, 30, 33, 36]) (by first | rfl | simp))
        have he2 : pw_g h2 26 4 = (pw_g h1 26 4) - 1 := by rw [← h2w]; exact pw_g_eq (c := 26) (k := 4) h1I rfl rfl (by omega) (by omega)
        have he3 : ∀ k, k ≠ 4 → pw_g h2 26 k = pw_g h 26 k := fun k hk => by rw [← he1 k, ← h2w]; exact pw_g_ne (by omega)
        have hw2 : ∀ j, pw_g h2 27 j = pw_g h 27 j := fun j => by rw [← hw1 j, ← h2w]; exact pw_g_ne (by omega)
        have he4 : pw_g h2 30 1 = pw_g h1 30 1 := by rw [← h2w]; exact pw_g_ne (by omega)
        have he25 := he3 5 (by decide)
        have hJ := pw_Jk J hk
        have hJ2 := hJ.pop.2.1 h8
        have hdp : 1 ≤ pw_g h 26 5 ∧ pw_g h 26 5 ≤ 5 := by
          have z1 := hJ2.2.2.1
          have z2 := hJ.2.2.2.2
          omega
        refine pw_ld E (pc' := 44) (st' := [.ref 42]) rfl (fun _ => rfl) ?_
        refine pw_ld E (pc' := 45) (st' := [.ref 42, .ref 42]) rfl (fun _ => rfl) ?_
        refine pw_getI2 h2I E (c := 26) (k := 5) (pc' := 48) rfl rfl rfl rfl rfl rfl (fun hg9a hg9b => ?_)
        refine pw_ld E (pc' := 49) (st' := [pw_i 1, pw_i (pw_g h2 26 5), .ref 42]) rfl (fun _ => rfl) ?_
        refine pw_sub E (pc' := 50) rfl rfl ?_
        refine pw_putI h2I E (c := 26) (k := 5) (pc' := 53) rfl rfl rfl rfl (by omega) (by omega) (by omega) (by omega) rfl rfl ?_
        intro h3I h3E
        generalize h3w : pw_w h2 26 5 (pw_i ((pw_g h2 26 5) - 1)) = h3 at h3I h3E ⊢
        have h3F := h2F.tr (h3E.wk (W' := [26, 30, 33, 36]) (by first | rfl | simp))
        have hb2 : pw_g h3 26 5 = (pw_g h2 26 5) - 1 := by rw [← h3w]; exact pw_g_eq (c := 26) (k := 5) h2I rfl rfl (by omega) (by omega)
        have hb3 : ∀ k, k ≠ 5 → pw_g h3 26 k = pw_g h2 26 k := fun k hk => by rw [← h3w]; exact pw_g_ne (by omega)
        have hv2 : ∀ j, pw_g h3 27 j = pw_g h 27 j := fun j => by rw [← hw2 j, ← h3w]; exact pw_g_ne (by omega)
        have hb4 : pw_g h3 30 1 = pw_g h2 30 1 := by rw [← h3w]; exact pw_g_ne (by omega)
        have hb34 := hb3 4 (by decide)
        have hb36 := hb3 6 (by decide)
        have hb38 := hb3 8 (by decide)
        have he36 := he3 6 (by decide)
        have he38 := he3 8 (by decide)
        refine pw_goto E (pc' := 0) rfl (by decide) ?_
        have J3 : pw_J 26 27 h3 (pw_g h3 26 5) (pw_g h3 26 6) := by
          rw [hb2, he25, hb36, he36]
          exact pw_Jof hJ2 hv2 (by omega)
        refine pw_mono (ih (pw_g h3 26 4).toNat (by omega) h3I rfl J3 (by omega)) ?_
        rintro h4 v4 ⟨q1, q2, ⟨q3, q4, q5, q6, q8⟩, q7⟩
        exact ⟨q1, h3F.tr q2, ⟨q3, by omega, q5, by omega, by omega⟩, q7⟩
end
section
/-! the Readers: a closing bracket, the end of a line (printed by wip/tool/reader2.py) -/
/-- what holds of a Reader inside a line: T is a bound of what is written and what waits -/
def pw_P (c c1 : Nat) (h : pm_H) (T : Int) : Prop := pw_J c c1 h (pw_g h c 5) (pw_g h c 6) ∧ 0 ≤ pw_g h c 6 ∧ pw_g h 30 1 + pw_g h c 4 ≤ T
theorem pw_Pof {c c1 : Nat} {h h' : pm_H} {T : Int} (P : pw_P c c1 h T) (h4 : pw_g h' c 4 = pw_g h c 4) (h5 : pw_g h' c 5 = pw_g h c 5) (h6 : pw_g h' c 6 = pw_g h c 6) (hw : ∀ j, pw_g h' c1 j = pw_g h c1 j) (hl : pw_g h' 30 1 = pw_g h 30 1) : pw_P c c1 h' T := by
  obtain ⟨p1, p2, p3⟩ := P
  refine ⟨?_, by omega, by omega⟩
  rw [h5, h6]
  exact pw_Jof (h := h) p1 hw (by rw [h4])
theorem pw_P.wk {c c1 : Nat} {h : pm_H} {T T' : Int} (P : pw_P c c1 h T) (ht : T ≤ T') : pw_P c c1 h T' := ⟨P.1, P.2.1, by have := P.2.2; omega⟩
theorem pw_Pb {c c1 : Nat} {h : pm_H} {T : Int} (P : pw_P c c1 h T) : 0 ≤ pw_g h c 5 ∧ pw_g h c 5 ≤ 5 ∧ pw_g h c 6 ≤ 29 := by
  obtain ⟨p1, p2, p3⟩ := P
  have p1 : pw_Jw (fun j => pw_g h c1 j) (pw_g h c 4).toNat (pw_g h c 5) (pw_g h c 6) := p1
  have a := p1.le
  have b := pw_o9_le (fun j => pw_g h c1 j) (pw_g h c 4).toNat
  obtain ⟨-, -, z1, z2, z3⟩ := p1
  omega
set_option maxHeartbeats 4000000 in
theorem cm_51_26 {X : List (Nat × List Value)} {d : Nat} {h : pm_H} (hd : 3 ≤ d) (I : pw_I h) (hR : pw_Xr X) {T : Int} (P : pw_P 26 27 h T) : pw X d h 51 0 [some (.ref 42), some (.ref 46)] [] (fun h' v => pw_I h' ∧ pw_E [26, 27, 30, 33, 36] h h' ∧ pw_P 26 27 h' T ∧ ∃ a : Int, v = .inl (some (pw_i a)) ∧ 0 ≤ a ∧ a ≤ 1) := by
  have E : pm_ent 51 = some (2, 2, 5, 0, pmc_51) := rfl
  have E0 : pw_E [26, 27, 30, 33, 36] h h := pw_E.rf _ _
  refine pw_ld E (pc' := 1) (st' := [.ref 42]) rfl (fun _ => rfl) ?_
  refine pw_getI2 I E (c := 26) (k := 6) (pc' := 4) rfl rfl rfl rfl rfl rfl (fun hf1a hf1b => ?_)
  refine pw_if E (pc' := 9) rfl (by decide) (by omega) (by omega) ?_ ?_
  · intro hc2
    refine pw_ld E (pc' := 10) (st' := [.ref 42]) rfl (fun _ => rfl) ?_
    refine pw_ld E (pc' := 11) (st' := [pw_i 1, .ref 42]) rfl (fun _ => rfl) ?_
    refine pw_ld E (pc' := 12) (st' := [.ref 46, pw_i 1, .ref 42]) rfl (fun _ => rfl) ?_
    obtain ⟨f1l, f1h, -⟩ := pw_obj (c := 26) I rfl
    refine pw_call (m' := 52) (As := [.ref 42, pw_i 1, .ref 46]) (rest := []) (ls'' := [some (.ref 42), some (pw_i 1), some (.ref 46)]) (Nat.le_trans (by decide) hd) E rfl (fun _ => pw_iV rfl rfl rfl rfl (pw_cellI f1h rfl)) (rfl : pm_ent 52 = some (3, 3, 5, 4, pmc_52)) rfl rfl (cm_52_26 (pw_dp hd (by decide)) hR 1 (by decide) (by decide) _ I rfl P.1) ?_
    rintro h1 v3 ⟨h1I, h1E, ⟨h1J, h1t, h1p, h1k⟩, rfl⟩
    refine ⟨_, rfl, ?_⟩
    show pw X d h1 51 15 [some (.ref 42), some (.ref 46)] [] _
    have h1F := E0.tr (h1E.wk (W' := [26, 27, 30, 33, 36]) (by first | rfl | simp))
    have P1 : pw_P 26 27 h1 T := ⟨by rw [h1k 5 (by decide), h1k 6 (by decide)]; exact h1J, by rw [h1k 6 (by decide)]; exact P.2.1, by have := P.2.2; omega⟩
    refine pw_ld E (pc' := 16) (st' := [.ref 42]) rfl (fun _ => rfl) ?_
    refine pw_ld E (pc' := 17) (st' := [pw_i 0, .ref 42]) rfl (fun _ => rfl) ?_
    refine pw_putI h1I E (c := 26) (k := 7) (pc' := 20) rfl rfl rfl rfl (by decide) (by decide) (by decide) (by decide) rfl rfl ?_
    intro h2I h2E
    generalize h2w : pw_w h1 26 7 (pw_i 0) = h2 at h2I h2E ⊢
    have h2F := h1F.tr (h2E.wk (W' := [26, 27, 30, 33, 36]) (by first | rfl | simp))
    have hn2 : ∀ c' k', ¬ (26 = c' ∧ 7 = k') → pw_g h2 c' k' = pw_g h1 c' k' := fun c' k' hn => by rw [← h2w]; exact pw_g_ne hn
    refine pw_ld E (pc' := 21) (st' := [pw_i 0]) rfl (fun _ => rfl) ?_
    refine pw_iret E rfl ?_
    exact ⟨h2I, h2F, pw_Pof P1 (hn2 _ _ (by decide)) (hn2 _ _ (by decide)) (hn2 _ _ (by decide)) (fun j => hn2 _ _ (by omega)) (hn2 _ _ (by decide)), ⟨_, rfl, by omega, by omega⟩⟩
  · intro hc3
    refine pw_ld E (pc' := 8) (st' := [pw_i 1]) rfl (fun _ => rfl) ?_
    refine pw_iret E rfl ?_
    exact ⟨I, E0, P, ⟨_, rfl, by omega, by omega⟩⟩
set_option maxHeartbeats 4000000 in
theorem cm_54_26 {X : List (Nat × List Value)} {d : Nat} {h : pm_H} (hd : 3 ≤ d) (I : pw_I h) (hR : pw_Xr X) {T : Int} (P : pw_P 26 27 h T) : pw X d h 54 0 [some (.ref 42), some (.ref 46)] [] (fun h' v => pw_I h' ∧ pw_E [26, 27, 30, 33, 36] h h' ∧ pw_P 26 27 h' T ∧ ∃ a : Int, v = .inl (some (pw_i a)) ∧ 0 ≤ a ∧ a ≤ 1) := by
  have E : pm_ent 54 = some (2, 2, 5, 0, pmc_54) := rfl
  have E0 : pw_E [26, 27, 30, 33, 36] h h := pw_E.rf _ _
  have hp6 := P.2.1
  refine pw_ld E (pc' := 1) (st' := [.ref 42]) rfl (fun _ => rfl) ?_
  refine pw_getI2 I E (c := 26) (k := 6) (pc' := 4) rfl rfl rfl rfl rfl rfl (fun hf1a hf1b => ?_)
  refine pw_if E (pc' := 9) rfl (by decide) (by omega) (by omega) ?_ ?_
  · intro hc2
    change pw_g h 26 6 ≠ (0 : Int) at hc2
    refine pw_ld E (pc' := 10) (st' := [.ref 42]) rfl (fun _ => rfl) ?_
    refine pw_ld E (pc' := 11) (st' := [pw_i 1, .ref 42]) rfl (fun _ => rfl) ?_
    refine pw_ld E (pc' := 12) (st' := [.ref 46, pw_i 1, .ref 42]) rfl (fun _ => rfl) ?_
    obtain ⟨f1l, f1h, -⟩ := pw_obj (c := 26) I rfl
    refine pw_call (m' := 52) (As := [.ref 42, pw_i 1, .ref 46]) (rest := []) (ls'' := [some (.ref 42), some (pw_i 1), some (.ref 46)]) (Nat.le_trans (by decide) hd) E rfl (fun _ => pw_iV rfl rfl rfl rfl (pw_cellI f1h rfl)) (rfl : pm_ent 52 = some (3, 3, 5, 4, pmc_52)) rfl rfl (cm_52_26 (pw_dp hd (by decide)) hR 1 (by decide) (by decide) _ I rfl P.1) ?_
    rintro h1 v3 ⟨h1I, h1E, ⟨h1J, h1t, h1p, h1k⟩, rfl⟩
    refine ⟨_, rfl, ?_⟩
    show pw X d h1 54 15 [some (.ref 42), some (.ref 46)] [] _
    have h1F := E0.tr (h1E.wk (W' := [26, 27, 30, 33, 36]) (by first | rfl | simp))
    have k5 := h1k 5 (by decide)
    have k6 := h1k 6 (by decide)
    have P1 : pw_P 26 27 h1 T := ⟨by rw [k5, k6]; exact h1J, by rw [k6]; exact P.2.1, by have := P.2.2; omega⟩
    obtain ⟨b1, b2, b3⟩ := pw_Pb P1
    have hpos : 0 < (pw_g h1 26 4).toNat := pw_Jw.pos P1.1 (by omega)
    obtain ⟨k, hk⟩ : ∃ k : Nat, pw_g h1 26 4 = (k : Int) + 1 := ⟨(pw_g h1 26 4 - 1).toNat, by omega⟩
    have hJk := pw_Jk P1.1 hk
    have ht := pw_tr1 (c1 := 27) hk
    have h8 : 8 ≤ pw_g h1 27 k := by
      by_cases h8 : 8 ≤ pw_g h1 27 k
      · exact h8
      · have z := pw_rk1 (hJk.1 k (by omega)).1 h8
        change 1 ≤ pw_rk (pw_g h1 27 k) at z
        omega
    have hJ2 := hJk.pop.2.2 h8
    have hP2 := P1.2.2
    refine pw_ld E (pc' := 16) (st' := [.ref 42]) rfl (fun _ => rfl) ?_
    refine pw_ld E (pc' := 17) (st' := [.ref 42, .ref 42]) rfl (fun _ => rfl) ?_
    refine pw_getI2 h1I E (c := 26) (k := 4) (pc' := 20) rfl rfl rfl rfl rfl rfl (fun hf9a hf9b => ?_)
    refine pw_ld E (pc' := 21) (st' := [pw_i 1, pw_i (pw_g h1 26 4), .ref 42]) rfl (fun _ => rfl) ?_
    refine pw_sub E (pc' := 22) rfl rfl ?_
    refine pw_putI h1I E (c := 26) (k := 4) (pc' := 25) rfl rfl rfl rfl (by omega) (by omega) (by omega) (by omega) rfl rfl ?_
    intro h2I h2E
    generalize h2w : pw_w h1 26 4 (pw_i ((pw_g h1 26 4) - 1)) = h2 at h2I h2E ⊢
    have h2F := h1F.tr (h2E.wk (W' := [26, 27, 30, 33, 36]) (by first | rfl | simp))
    have he2 : pw_g h2 26 4 = (pw_g h1 26 4) - 1 := by rw [← h2w]; exact pw_g_eq (c := 26) (k := 4) h1I rfl rfl (by omega) (by omega)
    have hn2 : ∀ c' k', ¬ (26 = c' ∧ 4 = k') → pw_g h2 c' k' = pw_g h1 c' k' := fun c' k' hn => by rw [← h2w]; exact pw_g_ne hn
    have e25 := hn2 26 5 (by decide)
    have e26 := hn2 26 6 (by decide)
    have e21 := hn2 30 1 (by decide)
    refine pw_ld E (pc' := 26) (st' := [.ref 42]) rfl (fun _ => rfl) ?_
    refine pw_ld E (pc' := 27) (st' := [.ref 42, .ref 42]) rfl (fun _ => rfl) ?_
    refine pw_getI2 h2I E (c := 26) (k := 5) (pc' := 30) rfl rfl rfl rfl rfl rfl (fun hg9a hg9b => ?_)
    refine pw_ld E (pc' := 31) (st' := [pw_i 1, pw_i (pw_g h2 26 5), .ref 42]) rfl (fun _ => rfl) ?_
    refine pw_sub E (pc' := 32) rfl rfl ?_
    refine pw_putI h2I E (c := 26) (k := 5) (pc' := 35) rfl rfl rfl rfl (by omega) (by omega) (by omega) (by omega) rfl rfl ?_
    intro h3I h3E
    generalize h3w : pw_w h2 26 5 (pw_i ((pw_g h2 26 5) - 1)) = h3 at h3I h3E ⊢
    have h3F := h2F.tr (h3E.wk (W' := [26, 27, 30, 33, 36]) (by first | rfl | simp))
    have he3 : pw_g h3 26 5 = (pw_g h2 26 5) - 1 := by rw [← h3w]; exact pw_g_eq (c := 26) (k := 5) h2I rfl rfl (by omega) (by omega)
    have hn3 : ∀ c' k', ¬ (26 = c' ∧ 5 = k') → pw_g h3 c' k' = pw_g h2 c' k' := fun c' k' hn => by rw [← h3w]; exact pw_g_ne hn
    have e34 := hn3 26 4 (by decide)
    have e36 := hn3 26 6 (by decide)
    have e31 := hn3 30 1 (by decide)
    refine pw_ld E (pc' := 36) (st' := [.ref 42]) rfl (fun _ => rfl) ?_
    refine pw_ld E (pc' := 37) (st' := [.ref 42, .ref 42]) rfl (fun _ => rfl) ?_
    refine pw_getI2 h3I E (c := 26) (k := 6) (pc' := 40) rfl rfl rfl rfl rfl rfl (fun hi9a hi9b => ?_)
    refine pw_ld E (pc' := 41) (st' := [pw_i 1, pw_i (pw_g h3 26 6), .ref 42]) rfl (fun _ => rfl) ?_
    refine pw_sub E (pc' := 42) rfl rfl ?_
    refine pw_putI h3I E (c := 26) (k := 6) (pc' := 45) rfl rfl rfl rfl (by omega) (by omega) (by omega) (by omega) rfl rfl ?_
    intro h4I h4E
    generalize h4w : pw_w h3 26 6 (pw_i ((pw_g h3 26 6) - 1)) = h4 at h4I h4E ⊢
    have h4F := h3F.tr (h4E.wk (W' := [26, 27, 30, 33, 36]) (by first | rfl | simp))
    have he4 : pw_g h4 26 6 = (pw_g h3 26 6) - 1 := by rw [← h4w]; exact pw_g_eq (c := 26) (k := 6) h3I rfl rfl (by omega) (by omega)
    have hn4 : ∀ c' k', ¬ (26 = c' ∧ 6 = k') → pw_g h4 c' k' = pw_g h3 c' k' := fun c' k' hn => by rw [← h4w]; exact pw_g_ne hn
    have e44 := hn4 26 4 (by decide)
    have e45 := hn4 26 5 (by decide)
    have e41 := hn4 30 1 (by decide)
    have J4 : pw_J 26 27 h4 (pw_g h4 26 5) (pw_g h4 26 6) := by
      rw [show pw_g h4 26 5 = pw_g h1 26 5 - 1 by omega, show pw_g h4 26 6 = pw_g h1 26 6 - 1 by omega]
      exact pw_Jof hJ2 (fun j => by rw [hn4 27 j (by omega), hn3 27 j (by omega), hn2 27 j (by omega)]) (by omega)
    refine pw_ld E (pc' := 46) (st' := [.ref 42]) rfl (fun _ => rfl) ?_
    refine pw_ld E (pc' := 47) (st' := [.ref 46, .ref 42]) rfl (fun _ => rfl) ?_
    obtain ⟨f2l, f2h, -⟩ := pw_obj (c := 26) h4I rfl
    refine pw_call (m' := 49) (As := [.ref 42, .ref 46]) (rest := []) (ls'' := [some (.ref 42), some (.ref 46)]) (Nat.le_trans (by decide) hd) E rfl (fun _ => pw_iV rfl rfl rfl rfl (pw_cellI f2h rfl)) (rfl : pm_ent 49 = some (2, 2, 5, 4, pmc_49)) rfl rfl (cm_49_26 (pw_dp hd (by decide)) _ h4I rfl J4 (by omega)) ?_
    rintro h5 v3 ⟨h5I, h5E, ⟨h5J, h5p, h57, h56, h58⟩, rfl⟩
    refine ⟨_, rfl, ?_⟩
    show pw X d h5 54 50 [some (.ref 42), some (.ref 46)] [] _
    have h5F := h4F.tr (h5E.wk (W' := [26, 27, 30, 33, 36]) (by first | rfl | simp))
    refine pw_ld E (pc' := 51) (st' := [pw_i 0]) rfl (fun _ => rfl) ?_
    refine pw_iret E rfl ?_
    exact ⟨h5I, h5F, ⟨h5J, by omega, by omega⟩, ⟨_, rfl, by omega, by omega⟩⟩
  · intro hc3
    refine pw_ld E (pc' := 8) (st' := [pw_i 1]) rfl (fun _ => rfl) ?_
    refine pw_iret E rfl ?_
    exact ⟨I, E0, P, ⟨_, rfl, by omega, by omega⟩⟩
end
section
/-! what the tokens tell a Reader (printed by wip/tool/reader3.py) -/
set_option maxHeartbeats 4000000 in
theorem cm_107_24 {X : List (Nat × List Value)} {d : Nat} {h : pm_H} (hd : 1 ≤ d) (I : pw_I h)  : pw X d h 107 0 [some (.ref 40)] [] (fun h' v => h = h' ∧ ∃ a : Int, v = .inl (some (pw_i a)) ∧ 0 ≤ a ∧ a ≤ 4 ∧ (a = pw_g h 24 4)) := by
  have E : pm_ent 107 = some (1, 1, 9, 0, pmc_107) := rfl
  refine pw_ld E (pc' := 1) (st' := [.ref 40]) rfl (fun _ => rfl) ?_
  refine pw_getI2 I E (c := 24) (k := 4) (pc' := 4) rfl rfl rfl rfl rfl rfl (fun hf1a hf1b => ?_)
  refine pw_iret E rfl ?_
  exact ⟨rfl, ⟨_, rfl, by omega, by omega, by omega⟩⟩
set_option maxHeartbeats 4000000 in
theorem cm_109_24 {X : List (Nat × List Value)} {d : Nat} {h : pm_H} (hd : 1 ≤ d) (I : pw_I h) (ch : Int) (hch1 : 0 ≤ ch) (hch2 : ch ≤ 65535) : pw X d h 109 0 [some (.ref 40), some (pw_i ch)] [] (fun h' v => h = h' ∧ ∃ a : Int, v = .inl (some (pw_i a)) ∧ 0 ≤ a ∧ a ≤ 1 ∧ (pw_g h 24 4 = 3 ∨ a = 0)) := by
  have E : pm_ent 109 = some (2, 2, 9, 1, pmc_109) := rfl
  refine pw_ld E (pc' := 1) (st' := [.ref 40]) rfl (fun _ => rfl) ?_
  refine pw_getI2 I E (c := 24) (k := 4) (pc' := 4) rfl rfl rfl rfl rfl rfl (fun hf1a hf1b => ?_)
  refine pw_ld E (pc' := 5) (st' := [pw_i 3, pw_i (pw_g h 24 4)]) rfl (fun _ => rfl) ?_
  refine pw_if2 E (pc' := 20) rfl (by decide) (by omega) (by omega) (by decide) (by decide) ?_ ?_
  · intro hc2
    change pw_g h 24 4 ≠ (3 : Int) at hc2
    refine pw_ld E (pc' := 21) (st' := [pw_i 0]) rfl (fun _ => rfl) ?_
    refine pw_zret E rfl (by omega) ?_
    exact ⟨rfl, ⟨_, rfl, by omega, by omega, by omega⟩⟩
  · intro hc3
    change ¬ (pw_g h 24 4 ≠ (3 : Int)) at hc3
    refine pw_ld E (pc' := 9) (st' := [.ref 40]) rfl (fun _ => rfl) ?_
    refine pw_getI2 I E (c := 24) (k := 5) (pc' := 12) rfl rfl rfl rfl rfl rfl (fun hf4a hf4b => ?_)
    refine pw_ld E (pc' := 13) (st' := [pw_i ch, pw_i (pw_g h 24 5)]) rfl (fun _ => rfl) ?_
    refine pw_if2 E (pc' := 20) rfl (by decide) (by omega) (by omega) (by omega) (by omega) ?_ ?_
    · intro hc5
      change pw_g h 24 5 ≠ ch at hc5
      refine pw_ld E (pc' := 21) (st' := [pw_i 0]) rfl (fun _ => rfl) ?_
      refine pw_zret E rfl (by omega) ?_
      exact ⟨rfl, ⟨_, rfl, by omega, by omega, by omega⟩⟩
    · intro hc6
      change ¬ (pw_g h 24 5 ≠ ch) at hc6
      refine pw_ld E (pc' := 17) (st' := [pw_i 1]) rfl (fun _ => rfl) ?_
      refine pw_goto E (pc' := 21) rfl (by decide) ?_
      refine pw_zret E rfl (by omega) ?_
      exact ⟨rfl, ⟨_, rfl, by omega, by omega, by omega⟩⟩
set_option maxHeartbeats 4000000 in
theorem cm_108_24 {X : List (Nat × List Value)} {d : Nat} {h : pm_H} (hd : 1 ≤ d) (I : pw_I h) (hX : pw_Xk X) (str : Nat) (hstr1 : 4 ≤ str) (hstr2 : str < 12) : pw X d h 108 0 [some (.ref 40), some (.ref str), none, none, none, none, none] [] (fun h' v => h = h' ∧ ∃ a : Int, v = .inl (some (pw_i a)) ∧ (-1) ≤ a ∧ a ≤ 60 ∧ (pw_g h 24 4 = 1 ∨ a = -1)) := by
  have E : pm_ent 108 = some (2, 7, 9, 0, pmc_108) := rfl
  obtain ⟨strl, strs, strn, stri⟩ := pw_sxk (p := str) hX hstr1 hstr2
  refine pw_ld E (pc' := 1) (st' := [pw_i 0]) rfl (fun _ => rfl) ?_
  refine pw_istn E (pc' := 2) (ls' := [some (.ref 40), some (.ref str), some (pw_i 0), none, none, none, none]) rfl rfl rfl rfl ?_
  refine pw_ld E (pc' := 3) (st' := [.ref 40]) rfl (fun _ => rfl) ?_
  refine pw_getI2 I E (c := 24) (k := 2) (pc' := 6) rfl rfl rfl rfl rfl rfl (fun hf1a hf1b => ?_)
  refine pw_istn E (pc' := 7) (ls' := [some (.ref 40), some (.ref str), some (pw_i 0), some (pw_i (pw_g h 24 2)), none, none, none]) rfl rfl rfl rfl ?_
  refine pw_ld E (pc' := 8) (st' := [.ref 40]) rfl (fun _ => rfl) ?_
  refine pw_getI2 I E (c := 24) (k := 4) (pc' := 11) rfl rfl rfl rfl rfl rfl (fun hf2a hf2b => ?_)
  refine pw_ld E (pc' := 12) (st' := [pw_i 1, pw_i (pw_g h 24 4)]) rfl (fun _ => rfl) ?_
  refine pw_if2 E (pc' := 19) rfl (by decide) (by omega) (by omega) (by decide) (by decide) ?_ ?_
  · intro hc3
    change pw_g h 24 4 ≠ (1 : Int) at hc3
    refine pw_ld E (pc' := 20) (st' := [pw_i 0]) rfl (fun _ => rfl) ?_
    refine pw_ist E (pc' := 22) (ls' := [some (.ref 40), some (.ref str), some (pw_i 0), some (pw_i (pw_g h 24 2)), some (pw_i 0), none, none]) rfl rfl rfl rfl ?_
    refine pw_ld E (pc' := 23) (st' := [pw_i 0]) rfl (fun _ => rfl) ?_
    refine pw_ist E (pc' := 25) (ls' := [some (.ref 40), some (.ref str), some (pw_i 0), some (pw_i (pw_g h 24 2)), some (pw_i 0), some (pw_i 0), none]) rfl rfl rfl rfl ?_
    have L25 : ∀ (n25 : Nat) (k25_2 : Int) (k25_3 : Int) (k25_4 : Int) (k25_5 : Int) (k25_6 : Option Value), 0 ≤ k25_2 → k25_2 ≤ 60 → 0 ≤ k25_3 → k25_3 ≤ 1060 → 0 ≤ k25_4 → k25_4 ≤ 1 → 0 ≤ k25_5 → k25_5 ≤ 60 → k25_2 ≤ k25_5 → k25_3 ≤ 1000 + k25_5 → (pw_g h 24 4 = 1 ∨ k25_4 = 0) → (60 - k25_5).toNat = n25 → pw X d h 108 25 [some (.ref 40), some (.ref str), some (pw_i k25_2), some (pw_i k25_3), some (pw_i k25_4), some (pw_i k25_5), k25_6] [] (fun h' v => h = h' ∧ ∃ a : Int, v = .inl (some (pw_i a)) ∧ (-1) ≤ a ∧ a ≤ 60 ∧ (pw_g h 24 4 = 1 ∨ a = -1)) := by
      intro n25
      induction n25 using Nat.strongRecOn with
      | ind n25 ih25 =>
        intro k25_2 k25_3 k25_4 k25_5 k25_6 k25_2a k25_2b k25_3a k25_3b k25_4a k25_4b k25_5a k25_5b hx25_0 hx25_1 hx25_2 hm25
        refine pw_ld E (pc' := 27) (st' := [pw_i k25_5]) rfl (fun _ => rfl) ?_
        refine pw_ld E (pc' := 28) (st' := [.ref str, pw_i k25_5]) rfl (fun _ => rfl) ?_
        refine pw_slen E rfl rfl strs rfl ?_
        refine pw_if2 E (pc' := 130) rfl (by decide) (by omega) (by omega) (by omega) (by omega) ?_ ?_
        · intro hc4
          change (strl.length : Int) ≤ k25_5 at hc4
          refine pw_ld E (pc' := 131) (st' := [pw_i ((-1))]) rfl (fun _ => rfl) ?_
          refine pw_iret E rfl ?_
          exact ⟨rfl, ⟨_, rfl, by omega, by omega, by omega⟩⟩
        · intro hc5
          change ¬ ((strl.length : Int) ≤ k25_5) at hc5
          refine pw_ld E (pc' := 35) (st' := [.ref str]) rfl (fun _ => rfl) ?_
          refine pw_ld E (pc' := 37) (st' := [pw_i k25_5, .ref str]) rfl (fun _ => rfl) ?_
          refine pw_schr E rfl rfl strs stri strn (by omega) (by omega) rfl (fun x6 hx6a hx6b => ?_)
          refine pw_ist E (pc' := 42) (ls' := [some (.ref 40), some (.ref str), some (pw_i k25_2), some (pw_i k25_3), some (pw_i k25_4), some (pw_i k25_5), some (pw_i x6)]) rfl rfl rfl rfl ?_
          refine pw_ld E (pc' := 44) (st' := [pw_i x6]) rfl (fun _ => rfl) ?_
          refine pw_bip E (pc' := 46) rfl rfl (by decide) ?_
          refine pw_if2 E (pc' := 86) rfl (by decide) (by omega) (by omega) (by decide) (by decide) ?_ ?_
          · intro hc7
            change x6 = (32 : Int) at hc7
            refine pw_ld E (pc' := 88) (st' := [pw_i k25_4]) rfl (fun _ => rfl) ?_
            refine pw_if E (pc' := 101) rfl (by decide) (by omega) (by omega) ?_ ?_
            · intro hc8
              change k25_4 = (0 : Int) at hc8
              refine pw_inc E (pc' := 104) (ls' := [some (.ref 40), some (.ref str), some (pw_i (k25_2 + 1)), some (pw_i k25_3), some (pw_i k25_4), some (pw_i k25_5), some (pw_i x6)]) rfl rfl rfl rfl ?_
              refine pw_ld E (pc' := 105) (st' := [.ref 40]) rfl (fun _ => rfl) ?_
              refine pw_getI2 I E (c := 24) (k := 2) (pc' := 108) rfl rfl rfl rfl rfl rfl (fun hf9a hf9b => ?_)
              refine pw_istn E (pc' := 109) (ls' := [some (.ref 40), some (.ref str), some (pw_i (k25_2 + 1)), some (pw_i (pw_g h 24 2)), some (pw_i k25_4), some (pw_i k25_5), some (pw_i x6)]) rfl rfl rfl rfl ?_
              refine pw_ld E (pc' := 110) (st' := [.ref 40]) rfl (fun _ => rfl) ?_
              refine pw_getI2 I E (c := 24) (k := 4) (pc' := 113) rfl rfl rfl rfl rfl rfl (fun hf10a hf10b => ?_)
              refine pw_ld E (pc' := 114) (st' := [pw_i 1, pw_i (pw_g h 24 4)]) rfl (fun _ => rfl) ?_
              refine pw_if2 E (pc' := 121) rfl (by decide) (by omega) (by omega) (by decide) (by decide) ?_ ?_
              · intro hc11
                change pw_g h 24 4 ≠ (1 : Int) at hc11
                refine pw_ld E (pc' := 122) (st' := [pw_i 0]) rfl (fun _ => rfl) ?_
                refine pw_ist E (pc' := 124) (ls' := [some (.ref 40), some (.ref str), some (pw_i (k25_2 + 1)), some (pw_i (pw_g h 24 2)), some (pw_i 0), some (pw_i k25_5), some (pw_i x6)]) rfl rfl rfl rfl ?_
                refine pw_inc E (pc' := 127) (ls' := [some (.ref 40), some (.ref str), some (pw_i (k25_2 + 1)), some (pw_i (pw_g h 24 2)), some (pw_i 0), some (pw_i (k25_5 + 1)), some (pw_i x6)]) rfl rfl rfl rfl ?_
                refine pw_goto E (pc' := 25) rfl (by decide) ?_
                exact ih25 _ (by omega) (k25_2 + 1) (pw_g h 24 2) (0) (k25_5 + 1) (some (pw_i x6))  (by omega) (by omega) (by omega) (by omega) (by omega) (by omega) (by omega) (by omega) (by omega) (by omega) (by omega) rfl
              · intro hc12
                change ¬ (pw_g h 24 4 ≠ (1 : Int)) at hc12
                refine pw_ld E (pc' := 118) (st' := [pw_i 1]) rfl (fun _ => rfl) ?_
                refine pw_goto E (pc' := 122) rfl (by decide) ?_
                refine pw_ist E (pc' := 124) (ls' := [some (.ref 40), some (.ref str), some (pw_i (k25_2 + 1)), some (pw_i (pw_g h 24 2)), some (pw_i 1), some (pw_i k25_5), some (pw_i x6)]) rfl rfl rfl rfl ?_
                refine pw_inc E (pc' := 127) (ls' := [some (.ref 40), some (.ref str), some (pw_i (k25_2 + 1)), some (pw_i (pw_g h 24 2)), some (pw_i 1), some (pw_i (k25_5 + 1)), some (pw_i x6)]) rfl rfl rfl rfl ?_
                refine pw_goto E (pc' := 25) rfl (by decide) ?_
                exact ih25 _ (by omega) (k25_2 + 1) (pw_g h 24 2) (1) (k25_5 + 1) (some (pw_i x6))  (by omega) (by omega) (by omega) (by omega) (by omega) (by omega) (by omega) (by omega) (by omega) (by omega) (by omega) rfl
            · intro hc13
              change ¬ (k25_4 = (0 : Int)) at hc13
              refine pw_ld E (pc' := 92) (st' := [pw_i k25_3]) rfl (fun _ => rfl) ?_
              refine pw_ld E (pc' := 93) (st' := [.ref 40, pw_i k25_3]) rfl (fun _ => rfl) ?_
              refine pw_getI2 I E (c := 24) (k := 3) (pc' := 96) rfl rfl rfl rfl rfl rfl (fun hf14a hf14b => ?_)
              refine pw_if2 E (pc' := 101) rfl (by decide) (by omega) (by omega) (by omega) (by omega) ?_ ?_
              · intro hc15
                change k25_3 ≠ pw_g h 24 3 at hc15
                refine pw_inc E (pc' := 104) (ls' := [some (.ref 40), some (.ref str), some (pw_i (k25_2 + 1)), some (pw_i k25_3), some (pw_i k25_4), some (pw_i k25_5), some (pw_i x6)]) rfl rfl rfl rfl ?_
                refine pw_ld E (pc' := 105) (st' := [.ref 40]) rfl (fun _ => rfl) ?_
                refine pw_getI2 I E (c := 24) (k := 2) (pc' := 108) rfl rfl rfl rfl rfl rfl (fun hf16a hf16b => ?_)
                refine pw_istn E (pc' := 109) (ls' := [some (.ref 40), some (.ref str), some (pw_i (k25_2 + 1)), some (pw_i (pw_g h 24 2)), some (pw_i k25_4), some (pw_i k25_5), some (pw_i x6)]) rfl rfl rfl rfl ?_
                refine pw_ld E (pc' := 110) (st' := [.ref 40]) rfl (fun _ => rfl) ?_
                refine pw_getI2 I E (c := 24) (k := 4) (pc' := 113) rfl rfl rfl rfl rfl rfl (fun hf17a hf17b => ?_)
                refine pw_ld E (pc' := 114) (st' := [pw_i 1, pw_i (pw_g h 24 4)]) rfl (fun _ => rfl) ?_
                refine pw_if2 E (pc' := 121) rfl (by decide) (by omega) (by omega) (by decide) (by decide) ?_ ?_
                · intro hc18
                  change pw_g h 24 4 ≠ (1 : Int) at hc18
                  refine pw_ld E (pc' := 122) (st' := [pw_i 0]) rfl (fun _ => rfl) ?_
                  refine pw_ist E (pc' := 124) (ls' := [some (.ref 40), some (.ref str), some (pw_i (k25_2 + 1)), some (pw_i (pw_g h 24 2)), some (pw_i 0), some (pw_i k25_5), some (pw_i x6)]) rfl rfl rfl rfl ?_
                  refine pw_inc E (pc' := 127) (ls' := [some (.ref 40), some (.ref str), some (pw_i (k25_2 + 1)), some (pw_i (pw_g h 24 2)), some (pw_i 0), some (pw_i (k25_5 + 1)), some (pw_i x6)]) rfl rfl rfl rfl ?_
                  refine pw_goto E (pc' := 25) rfl (by decide) ?_
                  exact ih25 _ (by omega) (k25_2 + 1) (pw_g h 24 2) (0) (k25_5 + 1) (some (pw_i x6))  (by omega) (by omega) (by omega) (by omega) (by omega) (by omega) (by omega) (by omega) (by omega) (by omega) (by omega) rfl
                · intro hc19
                  change ¬ (pw_g h 24 4 ≠ (1 : Int)) at hc19
                  refine pw_ld E (pc' := 118) (st' := [pw_i 1]) rfl (fun _ => rfl) ?_
                  refine pw_goto E (pc' := 122) rfl (by decide) ?_
                  refine pw_ist E (pc' := 124) (ls' := [some (.ref 40), some (.ref str), some (pw_i (k25_2 + 1)), some (pw_i (pw_g h 24 2)), some (pw_i 1), some (pw_i k25_5), some (pw_i x6)]) rfl rfl rfl rfl ?_
                  refine pw_inc E (pc' := 127) (ls' := [some (.ref 40), some (.ref str), some (pw_i (k25_2 + 1)), some (pw_i (pw_g h 24 2)), some (pw_i 1), some (pw_i (k25_5 + 1)), some (pw_i x6)]) rfl rfl rfl rfl ?_
                  refine pw_goto E (pc' := 25) rfl (by decide) ?_
                  exact ih25 _ (by omega) (k25_2 + 1) (pw_g h 24 2) (1) (k25_5 + 1) (some (pw_i x6))  (by omega) (by omega) (by omega) (by omega) (by omega) (by omega) (by omega) (by omega) (by omega) (by omega) (by omega) rfl
              · intro hc20
                change ¬ (k25_3 ≠ pw_g h 24 3) at hc20
                refine pw_ld E (pc' := 100) (st' := [pw_i k25_2]) rfl (fun _ => rfl) ?_
                refine pw_iret E rfl ?_
                exact ⟨rfl, ⟨_, rfl, by omega, by omega, by omega⟩⟩
          · intro hc21
            change ¬ (x6 = (32 : Int)) at hc21
            refine pw_ld E (pc' := 51) (st' := [pw_i k25_4]) rfl (fun _ => rfl) ?_
            refine pw_if E (pc' := 77) rfl (by decide) (by omega) (by omega) ?_ ?_
            · intro hc22
              change k25_4 = (0 : Int) at hc22
              refine pw_ld E (pc' := 78) (st' := [pw_i 0]) rfl (fun _ => rfl) ?_
              refine pw_ist E (pc' := 80) (ls' := [some (.ref 40), some (.ref str), some (pw_i k25_2), some (pw_i k25_3), some (pw_i 0), some (pw_i k25_5), some (pw_i x6)]) rfl rfl rfl rfl ?_
              refine pw_inc E (pc' := 83) (ls' := [some (.ref 40), some (.ref str), some (pw_i k25_2), some (pw_i (k25_3 + 1)), some (pw_i 0), some (pw_i k25_5), some (pw_i x6)]) rfl rfl rfl rfl ?_
              refine pw_goto E (pc' := 124) rfl (by decide) ?_
              refine pw_inc E (pc' := 127) (ls' := [some (.ref 40), some (.ref str), some (pw_i k25_2), some (pw_i (k25_3 + 1)), some (pw_i 0), some (pw_i (k25_5 + 1)), some (pw_i x6)]) rfl rfl rfl rfl ?_
              refine pw_goto E (pc' := 25) rfl (by decide) ?_
              exact ih25 _ (by omega) (k25_2) (k25_3 + 1) (0) (k25_5 + 1) (some (pw_i x6))  (by omega) (by omega) (by omega) (by omega) (by omega) (by omega) (by omega) (by omega) (by omega) (by omega) (by omega) rfl
            · intro hc23
              change ¬ (k25_4 = (0 : Int)) at hc23
              refine pw_ld E (pc' := 55) (st' := [pw_i k25_3]) rfl (fun _ => rfl) ?_
              refine pw_ld E (pc' := 56) (st' := [.ref 40, pw_i k25_3]) rfl (fun _ => rfl) ?_
              refine pw_getI2 I E (c := 24) (k := 3) (pc' := 59) rfl rfl rfl rfl rfl rfl (fun hf24a hf24b => ?_)
              refine pw_if2 E (pc' := 77) rfl (by decide) (by omega) (by omega) (by omega) (by omega) ?_ ?_
              · intro hc25
                change pw_g h 24 3 ≤ k25_3 at hc25
                refine pw_ld E (pc' := 78) (st' := [pw_i 0]) rfl (fun _ => rfl) ?_
                refine pw_ist E (pc' := 80) (ls' := [some (.ref 40), some (.ref str), some (pw_i k25_2), some (pw_i k25_3), some (pw_i 0), some (pw_i k25_5), some (pw_i x6)]) rfl rfl rfl rfl ?_
                refine pw_inc E (pc' := 83) (ls' := [some (.ref 40), some (.ref str), some (pw_i k25_2), some (pw_i (k25_3 + 1)), some (pw_i 0), some (pw_i k25_5), some (pw_i x6)]) rfl rfl rfl rfl ?_
                refine pw_goto E (pc' := 124) rfl (by decide) ?_
                refine pw_inc E (pc' := 127) (ls' := [some (.ref 40), some (.ref str), some (pw_i k25_2), some (pw_i (k25_3 + 1)), some (pw_i 0), some (pw_i (k25_5 + 1)), some (pw_i x6)]) rfl rfl rfl rfl ?_
                refine pw_goto E (pc' := 25) rfl (by decide) ?_
                exact ih25 _ (by omega) (k25_2) (k25_3 + 1) (0) (k25_5 + 1) (some (pw_i x6))  (by omega) (by omega) (by omega) (by omega) (by omega) (by omega) (by omega) (by omega) (by omega) (by omega) (by omega) rfl
              · intro hc26
                change ¬ (pw_g h 24 3 ≤ k25_3) at hc26
                refine pw_ld E (pc' := 63) (st' := [.ref 40]) rfl (fun _ => rfl) ?_
                refine pw_getR (b := 41) I E (c := 24) (k := 0) (pc' := 66) rfl rfl rfl rfl rfl rfl rfl ?_
                refine pw_ld E (pc' := 67) (st' := [pw_i k25_3, .ref 41]) rfl (fun _ => rfl) ?_
                refine pw_ald2 I E (c := 25) (pc' := 68) rfl rfl rfl (by decide) rfl (by decide) (by omega) (by omega) rfl (fun hf27a hf27b => ?_)
                refine pw_ld E (pc' := 70) (st' := [pw_i x6, pw_i (pw_g h 25 (k25_3.toNat))]) rfl (fun _ => rfl) ?_
                refine pw_if2 E (pc' := 77) rfl (by decide) (by omega) (by omega) (by omega) (by omega) ?_ ?_
                · intro hc28
                  change pw_g h 25 (k25_3.toNat) ≠ x6 at hc28
                  refine pw_ld E (pc' := 78) (st' := [pw_i 0]) rfl (fun _ => rfl) ?_
                  refine pw_ist E (pc' := 80) (ls' := [some (.ref 40), some (.ref str), some (pw_i k25_2), some (pw_i k25_3), some (pw_i 0), some (pw_i k25_5), some (pw_i x6)]) rfl rfl rfl rfl ?_
                  refine pw_inc E (pc' := 83) (ls' := [some (.ref 40), some (.ref str), some (pw_i k25_2), some (pw_i (k25_3 + 1)), some (pw_i 0), some (pw_i k25_5), some (pw_i x6)]) rfl rfl rfl rfl ?_
                  refine pw_goto E (pc' := 124) rfl (by decide) ?_
                  refine pw_inc E (pc' := 127) (ls' := [some (.ref 40), some (.ref str), some (pw_i k25_2), some (pw_i (k25_3 + 1)), some (pw_i 0), some (pw_i (k25_5 + 1)), some (pw_i x6)]) rfl rfl rfl rfl ?_
                  refine pw_goto E (pc' := 25) rfl (by decide) ?_
                  exact ih25 _ (by omega) (k25_2) (k25_3 + 1) (0) (k25_5 + 1) (some (pw_i x6))  (by omega) (by omega) (by omega) (by omega) (by omega) (by omega) (by omega) (by omega) (by omega) (by omega) (by omega) rfl
                · intro hc29
                  change ¬ (pw_g h 25 (k25_3.toNat) ≠ x6) at hc29
                  refine pw_ld E (pc' := 74) (st' := [pw_i 1]) rfl (fun _ => rfl) ?_
                  refine pw_goto E (pc' := 78) rfl (by decide) ?_
                  refine pw_ist E (pc' := 80) (ls' := [some (.ref 40), some (.ref str), some (pw_i k25_2), some (pw_i k25_3), some (pw_i 1), some (pw_i k25_5), some (pw_i x6)]) rfl rfl rfl rfl ?_
                  refine pw_inc E (pc' := 83) (ls' := [some (.ref 40), some (.ref str), some (pw_i k25_2), some (pw_i (k25_3 + 1)), some (pw_i 1), some (pw_i k25_5), some (pw_i x6)]) rfl rfl rfl rfl ?_
                  refine pw_goto E (pc' := 124) rfl (by decide) ?_
                  refine pw_inc E (pc' := 127) (ls' := [some (.ref 40), some (.ref str), some (pw_i k25_2), some (pw_i (k25_3 + 1)), some (pw_i 1), some (pw_i (k25_5 + 1)), some (pw_i x6)]) rfl rfl rfl rfl ?_
                  refine pw_goto E (pc' := 25) rfl (by decide) ?_
                  exact ih25 _ (by omega) (k25_2) (k25_3 + 1) (1) (k25_5 + 1) (some (pw_i x6))  (by omega) (by omega) (by omega) (by omega) (by omega) (by omega) (by omega) (by omega) (by omega) (by omega) (by omega) rfl
    exact L25 _ (0) (pw_g h 24 2) (0) (0) (none)  (by omega) (by omega) (by omega) (by omega) (by omega) (by omega) (by omega) (by omega) (by omega) (by omega) (by omega) rfl
  · intro hc30
    change ¬ (pw_g h 24 4 ≠ (1 : Int)) at hc30
    refine pw_ld E (pc' := 16) (st' := [pw_i 1]) rfl (fun _ => rfl) ?_
    refine pw_goto E (pc' := 20) rfl (by decide) ?_
    refine pw_ist E (pc' := 22) (ls' := [some (.ref 40), some (.ref str), some (pw_i 0), some (pw_i (pw_g h 24 2)), some (pw_i 1), none, none]) rfl rfl rfl rfl ?_
    refine pw_ld E (pc' := 23) (st' := [pw_i 0]) rfl (fun _ => rfl) ?_
    refine pw_ist E (pc' := 25) (ls' := [some (.ref 40), some (.ref str), some (pw_i 0), some (pw_i (pw_g h 24 2)), some (pw_i 1), some (pw_i 0), none]) rfl rfl rfl rfl ?_
    have L25 : ∀ (n25 : Nat) (k25_2 : Int) (k25_3 : Int) (k25_4 : Int) (k25_5 : Int) (k25_6 : Option Value), 0 ≤ k25_2 → k25_2 ≤ 60 → 0 ≤ k25_3 → k25_3 ≤ 1060 → 0 ≤ k25_4 → k25_4 ≤ 1 → 0 ≤ k25_5 → k25_5 ≤ 60 → k25_2 ≤ k25_5 → k25_3 ≤ 1000 + k25_5 → (pw_g h 24 4 = 1 ∨ k25_4 = 0) → (60 - k25_5).toNat = n25 → pw X d h 108 25 [some (.ref 40), some (.ref str), some (pw_i k25_2), some (pw_i k25_3), some (pw_i k25_4), some (pw_i k25_5), k25_6] [] (fun h' v => h = h' ∧ ∃ a : Int, v = .inl (some (pw_i a)) ∧ (-1) ≤ a ∧ a ≤ 60 ∧ (pw_g h 24 4 = 1 ∨ a = -1)) := by
      intro n25
      induction n25 using Nat.strongRecOn with
      | ind n25 ih25 =>
        intro k25_2 k25_3 k25_4 k25_5 k25_6 k25_2a k25_2b k25_3a k25_3b k25_4a k25_4b k25_5a k25_5b hx25_0 hx25_1 hx25_2 hm25
        refine pw_ld E (pc' := 27) (st' := [pw_i k25_5]) rfl (fun _ => rfl) ?_
        refine pw_ld E (pc' := 28) (st' := [.ref str, pw_i k25_5]) rfl (fun _ => rfl) ?_
        refine pw_slen E rfl rfl strs rfl ?_
        refine pw_if2 E (pc' := 130) rfl (by decide) (by omega) (by omega) (by omega) (by omega) ?_ ?_
        · intro hc31
          change (strl.length : Int) ≤ k25_5 at hc31
          refine pw_ld E (pc' := 131) (st' := [pw_i ((-1))]) rfl (fun _ => rfl) ?_
          refine pw_iret E rfl ?_
          exact ⟨rfl, ⟨_, rfl, by omega, by omega, by omega⟩⟩
        · intro hc32
          change ¬ ((strl.length : Int) ≤ k25_5) at hc32
          refine pw_ld E (pc' := 35) (st' := [.ref str]) rfl (fun _ => rfl) ?_
          refine pw_ld E (pc' := 37) (st' := [pw_i k25_5, .ref str]) rfl (fun _ => rfl) ?_
          refine pw_schr E rfl rfl strs stri strn (by omega) (by omega) rfl (fun x33 hx33a hx33b => ?_)
          refine pw_ist E (pc' := 42) (ls' := [some (.ref 40), some (.ref str), some (pw_i k25_2), some (pw_i k25_3), some (pw_i k25_4), some (pw_i k25_5), some (pw_i x33)]) rfl rfl rfl rfl ?_
          refine pw_ld E (pc' := 44) (st' := [pw_i x33]) rfl (fun _ => rfl) ?_
          refine pw_bip E (pc' := 46) rfl rfl (by decide) ?_
          refine pw_if2 E (pc' := 86) rfl (by decide) (by omega) (by omega) (by decide) (by decide) ?_ ?_
          · intro hc34
            change x33 = (32 : Int) at hc34
            refine pw_ld E (pc' := 88) (st' := [pw_i k25_4]) rfl (fun _ => rfl) ?_
            refine pw_if E (pc' := 101) rfl (by decide) (by omega) (by omega) ?_ ?_
            · intro hc35
              change k25_4 = (0 : Int) at hc35
              refine pw_inc E (pc' := 104) (ls' := [some (.ref 40), some (.ref str), some (pw_i (k25_2 + 1)), some (pw_i k25_3), some (pw_i k25_4), some (pw_i k25_5), some (pw_i x33)]) rfl rfl rfl rfl ?_
              refine pw_ld E (pc' := 105) (st' := [.ref 40]) rfl (fun _ => rfl) ?_
              refine pw_getI2 I E (c := 24) (k := 2) (pc' := 108) rfl rfl rfl rfl rfl rfl (fun hf36a hf36b => ?_)
              refine pw_istn E (pc' := 109) (ls' := [some (.ref 40), some (.ref str), some (pw_i (k25_2 + 1)), some (pw_i (pw_g h 24 2)), some (pw_i k25_4), some (pw_i k25_5), some (pw_i x33)]) rfl rfl rfl rfl ?_
              refine pw_ld E (pc' := 110) (st' := [.ref 40]) rfl (fun _ => rfl) ?_
              refine pw_getI2 I E (c := 24) (k := 4) (pc' := 113) rfl rfl rfl rfl rfl rfl (fun hf37a hf37b => ?_)
              refine pw_ld E (pc' := 114) (st' := [pw_i 1, pw_i (pw_g h 24 4)]) rfl (fun _ => rfl) ?_
              refine pw_if2 E (pc' := 121) rfl (by decide) (by omega) (by omega) (by decide) (by decide) ?_ ?_
              · intro hc38
                change pw_g h 24 4 ≠ (1 : Int) at hc38
                exfalso; omega
              · intro hc39
                change ¬ (pw_g h 24 4 ≠ (1 : Int)) at hc39
                refine pw_ld E (pc' := 118) (st' := [pw_i 1]) rfl (fun _ => rfl) ?_
                refine pw_goto E (pc' := 122) rfl (by decide) ?_
                refine pw_ist E (pc' := 124) (ls' := [some (.ref 40), some (.ref str), some (pw_i (k25_2 + 1)), some (pw_i (pw_g h 24 2)), some (pw_i 1), some (pw_i k25_5), some (pw_i x33)]) rfl rfl rfl rfl ?_
                refine pw_inc E (pc' := 127) (ls' := [some (.ref 40), some (.ref str), some (pw_i (k25_2 + 1)), some (pw_i (pw_g h 24 2)), some (pw_i 1), some (pw_i (k25_5 + 1)), some (pw_i x33)]) rfl rfl rfl rfl ?_
                refine pw_goto E (pc' := 25) rfl (by decide) ?_
                exact ih25 _ (by omega) (k25_2 + 1) (pw_g h 24 2) (1) (k25_5 + 1) (some (pw_i x33))  (by omega) (by omega) (by omega) (by omega) (by omega) (by omega) (by omega) (by omega) (by omega) (by omega) (by omega) rfl
            · intro hc40
              change ¬ (k25_4 = (0 : Int)) at hc40
              refine pw_ld E (pc' := 92) (st' := [pw_i k25_3]) rfl (fun _ => rfl) ?_
              refine pw_ld E (pc' := 93) (st' := [.ref 40, pw_i k25_3]) rfl (fun _ => rfl) ?_
              refine pw_getI2 I E (c := 24) (k := 3) (pc' := 96) rfl rfl rfl rfl rfl rfl (fun hf41a hf41b => ?_)
              refine pw_if2 E (pc' := 101) rfl (by decide) (by omega) (by omega) (by omega) (by omega) ?_ ?_
              · intro hc42
                change k25_3 ≠ pw_g h 24 3 at hc42
                refine pw_inc E (pc' := 104) (ls' := [some (.ref 40), some (.ref str), some (pw_i (k25_2 + 1)), some (pw_i k25_3), some (pw_i k25_4), some (pw_i k25_5), some (pw_i x33)]) rfl rfl rfl rfl ?_
                refine pw_ld E (pc' := 105) (st' := [.ref 40]) rfl (fun _ => rfl) ?_
                refine pw_getI2 I E (c := 24) (k := 2) (pc' := 108) rfl rfl rfl rfl rfl rfl (fun hf43a hf43b => ?_)
                refine pw_istn E (pc' := 109) (ls' := [some (.ref 40), some (.ref str), some (pw_i (k25_2 + 1)), some (pw_i (pw_g h 24 2)), some (pw_i k25_4), some (pw_i k25_5), some (pw_i x33)]) rfl rfl rfl rfl ?_
                refine pw_ld E (pc' := 110) (st' := [.ref 40]) rfl (fun _ => rfl) ?_
                refine pw_getI2 I E (c := 24) (k := 4) (pc' := 113) rfl rfl rfl rfl rfl rfl (fun hf44a hf44b => ?_)
                refine pw_ld E (pc' := 114) (st' := [pw_i 1, pw_i (pw_g h 24 4)]) rfl (fun _ => rfl) ?_
                refine pw_if2 E (pc' := 121) rfl (by decide) (by omega) (by omega) (by decide) (by decide) ?_ ?_
                · intro hc45
                  change pw_g h 24 4 ≠ (1 : Int) at hc45
                  exfalso; omega
                · intro hc46
                  change ¬ (pw_g h 24 4 ≠ (1 : Int)) at hc46
                  refine pw_ld E (pc' := 118) (st' := [pw_i 1]) rfl (fun _ => rfl) ?_
                  refine pw_goto E (pc' := 122) rfl (by decide) ?_
                  refine pw_ist E (pc' := 124) (ls' := [some (.ref 40), some (.ref str), some (pw_i (k25_2 + 1)), some (pw_i (pw_g h 24 2)), some (pw_i 1), some (pw_i k25_5), some (pw_i x33)]) rfl rfl rfl rfl ?_
                  refine pw_inc E (pc' := 127) (ls' := [some (.ref 40), some (.ref str), some (pw_i (k25_2 + 1)), some (pw_i (pw_g h 24 2)), some (pw_i 1), some (pw_i (k25_5 + 1)), some (pw_i x33)]) rfl rfl rfl rfl ?_
                  refine pw_goto E (pc' := 25) rfl (by decide) ?_
                  exact ih25 _ (by omega) (k25_2 + 1) (pw_g h 24 2) (1) (k25_5 + 1) (some (pw_i x33))  (by omega) (by omega) (by omega) (by omega) (by omega) (by omega) (by omega) (by omega) (by omega) (by omega) (by omega) rfl
              · intro hc47
                change ¬ (k25_3 ≠ pw_g h 24 3) at hc47
                refine pw_ld E (pc' := 100) (st' := [pw_i k25_2]) rfl (fun _ => rfl) ?_
                refine pw_iret E rfl ?_
                exact ⟨rfl, ⟨_, rfl, by omega, by omega, by omega⟩⟩
          · intro hc48
            change ¬ (x33 = (32 : Int)) at hc48
            refine pw_ld E (pc' := 51) (st' := [pw_i k25_4]) rfl (fun _ => rfl) ?_
            refine pw_if E (pc' := 77) rfl (by decide) (by omega) (by omega) ?_ ?_
            · intro hc49
              change k25_4 = (0 : Int) at hc49
              refine pw_ld E (pc' := 78) (st' := [pw_i 0]) rfl (fun _ => rfl) ?_
              refine pw_ist E (pc' := 80) (ls' := [some (.ref 40), some (.ref str), some (pw_i k25_2), some (pw_i k25_3), some (pw_i 0), some (pw_i k25_5), some (pw_i x33)]) rfl rfl rfl rfl ?_
              refine pw_inc E (pc' := 83) (ls' := [some (.ref 40), some (.ref str), some (pw_i k25_2), some (pw_i (k25_3 + 1)), some (pw_i 0), some (pw_i k25_5), some (pw_i x33)]) rfl rfl rfl rfl ?_
              refine pw_goto E (pc' := 124) rfl (by decide) ?_
              refine pw_inc E (pc' := 127) (ls' := [some (.ref 40), some (.ref str), some (pw_i k25_2), some (pw_i (k25_3 + 1)), some (pw_i 0), some (pw_i (k25_5 + 1)), some (pw_i x33)]) rfl rfl rfl rfl ?_
              refine pw_goto E (pc' := 25) rfl (by decide) ?_
              exact ih25 _ (by omega) (k25_2) (k25_3 + 1) (0) (k25_5 + 1) (some (pw_i x33))  (by omega) (by omega) (by omega) (by omega) (by omega) (by omega) (by omega) (by omega) (by omega) (by omega) (by omega) rfl
            · intro hc50
              change ¬ (k25_4 = (0 : Int)) at hc50
              refine pw_ld E (pc' := 55) (st' := [pw_i k25_3]) rfl (fun _ => rfl) ?_
              refine pw_ld E (pc' := 56) (st' := [.ref 40, pw_i k25_3]) rfl (fun _ => rfl) ?_
              refine pw_getI2 I E (c := 24) (k := 3) (pc' := 59) rfl rfl rfl rfl rfl rfl (fun hf51a hf51b => ?_)
              refine pw_if2 E (pc' := 77) rfl (by decide) (by omega) (by omega) (by omega) (by omega) ?_ ?_
              · intro hc52
                change pw_g h 24 3 ≤ k25_3 at hc52
                refine pw_ld E (pc' := 78) (st' := [pw_i 0]) rfl (fun _ => rfl) ?_
                refine pw_ist E (pc' := 80) (ls' := [some (.ref 40), some (.ref str), some (pw_i k25_2), some (pw_i k25_3), some (pw_i 0), some (pw_i k25_5), some (pw_i x33)]) rfl rfl rfl rfl ?_
                refine pw_inc E (pc' := 83) (ls' := [some (.ref 40), some (.ref str), some (pw_i k25_2), some (pw_i (k25_3 + 1)), some (pw_i 0), some (pw_i k25_5), some (pw_i x33)]) rfl rfl rfl rfl ?_
                refine pw_goto E (pc' := 124) rfl (by decide) ?_
                refine pw_inc E (pc' := 127) (ls' := [some (.ref 40), some (.ref str), some (pw_i k25_2), some (pw_i (k25_3 + 1)), some (pw_i 0), some (pw_i (k25_5 + 1)), some (pw_i x33)]) rfl rfl rfl rfl ?_
                refine pw_goto E (pc' := 25) rfl (by decide) ?_
                exact ih25 _ (by omega) (k25_2) (k25_3 + 1) (0) (k25_5 + 1) (some (pw_i x33))  (by omega) (by omega) (by omega) (by omega) (by omega) (by omega) (by omega) (by omega) (by omega) (by omega) (by omega) rfl
              · intro hc53
                change ¬ (pw_g h 24 3 ≤ k25_3) at hc53
                refine pw_ld E (pc' := 63) (st' := [.ref 40]) rfl (fun _ => rfl) ?_
                refine pw_getR (b := 41) I E (c := 24) (k := 0) (pc' := 66) rfl rfl rfl rfl rfl rfl rfl ?_
                refine pw_ld E (pc' := 67) (st' := [pw_i k25_3, .ref 41]) rfl (fun _ => rfl) ?_
                refine pw_ald2 I E (c := 25) (pc' := 68) rfl rfl rfl (by decide) rfl (by decide) (by omega) (by omega) rfl (fun hf54a hf54b => ?_)
                refine pw_ld E (pc' := 70) (st' := [pw_i x33, pw_i (pw_g h 25 (k25_3.toNat))]) rfl (fun _ => rfl) ?_
                refine pw_if2 E (pc' := 77) rfl (by decide) (by omega) (by omega) (by omega) (by omega) ?_ ?_
                · intro hc55
                  change pw_g h 25 (k25_3.toNat) ≠ x33 at hc55
                  refine pw_ld E (pc' := 78) (st' := [pw_i 0]) rfl (fun _ => rfl) ?_
                  refine pw_ist E (pc' := 80) (ls' := [some (.ref 40), some (.ref str), some (pw_i k25_2), some (pw_i k25_3), some (pw_i 0), some (pw_i k25_5), some (pw_i x33)]) rfl rfl rfl rfl ?_
                  refine pw_inc E (pc' := 83) (ls' := [some (.ref 40), some (.ref str), some (pw_i k25_2), some (pw_i (k25_3 + 1)), some (pw_i 0), some (pw_i k25_5), some (pw_i x33)]) rfl rfl rfl rfl ?_
                  refine pw_goto E (pc' := 124) rfl (by decide) ?_
                  refine pw_inc E (pc' := 127) (ls' := [some (.ref 40), some (.ref str), some (pw_i k25_2), some (pw_i (k25_3 + 1)), some (pw_i 0), some (pw_i (k25_5 + 1)), some (pw_i x33)]) rfl rfl rfl rfl ?_
                  refine pw_goto E (pc' := 25) rfl (by decide) ?_
                  exact ih25 _ (by omega) (k25_2) (k25_3 + 1) (0) (k25_5 + 1) (some (pw_i x33))  (by omega) (by omega) (by omega) (by omega) (by omega) (by omega) (by omega) (by omega) (by omega) (by omega) (by omega) rfl
                · intro hc56
                  change ¬ (pw_g h 25 (k25_3.toNat) ≠ x33) at hc56
                  refine pw_ld E (pc' := 74) (st' := [pw_i 1]) rfl (fun _ => rfl) ?_
                  refine pw_goto E (pc' := 78) rfl (by decide) ?_
                  refine pw_ist E (pc' := 80) (ls' := [some (.ref 40), some (.ref str), some (pw_i k25_2), some (pw_i k25_3), some (pw_i 1), some (pw_i k25_5), some (pw_i x33)]) rfl rfl rfl rfl ?_
                  refine pw_inc E (pc' := 83) (ls' := [some (.ref 40), some (.ref str), some (pw_i k25_2), some (pw_i (k25_3 + 1)), some (pw_i 1), some (pw_i k25_5), some (pw_i x33)]) rfl rfl rfl rfl ?_
                  refine pw_goto E (pc' := 124) rfl (by decide) ?_
                  refine pw_inc E (pc' := 127) (ls' := [some (.ref 40), some (.ref str), some (pw_i k25_2), some (pw_i (k25_3 + 1)), some (pw_i 1), some (pw_i (k25_5 + 1)), some (pw_i x33)]) rfl rfl rfl rfl ?_
                  refine pw_goto E (pc' := 25) rfl (by decide) ?_
                  exact ih25 _ (by omega) (k25_2) (k25_3 + 1) (1) (k25_5 + 1) (some (pw_i x33))  (by omega) (by omega) (by omega) (by omega) (by omega) (by omega) (by omega) (by omega) (by omega) (by omega) (by omega) rfl
    exact L25 _ (0) (pw_g h 24 2) (1) (0) (none)  (by omega) (by omega) (by omega) (by omega) (by omega) (by omega) (by omega) (by omega) (by omega) (by omega) (by omega) rfl
set_option maxHeartbeats 4000000 in
theorem cm_55_24 {X : List (Nat × List Value)} {d : Nat} {h : pm_H} (hd : 2 ≤ d) (I : pw_I h) (hX : pw_Xk X)  : pw X d h 55 0 [some (.ref 40), none] [] (fun h' v => h = h' ∧ ∃ a : Int, v = .inl (some (pw_i a)) ∧ (-1) ≤ a ∧ a ≤ 7 ∧ (a ≠ 0 ∧ (pw_g h 24 4 ≠ 4 ∨ a = -1))) := by
  have E : pm_ent 55 = some (1, 2, 5, 0, pmc_55) := rfl
  refine pw_ld E (pc' := 1) (st' := [.ref 40]) rfl (fun _ => rfl) ?_
  refine pw_ld E (pc' := 3) (st' := [.ref 11, .ref 40]) rfl (fun _ => rfl) ?_
  obtain ⟨f1l, f1h, -⟩ := pw_obj (c := 24) I rfl
  refine pw_call (m' := 108) (As := [.ref 40, .ref 11]) (rest := []) (ls'' := [some (.ref 40), some (.ref 11), none, none, none, none, none]) (Nat.le_trans (by decide) hd) E rfl (fun _ => pw_iV rfl rfl rfl rfl (pw_cellI f1h rfl)) (rfl : pm_ent 108 = some (2, 7, 9, 0, pmc_108)) rfl rfl (cm_108_24 (pw_dp hd (by decide)) I hX 11 (by omega) (by omega)) ?_
  rintro u3 v2 ⟨rfl, x4, rfl, hx4a, hx4b, hx4r⟩
  refine ⟨_, rfl, ?_⟩
  show pw X d h 55 6 [some (.ref 40), none] [pw_i x4] _
  change pw_g h 24 4 = 1 ∨ x4 = -1 at hx4r
  refine pw_istn E (pc' := 7) (ls' := [some (.ref 40), some (pw_i x4)]) rfl rfl rfl rfl ?_
  refine pw_ld E (pc' := 8) (st' := [pw_i x4]) rfl (fun _ => rfl) ?_
  refine pw_ld E (pc' := 9) (st' := [pw_i ((-1)), pw_i x4]) rfl (fun _ => rfl) ?_
  refine pw_if2 E (pc' := 22) rfl (by decide) (by omega) (by omega) (by decide) (by decide) ?_ ?_
  · intro hc5
    change x4 = ((-1) : Int) at hc5
    refine pw_ld E (pc' := 23) (st' := [.ref 40]) rfl (fun _ => rfl) ?_
    obtain ⟨f6l, f6h, -⟩ := pw_obj (c := 24) I rfl
    refine pw_call (m' := 107) (As := [.ref 40]) (rest := []) (ls'' := [some (.ref 40)]) (Nat.le_trans (by decide) hd) E rfl (fun _ => pw_iV rfl rfl rfl rfl (pw_cellI f6h rfl)) (rfl : pm_ent 107 = some (1, 1, 9, 0, pmc_107)) rfl rfl (cm_107_24 (pw_dp hd (by decide)) I ) ?_
    rintro u8 v7 ⟨rfl, x9, rfl, hx9a, hx9b, hx9r⟩
    refine ⟨_, rfl, ?_⟩
    show pw X d h 55 26 [some (.ref 40), some (pw_i x4)] [pw_i x9] _
    change x9 = pw_g h 24 4 at hx9r
    refine pw_ld E (pc' := 27) (st' := [pw_i 3, pw_i x9]) rfl (fun _ => rfl) ?_
    refine pw_if2 E (pc' := 32) rfl (by decide) (by omega) (by omega) (by decide) (by decide) ?_ ?_
    · intro hc10
      change x9 = (3 : Int) at hc10
      refine pw_ld E (pc' := 33) (st' := [.ref 40]) rfl (fun _ => rfl) ?_
      obtain ⟨f11l, f11h, -⟩ := pw_obj (c := 24) I rfl
      refine pw_call (m' := 110) (As := [.ref 40]) (rest := []) (ls'' := [some (.ref 40)]) (Nat.le_trans (by decide) hd) E rfl (fun _ => pw_iV rfl rfl rfl rfl (pw_cellI f11h rfl)) (rfl : pm_ent 110 = some (1, 1, 9, 0, pmc_110)) rfl rfl (cm_110 (pw_dp hd (by decide)) I ) ?_
      rintro u13 v12 ⟨rfl, x14, rfl, hx14a, hx14b⟩
      refine ⟨_, rfl, ?_⟩
      show pw X d h 55 36 [some (.ref 40), some (pw_i x4)] [pw_i x14] _
      rcases (by omega : x14 = 42 ∨ x14 = 43 ∨ x14 = 45 ∨ x14 = 60 ∨ x14 = 61 ∨ (x14 ≠ 42 ∧ x14 ≠ 43 ∧ x14 ≠ 45 ∧ x14 ≠ 60 ∧ x14 ≠ 61)) with hs15 | hs15 | hs15 | hs15 | hs15 | hs15
      · refine pw_lsw (o := 61) E (pc' := 97) rfl (by omega) (by omega) rfl (by rw [hs15]; rfl) (by decide) ?_
        refine pw_bip E (pc' := 99) rfl rfl (by decide) ?_
        refine pw_iret E rfl ?_
        exact ⟨rfl, ⟨_, rfl, by omega, by omega, by omega⟩⟩
      · refine pw_lsw (o := 56) E (pc' := 92) rfl (by omega) (by omega) rfl (by rw [hs15]; rfl) (by decide) ?_
        refine pw_ld E (pc' := 93) (st' := [pw_i 5]) rfl (fun _ => rfl) ?_
        refine pw_iret E rfl ?_
        exact ⟨rfl, ⟨_, rfl, by omega, by omega, by omega⟩⟩
      · refine pw_lsw (o := 58) E (pc' := 94) rfl (by omega) (by omega) rfl (by rw [hs15]; rfl) (by decide) ?_
        refine pw_bip E (pc' := 96) rfl rfl (by decide) ?_
        refine pw_iret E rfl ?_
        exact ⟨rfl, ⟨_, rfl, by omega, by omega, by omega⟩⟩
      · refine pw_lsw (o := 52) E (pc' := 88) rfl (by omega) (by omega) rfl (by rw [hs15]; rfl) (by decide) ?_
        refine pw_ld E (pc' := 89) (st' := [pw_i 3]) rfl (fun _ => rfl) ?_
        refine pw_iret E rfl ?_
        exact ⟨rfl, ⟨_, rfl, by omega, by omega, by omega⟩⟩
      · refine pw_lsw (o := 54) E (pc' := 90) rfl (by omega) (by omega) rfl (by rw [hs15]; rfl) (by decide) ?_
        refine pw_ld E (pc' := 91) (st' := [pw_i 4]) rfl (fun _ => rfl) ?_
        refine pw_iret E rfl ?_
        exact ⟨rfl, ⟨_, rfl, by omega, by omega, by omega⟩⟩
      · refine pw_lsw (o := 64) E (pc' := 100) rfl (by omega) (by omega) rfl (by simp only [Op.lookupswitch.offset]; repeat rw [if_neg (by omega)]) (by decide) ?_
        refine pw_ld E (pc' := 101) (st' := [pw_i ((-1))]) rfl (fun _ => rfl) ?_
        refine pw_iret E rfl ?_
        exact ⟨rfl, ⟨_, rfl, by omega, by omega, by omega⟩⟩
    · intro hc16
      change ¬ (x9 = (3 : Int)) at hc16
      refine pw_ld E (pc' := 31) (st' := [pw_i ((-1))]) rfl (fun _ => rfl) ?_
      refine pw_iret E rfl ?_
      exact ⟨rfl, ⟨_, rfl, by omega, by omega, by omega⟩⟩
  · intro hc17
    change ¬ (x4 = ((-1) : Int)) at hc17
    refine pw_ld E (pc' := 13) (st' := [pw_i x4]) rfl (fun _ => rfl) ?_
    refine pw_if E (pc' := 20) rfl (by decide) (by omega) (by omega) ?_ ?_
    · intro hc18
      change x4 ≠ (0 : Int) at hc18
      refine pw_ld E (pc' := 21) (st' := [pw_i 2]) rfl (fun _ => rfl) ?_
      refine pw_iret E rfl ?_
      exact ⟨rfl, ⟨_, rfl, by omega, by omega, by omega⟩⟩
    · intro hc19
      change ¬ (x4 ≠ (0 : Int)) at hc19
      refine pw_ld E (pc' := 17) (st' := [pw_i 1]) rfl (fun _ => rfl) ?_
      refine pw_goto E (pc' := 21) rfl (by decide) ?_
      refine pw_iret E rfl ?_
      exact ⟨rfl, ⟨_, rfl, by omega, by omega, by omega⟩⟩
end
section
/-! the Readers: an operator (printed by wip/tool/reader4.py) -/
set_option maxHeartbeats 4000000 in
theorem cm_50_26 {X : List (Nat × List Value)} {d : Nat} {h : pm_H} (hd : 4 ≤ d) (I : pw_I h) (hX : pw_Xk X) (hR : pw_Xr X) {T : Int} (P : pw_P 26 27 h T) : pw X d h 50 0 [some (.ref 42), some (.ref 40), some (.ref 46), none, none] [] (fun h' v => pw_I h' ∧ pw_E [26, 27, 30, 33, 36] h h' ∧ pw_P 26 27 h' (T + 1) ∧ ∃ a : Int, v = .inl (some (pw_i a)) ∧ 0 ≤ a ∧ a ≤ 1 ∧ (pw_g h 24 4 ≠ 4 ∨ a = 1)) := by
  have E : pm_ent 50 = some (3, 5, 5, 0, pmc_50) := rfl
  have E0 : pw_E [26, 27, 30, 33, 36] h h := pw_E.rf _ _
  have K71 : ∀ (h0 : pm_H) (x : Int), pw_I h0 → pw_E [26, 27, 30, 33, 36] h h0 → pw_P 26 27 h0 T → 1 ≤ x → x ≤ 7 → pw_g h 24 4 ≠ 4 → pw X d h0 50 71 [some (.ref 42), some (.ref 40), some (.ref 46), some (pw_i x), some (pw_i (pw_rk x))] [] (fun h' v => pw_I h' ∧ pw_E [26, 27, 30, 33, 36] h h' ∧ pw_P 26 27 h' (T + 1) ∧ ∃ a : Int, v = .inl (some (pw_i a)) ∧ 0 ≤ a ∧ a ≤ 1 ∧ (pw_g h 24 4 ≠ 4 ∨ a = 1)) := by
    intro h0 x I0 F0 P0 x1 x7 hk4
    have r1 := pw_rk1 x1 (by omega)
    have r4 := (pw_rk_le x).2
    refine pw_ld E (pc' := 72) (st' := [.ref 42]) rfl (fun _ => rfl) ?_
    refine pw_ld E (pc' := 74) (st' := [pw_i (pw_rk x), .ref 42]) rfl (fun _ => rfl) ?_
    refine pw_ld E (pc' := 75) (st' := [.ref 46, pw_i (pw_rk x), .ref 42]) rfl (fun _ => rfl) ?_
    obtain ⟨f1l, f1h, -⟩ := pw_obj (c := 26) I0 rfl
    refine pw_call (m' := 52) (As := [.ref 42, pw_i (pw_rk x), .ref 46]) (rest := []) (ls'' := [some (.ref 42), some (pw_i (pw_rk x)), some (.ref 46)]) (Nat.le_trans (by decide) hd) E rfl (fun _ => pw_iV rfl rfl rfl rfl (pw_cellI f1h rfl)) (rfl : pm_ent 52 = some (3, 3, 5, 4, pmc_52)) rfl rfl (cm_52_26 (pw_dp hd (by decide)) hR (pw_rk x) r1 r4 _ I0 rfl P0.1) ?_
    rintro h1 v3 ⟨h1I, h1E, ⟨h1J, h1t, h1p, h1k⟩, rfl⟩
    refine ⟨_, rfl, ?_⟩
    show pw X d h1 50 78 [some (.ref 42), some (.ref 40), some (.ref 46), some (pw_i x), some (pw_i (pw_rk x))] [] _
    have h1F := F0.tr (h1E.wk (W' := [26, 27, 30, 33, 36]) (by first | rfl | simp))
    refine pw_ld E (pc' := 79) (st' := [.ref 42]) rfl (fun _ => rfl) ?_
    refine pw_ld E (pc' := 80) (st' := [pw_i x, .ref 42]) rfl (fun _ => rfl) ?_
    obtain ⟨f2l, f2h, -⟩ := pw_obj (c := 26) h1I rfl
    refine pw_call (m' := 48) (As := [.ref 42, pw_i x]) (rest := []) (ls'' := [some (.ref 42), some (pw_i x)]) (Nat.le_trans (by decide) hd) E rfl (fun _ => pw_iV rfl rfl rfl rfl (pw_cellI f2h rfl)) (rfl : pm_ent 48 = some (2, 2, 5, 4, pmc_48)) rfl rfl (cm_48_26 (pw_dp hd (by decide)) h1I x x1 (by omega) h1J (Or.inr h1t) (fun h8 => by omega)) ?_
    rintro h2 v4 ⟨h2I, h2E, ⟨h2J, h2p, h2k⟩, rfl⟩
    refine ⟨_, rfl, ?_⟩
    show pw X d h2 50 83 [some (.ref 42), some (.ref 40), some (.ref 46), some (pw_i x), some (pw_i (pw_rk x))] [] _
    have h2F := h1F.tr (h2E.wk (W' := [26, 27, 30, 33, 36]) (by first | rfl | simp))
    rw [if_neg (by omega), if_neg (by omega)] at h2J
    have q5 : pw_g h2 26 5 = pw_g h0 26 5 := (h2k 5 (by decide)).trans (h1k 5 (by decide))
    have q6 : pw_g h2 26 6 = pw_g h0 26 6 := (h2k 6 (by decide)).trans (h1k 6 (by decide))
    have q1 : pw_g h2 30 1 = pw_g h1 30 1 := pw_Eg (c := 30) h1I h2E rfl rfl 1
    have P2 : pw_P 26 27 h2 (T + 1) := by
      obtain ⟨p1, p2, p3⟩ := P0
      refine ⟨?_, by omega, by omega⟩
      rw [q5, q6]
      simpa using h2J
    refine pw_ld E (pc' := 84) (st' := [.ref 42]) rfl (fun _ => rfl) ?_
    refine pw_ld E (pc' := 85) (st' := [pw_i 2, .ref 42]) rfl (fun _ => rfl) ?_
    refine pw_putI h2I E (c := 26) (k := 7) (pc' := 88) rfl rfl rfl rfl (by decide) (by decide) (by decide) (by decide) rfl rfl ?_
    intro h3I h3E
    generalize h3w : pw_w h2 26 7 (pw_i 2) = h3 at h3I h3E ⊢
    have h3F := h2F.tr (h3E.wk (W' := [26, 27, 30, 33, 36]) (by first | rfl | simp))
    have hn3 : ∀ c' k', ¬ (26 = c' ∧ 7 = k') → pw_g h3 c' k' = pw_g h2 c' k' := fun c' k' hn => by rw [← h3w]; exact pw_g_ne hn
    refine pw_ld E (pc' := 89) (st' := [pw_i 0]) rfl (fun _ => rfl) ?_
    refine pw_iret E rfl ?_
    exact ⟨h3I, h3F, pw_Pof P2 (hn3 _ _ (by decide)) (hn3 _ _ (by decide)) (hn3 _ _ (by decide)) (fun j => hn3 _ _ (by omega)) (hn3 _ _ (by decide)), ⟨_, rfl, by omega, by omega, Or.inl hk4⟩⟩
  refine pw_ld E (pc' := 1) (st' := [.ref 40]) rfl (fun _ => rfl) ?_
  refine pw_bip E (pc' := 3) rfl rfl (by decide) ?_
  obtain ⟨g59l, g59h, -⟩ := pw_obj (c := 24) I rfl
  refine pw_call (m' := 109) (As := [.ref 40, pw_i 59]) (rest := []) (ls'' := [some (.ref 40), some (pw_i 59)]) (Nat.le_trans (by decide) hd) E rfl (fun _ => pw_iV rfl rfl rfl rfl (pw_cellI g59h rfl)) (rfl : pm_ent 109 = some (2, 2, 9, 1, pmc_109)) rfl rfl (cm_109_24 (pw_dp hd (by decide)) I 59 (by decide) (by decide)) ?_
  rintro u59 w59 ⟨rfl, s1, rfl, hs1a, hs1b, hs1r⟩
  refine ⟨_, rfl, ?_⟩
  show pw X d h 50 6 [some (.ref 42), some (.ref 40), some (.ref 46), none, none] [pw_i s1] _
  change pw_g h 24 4 = 3 ∨ s1 = 0 at hs1r
  refine pw_if E (pc' := 15) rfl (by decide) (by omega) (by omega) ?_ ?_
  · intro hc1
    change s1 = (0 : Int) at hc1
    refine pw_ld E (pc' := 16) (st' := [.ref 40]) rfl (fun _ => rfl) ?_
    refine pw_bip E (pc' := 18) rfl rfl (by decide) ?_
    obtain ⟨g41l, g41h, -⟩ := pw_obj (c := 24) I rfl
    refine pw_call (m' := 109) (As := [.ref 40, pw_i 41]) (rest := []) (ls'' := [some (.ref 40), some (pw_i 41)]) (Nat.le_trans (by decide) hd) E rfl (fun _ => pw_iV rfl rfl rfl rfl (pw_cellI g41h rfl)) (rfl : pm_ent 109 = some (2, 2, 9, 1, pmc_109)) rfl rfl (cm_109_24 (pw_dp hd (by decide)) I 41 (by decide) (by decide)) ?_
    rintro u41 w41 ⟨rfl, s2, rfl, hs2a, hs2b, hs2r⟩
    refine ⟨_, rfl, ?_⟩
    show pw X d h 50 21 [some (.ref 42), some (.ref 40), some (.ref 46), none, none] [pw_i s2] _
    change pw_g h 24 4 = 3 ∨ s2 = 0 at hs2r
    refine pw_if E (pc' := 30) rfl (by decide) (by omega) (by omega) ?_ ?_
    · intro hc2
      change s2 = (0 : Int) at hc2
      refine pw_ld E (pc' := 31) (st' := [.ref 40]) rfl (fun _ => rfl) ?_
      refine pw_call (m' := 55) (As := [.ref 40]) (rest := []) (ls'' := [some (.ref 40), none]) (Nat.le_trans (by decide) hd) E rfl (fun _ => pw_iS rfl rfl rfl) (rfl : pm_ent 55 = some (1, 2, 5, 0, pmc_55)) rfl rfl (cm_55_24 (pw_dp hd (by decide)) I hX) ?_
      rintro u3 w3 ⟨rfl, x, rfl, hxa, hxb, hxr, hxe⟩
      refine ⟨_, rfl, ?_⟩
      show pw X d h 50 34 [some (.ref 42), some (.ref 40), some (.ref 46), none, none] [pw_i x] _
      refine pw_istn E (pc' := 35) (ls' := [some (.ref 42), some (.ref 40), some (.ref 46), some (pw_i x), none]) rfl rfl rfl rfl ?_
      refine pw_ld E (pc' := 36) (st' := [pw_i x]) rfl (fun _ => rfl) ?_
      refine pw_ld E (pc' := 37) (st' := [pw_i (-1), pw_i x]) rfl (fun _ => rfl) ?_
      refine pw_if2 E (pc' := 42) rfl (by decide) (by omega) (by omega) (by decide) (by decide) ?_ ?_
      · intro hc3
        change x ≠ (-1 : Int) at hc3
        refine pw_ld E (pc' := 45) (st' := [.ref 3]) rfl (fun _ => rfl) ?_
        refine pw_ld E (pc' := 46) (st' := [pw_i x, .ref 3]) rfl (fun _ => rfl) ?_
        refine pw_xaldR E (pc' := 47) rfl hR (by omega) (by omega) rfl ?_
        refine pw_ist E (pc' := 49) (ls' := [some (.ref 42), some (.ref 40), some (.ref 46), some (pw_i x), some (pw_i (pw_rk x))]) rfl rfl rfl rfl ?_
        have r1 := pw_rk1 (x := x) (by omega) (by omega)
        have r4 := (pw_rk_le x).2
        refine pw_ld E (pc' := 51) (st' := [pw_i (pw_rk x)]) rfl (fun _ => rfl) ?_
        refine pw_ld E (pc' := 52) (st' := [pw_i 2, pw_i (pw_rk x)]) rfl (fun _ => rfl) ?_
        refine pw_if2 E (pc' := 71) rfl (by decide) (by omega) (by omega) (by decide) (by decide) ?_ ?_
        · intro _
          exact K71 h x I E0 P (by omega) (by omega) (by omega)
        · intro _
          refine pw_ld E (pc' := 56) (st' := [.ref 42]) rfl (fun _ => rfl) ?_
          refine pw_ld E (pc' := 57) (st' := [pw_i 3, .ref 42]) rfl (fun _ => rfl) ?_
          refine pw_ld E (pc' := 58) (st' := [.ref 46, pw_i 3, .ref 42]) rfl (fun _ => rfl) ?_
          obtain ⟨f1l, f1h, -⟩ := pw_obj (c := 26) I rfl
          refine pw_call (m' := 52) (As := [.ref 42, pw_i 3, .ref 46]) (rest := []) (ls'' := [some (.ref 42), some (pw_i 3), some (.ref 46)]) (Nat.le_trans (by decide) hd) E rfl (fun _ => pw_iV rfl rfl rfl rfl (pw_cellI f1h rfl)) (rfl : pm_ent 52 = some (3, 3, 5, 4, pmc_52)) rfl rfl (cm_52_26 (pw_dp hd (by decide)) hR 3 (by decide) (by decide) _ I rfl P.1) ?_
          rintro h1 v3 ⟨h1I, h1E, ⟨h1J, h1t, h1p, h1k⟩, rfl⟩
          refine ⟨_, rfl, ?_⟩
          show pw X d h1 50 61 [some (.ref 42), some (.ref 40), some (.ref 46), some (pw_i x), some (pw_i (pw_rk x))] [] _
          have h1F := E0.tr (h1E.wk (W' := [26, 27, 30, 33, 36]) (by first | rfl | simp))
          have P1 : pw_P 26 27 h1 T := ⟨by rw [h1k 5 (by decide), h1k 6 (by decide)]; exact h1J, by rw [h1k 6 (by decide)]; exact P.2.1, by have := P.2.2; omega⟩
          refine pw_ld E (pc' := 62) (st' := [.ref 42]) rfl (fun _ => rfl) ?_
          obtain ⟨f2l, f2h, -⟩ := pw_obj (c := 26) h1I rfl
          refine pw_call (m' := 53) (As := [.ref 42]) (rest := []) (ls'' := [some (.ref 42)]) (Nat.le_trans (by decide) hd) E rfl (fun _ => pw_iV rfl rfl rfl rfl (pw_cellI f2h rfl)) (rfl : pm_ent 53 = some (1, 1, 5, 0, pmc_53)) rfl rfl (cm_53_26 (pw_dp hd (by decide)) h1I hR) ?_
          rintro u4 w4 ⟨rfl, rfl⟩
          refine ⟨_, rfl, ?_⟩
          show pw X d h1 50 65 [some (.ref 42), some (.ref 40), some (.ref 46), some (pw_i x), some (pw_i (pw_rk x))] [pw_i (pw_tr 26 27 h1)] _
          have ht : 0 ≤ pw_tr 26 27 h1 ∧ pw_tr 26 27 h1 ≤ 4 := by
            unfold pw_tr
            split
            · omega
            · exact pw_rk_le _
          refine pw_ld E (pc' := 66) (st' := [pw_i 2, pw_i (pw_tr 26 27 h1)]) rfl (fun _ => rfl) ?_
          refine pw_if2 E (pc' := 71) rfl (by decide) (by omega) (by omega) (by decide) (by decide) ?_ ?_
          · intro _
            exact K71 h1 x h1I h1F P1 (by omega) (by omega) (by omega)
          · intro _
            refine pw_ld E (pc' := 70) (st' := [pw_i 1]) rfl (fun _ => rfl) ?_
            refine pw_iret E rfl ?_
            exact ⟨h1I, h1F, P1.wk (by omega), ⟨_, rfl, by omega, by omega, Or.inr rfl⟩⟩
      · intro _
        refine pw_ld E (pc' := 41) (st' := [pw_i 1]) rfl (fun _ => rfl) ?_
        refine pw_iret E rfl ?_
        exact ⟨I, E0, P.wk (by omega), ⟨_, rfl, by omega, by omega, Or.inr rfl⟩⟩
    · intro hc2
      change ¬ (s2 = (0 : Int)) at hc2
      refine pw_ld E (pc' := 25) (st' := [.ref 42]) rfl (fun _ => rfl) ?_
      refine pw_ld E (pc' := 26) (st' := [.ref 46, .ref 42]) rfl (fun _ => rfl) ?_
      obtain ⟨k54l, k54h, -⟩ := pw_obj (c := 26) I rfl
      refine pw_call (m' := 54) (As := [.ref 42, .ref 46]) (rest := []) (ls'' := [some (.ref 42), some (.ref 46)]) (Nat.le_trans (by decide) hd) E rfl (fun _ => pw_iV rfl rfl rfl rfl (pw_cellI k54h rfl)) (rfl : pm_ent 54 = some (2, 2, 5, 0, pmc_54)) rfl rfl (cm_54_26 (pw_dp hd (by decide)) I hR P) ?_
      rintro h1 v1 ⟨h1I, h1E, h1P, y, rfl, hya, hyb⟩
      refine ⟨_, rfl, ?_⟩
      show pw X d h1 50 29 [some (.ref 42), some (.ref 40), some (.ref 46), none, none] [pw_i y] _
      refine pw_iret E rfl ?_
      exact ⟨h1I, h1E, h1P.wk (by omega), ⟨_, rfl, by omega, by omega, Or.inl (by omega)⟩⟩
  · intro hc1
    change ¬ (s1 = (0 : Int)) at hc1
    refine pw_ld E (pc' := 10) (st' := [.ref 42]) rfl (fun _ => rfl) ?_
    refine pw_ld E (pc' := 11) (st' := [.ref 46, .ref 42]) rfl (fun _ => rfl) ?_
    obtain ⟨k51l, k51h, -⟩ := pw_obj (c := 26) I rfl
    refine pw_call (m' := 51) (As := [.ref 42, .ref 46]) (rest := []) (ls'' := [some (.ref 42), some (.ref 46)]) (Nat.le_trans (by decide) hd) E rfl (fun _ => pw_iV rfl rfl rfl rfl (pw_cellI k51h rfl)) (rfl : pm_ent 51 = some (2, 2, 5, 0, pmc_51)) rfl rfl (cm_51_26 (pw_dp hd (by decide)) I hR P) ?_
    rintro h1 v1 ⟨h1I, h1E, h1P, y, rfl, hya, hyb⟩
    refine ⟨_, rfl, ?_⟩
    show pw X d h1 50 14 [some (.ref 42), some (.ref 40), some (.ref 46), none, none] [pw_i y] _
    refine pw_iret E rfl ?_
    exact ⟨h1I, h1E, h1P.wk (by omega), ⟨_, rfl, by omega, by omega, Or.inl (by omega)⟩⟩
end
section
/-! the Readers: an operand (printed by wip/tool/reader5.py) -/
set_option maxHeartbeats 4000000 in
theorem cm_47_26 {X : List (Nat × List Value)} {d : Nat} {h : pm_H} (hd : 3 ≤ d) (I : pw_I h) (hX : pw_Xk X) {T : Int} (P : pw_P 26 27 h T) : pw X d h 47 0 [some (.ref 42), some (.ref 40), some (.ref 46), none, none, none, none] [] (fun h' v => pw_I h' ∧ pw_E [26, 27, 30, 33, 36] h h' ∧ pw_P 26 27 h' (T + 1) ∧ ∃ a : Int, v = .inl (some (pw_i a)) ∧ 0 ≤ a ∧ a ≤ 5 ∧ (pw_g h 24 4 ≠ 4 ∨ a = 1)) := by
  have E : pm_ent 47 = some (3, 7, 5, 0, pmc_47) := rfl
  have E0 : pw_E [26, 27, 30, 33, 36] h h := pw_E.rf _ _
  obtain ⟨b1, b2, b3⟩ := pw_Pb P
  have K158 : ∀ (nt opn nb fa w : Int), -2147483648 ≤ w → w ≤ 2147483647 → pw_g h 24 4 ≠ 4 → pw X d h 47 158 [some (.ref 42), some (.ref 40), some (.ref 46), some (pw_i nt), some (pw_i opn), some (pw_i nb), some (pw_i fa)] [pw_i w, pw_i (pw_g h 26 8), .ref 46] (fun h' v => pw_I h' ∧ pw_E [26, 27, 30, 33, 36] h h' ∧ pw_P 26 27 h' (T + 1) ∧ ∃ a : Int, v = .inl (some (pw_i a)) ∧ 0 ≤ a ∧ a ≤ 5 ∧ (pw_g h 24 4 ≠ 4 ∨ a = 1)) := by
    intro nt opn nb fa w w1 w2 hk4
    have l8 := pw_gI (c := 26) (k := 8) I rfl rfl
    obtain ⟨f1l, f1h, -⟩ := pw_obj (c := 30) I rfl
    refine pw_call (m' := 71) (As := [.ref 46, pw_i (pw_g h 26 8), pw_i w]) (rest := []) (ls'' := [some (.ref 46), some (pw_i (pw_g h 26 8)), some (pw_i w)]) (Nat.le_trans (by decide) hd) E rfl (fun _ => pw_iV rfl rfl rfl rfl (pw_cellI f1h rfl)) (rfl : pm_ent 71 = some (3, 3, 7, 4, pmc_71)) rfl rfl (cm_71_30 (pw_dp hd (by decide)) I _ l8.1 l8.2.1 _ w1 w2) ?_
    rintro h1 v3 ⟨h1I, h1E, h1p, rfl⟩
    refine ⟨_, rfl, ?_⟩
    show pw X d h1 47 161 [some (.ref 42), some (.ref 40), some (.ref 46), some (pw_i nt), some (pw_i opn), some (pw_i nb), some (pw_i fa)] [] _
    have F1 := E0.tr (h1E.wk (W' := [26, 27, 30, 33, 36]) (by first | rfl | simp))
    have g1 : ∀ k, pw_g h1 26 k = pw_g h 26 k := fun k => pw_Eg (c := 26) I h1E rfl rfl k
    have w1 : ∀ j, pw_g h1 27 j = pw_g h 27 j := fun k => pw_Eg (c := 27) I h1E rfl rfl k
    have J1 : pw_J 26 27 h1 (pw_g h1 26 5) (pw_g h1 26 6) := by
      rw [g1 5, g1 6]
      exact pw_Jof (h := h) P.1 w1 (by rw [g1 4])
    have p2 := P.2.1
    have p3 := P.2.2
    have g14 := g1 4
    have g16 := g1 6
    refine pw_ld E (pc' := 162) (st' := [.ref 42]) rfl (fun _ => rfl) ?_
    refine pw_ld E (pc' := 163) (st' := [.ref 46, .ref 42]) rfl (fun _ => rfl) ?_
    obtain ⟨f2l, f2h, -⟩ := pw_obj (c := 26) h1I rfl
    refine pw_call (m' := 49) (As := [.ref 42, .ref 46]) (rest := []) (ls'' := [some (.ref 42), some (.ref 46)]) (Nat.le_trans (by decide) hd) E rfl (fun _ => pw_iV rfl rfl rfl rfl (pw_cellI f2h rfl)) (rfl : pm_ent 49 = some (2, 2, 5, 4, pmc_49)) rfl rfl (cm_49_26 (pw_dp hd (by decide)) _ h1I rfl J1 (by omega)) ?_
    rintro h2 v4 ⟨h2I, h2E, ⟨h2J, h2p, h27, h26, h28⟩, rfl⟩
    refine ⟨_, rfl, ?_⟩
    show pw X d h2 47 166 [some (.ref 42), some (.ref 40), some (.ref 46), some (pw_i nt), some (pw_i opn), some (pw_i nb), some (pw_i fa)] [] _
    have F2 := F1.tr (h2E.wk (W' := [26, 27, 30, 33, 36]) (by first | rfl | simp))
    refine pw_ld E (pc' := 167) (st' := [pw_i 0]) rfl (fun _ => rfl) ?_
    refine pw_iret E rfl ?_
    exact ⟨h2I, F2, ⟨h2J, by omega, by omega⟩, ⟨_, rfl, by omega, by omega, Or.inl hk4⟩⟩
  have K135 : ∀ (nt opn nb fa : Int), (nt = 0 ∨ (nt = 1 ∧ pw_g h 24 4 = 1)) → (opn = 0 ∨ (opn = 1 ∧ pw_g h 24 4 = 3)) → (nb = 0 ∨ (nb = 1 ∧ pw_g h 24 4 = 2)) → -1 ≤ fa → fa ≤ 60 → (pw_g h 24 4 = 1 ∨ fa = -1) → pw_g h 24 4 ≠ 4 → pw X d h 47 135 [some (.ref 42), some (.ref 40), some (.ref 46), some (pw_i nt), some (pw_i opn), some (pw_i nb), some (pw_i fa)] [] (fun h' v => pw_I h' ∧ pw_E [26, 27, 30, 33, 36] h h' ∧ pw_P 26 27 h' (T + 1) ∧ ∃ a : Int, v = .inl (some (pw_i a)) ∧ 0 ≤ a ∧ a ≤ 5 ∧ (pw_g h 24 4 ≠ 4 ∨ a = 1)) := by
    intro nt opn nb fa y1 y2 y3 y4 y5 y6 hk4
    refine pw_ld E (pc' := 136) (st' := [.ref 46]) rfl (fun _ => rfl) ?_
    refine pw_ld E (pc' := 137) (st' := [.ref 42, .ref 46]) rfl (fun _ => rfl) ?_
    refine pw_getI I E (c := 26) (k := 8) (pc' := 140) rfl rfl rfl rfl rfl rfl (fun ga1 ga2 ga3 ga4 => ?_)
    refine pw_ld E (pc' := 142) (st' := [pw_i nb, pw_i (pw_g h 26 8), .ref 46]) rfl (fun _ => rfl) ?_
    refine pw_if E (pc' := 152) rfl (by decide) (by omega) (by omega) ?_ ?_
    · intro _
      refine pw_sip E (pc' := 155) rfl rfl (by decide) ?_
      refine pw_ld E (pc' := 157) (st' := [pw_i fa, pw_i 10000, pw_i (pw_g h 26 8), .ref 46]) rfl (fun _ => rfl) ?_
      refine pw_add E (pc' := 158) rfl rfl ?_
      exact K158 nt opn nb fa _ (by omega) (by omega) hk4
    · intro _
      refine pw_ld E (pc' := 146) (st' := [.ref 40, pw_i (pw_g h 26 8), .ref 46]) rfl (fun _ => rfl) ?_
      obtain ⟨f1l, f1h, -⟩ := pw_obj (c := 24) I rfl
      refine pw_call (m' := 110) (As := [.ref 40]) (rest := [pw_i (pw_g h 26 8), .ref 46]) (ls'' := [some (.ref 40)]) (Nat.le_trans (by decide) hd) E rfl (fun _ => pw_iV rfl rfl rfl rfl (pw_cellI f1h rfl)) (rfl : pm_ent 110 = some (1, 1, 9, 0, pmc_110)) rfl rfl (cm_110 (pw_dp hd (by decide)) I) ?_
      rintro u1 w1 ⟨rfl, x, rfl, hxa, hxb⟩
      refine ⟨_, rfl, ?_⟩
      show pw X d h 47 149 [some (.ref 42), some (.ref 40), some (.ref 46), some (pw_i nt), some (pw_i opn), some (pw_i nb), some (pw_i fa)] [pw_i x, pw_i (pw_g h 26 8), .ref 46] _
      refine pw_goto E (pc' := 158) rfl (by decide) ?_
      exact K158 nt opn nb fa _ (by omega) (by omega) hk4
  have K89 : ∀ (nt opn nb fa : Int), (nt = 0 ∨ (nt = 1 ∧ pw_g h 24 4 = 1)) → (opn = 0 ∨ (opn = 1 ∧ pw_g h 24 4 = 3)) → (nb = 0 ∨ (nb = 1 ∧ pw_g h 24 4 = 2)) → -1 ≤ fa → fa ≤ 60 → (pw_g h 24 4 = 1 ∨ fa = -1) → (nt ≠ 0 ∨ opn ≠ 0) → pw_g h 26 5 ≤ 4 → pw_g h 24 4 ≠ 4 → pw X d h 47 89 [some (.ref 42), some (.ref 40), some (.ref 46), some (pw_i nt), some (pw_i opn), some (pw_i nb), some (pw_i fa)] [] (fun h' v => pw_I h' ∧ pw_E [26, 27, 30, 33, 36] h h' ∧ pw_P 26 27 h' (T + 1) ∧ ∃ a : Int, v = .inl (some (pw_i a)) ∧ 0 ≤ a ∧ a ≤ 5 ∧ (pw_g h 24 4 ≠ 4 ∨ a = 1)) := by
    intro nt opn nb fa y1 y2 y3 y4 y5 y6 y7 hd4 hk4
    have cs : (nt = 1 ∧ opn = 0) ∨ (nt = 0 ∧ opn = 1) := by omega
    rcases cs with ⟨rfl, rfl⟩ | ⟨rfl, rfl⟩
    · refine pw_ld E (pc' := 90) (st' := [.ref 42]) rfl (fun _ => rfl) ?_
      refine pw_ld E (pc' := 91) (st' := [.ref 42, .ref 42]) rfl (fun _ => rfl) ?_
      refine pw_getI I E (c := 26) (k := 5) (pc' := 94) rfl rfl rfl rfl rfl rfl (fun ga1 ga2 ga3 ga4 => ?_)
      refine pw_ld E (pc' := 95) (st' := [pw_i 1, pw_i (pw_g h 26 5), .ref 42]) rfl (fun _ => rfl) ?_
      refine pw_add E (pc' := 96) rfl rfl ?_
      refine pw_putI I E (c := 26) (k := 5) (pc' := 99) rfl rfl rfl rfl (by omega) (by omega) (by omega) (by omega) rfl rfl ?_
      intro h1I h1E
      generalize h1w : pw_w h 26 5 (pw_i (pw_g h 26 5 + 1)) = h1 at h1I h1E ⊢
      have F1 := E0.tr (h1E.wk (W' := [26, 27, 30, 33, 36]) (by first | rfl | simp))
      have nh1 : ∀ c' k', ¬ (26 = c' ∧ 5 = k') → pw_g h1 c' k' = pw_g h c' k' := fun c' k' hn => by rw [← h1w]; exact pw_g_ne hn
      have eh1 : pw_g h1 26 5 = pw_g h 26 5 + 1 := by rw [← h1w]; exact pw_g_eq (c := 26) (k := 5) I rfl rfl (by omega) (by omega)
      have m16 := nh1 26 6 (by decide)
      refine pw_ld E (pc' := 100) (st' := [.ref 42]) rfl (fun _ => rfl) ?_
      refine pw_ld E (pc' := 101) (st' := [.ref 42, .ref 42]) rfl (fun _ => rfl) ?_
      refine pw_getI h1I E (c := 26) (k := 6) (pc' := 104) rfl rfl rfl rfl rfl rfl (fun gb1 gb2 gb3 gb4 => ?_)
      refine pw_ld E (pc' := 106) (st' := [pw_i 0, pw_i (pw_g h1 26 6), .ref 42]) rfl (fun _ => rfl) ?_
      refine pw_if E (pc' := 113) rfl (by decide) (by omega) (by omega) ?_ ?_
      · intro _
        refine pw_ld E (pc' := 114) (st' := [pw_i 0, pw_i (pw_g h1 26 6), .ref 42]) rfl (fun _ => rfl) ?_
        refine pw_add E (pc' := 115) rfl rfl ?_
        refine pw_putI h1I E (c := 26) (k := 6) (pc' := 118) rfl rfl rfl rfl (by omega) (by omega) (by omega) (by omega) rfl rfl ?_
        intro h2I h2E
        generalize h2w : pw_w h1 26 6 (pw_i (pw_g h1 26 6 + 0)) = h2 at h2I h2E ⊢
        have F2 := F1.tr (h2E.wk (W' := [26, 27, 30, 33, 36]) (by first | rfl | simp))
        have nh2 : ∀ c' k', ¬ (26 = c' ∧ 6 = k') → pw_g h2 c' k' = pw_g h1 c' k' := fun c' k' hn => by rw [← h2w]; exact pw_g_ne hn
        have eh2 : pw_g h2 26 6 = pw_g h1 26 6 + 0 := by rw [← h2w]; exact pw_g_eq (c := 26) (k := 6) h1I rfl rfl (by omega) (by omega)
        have m25 := nh2 26 5 (by decide)
        have m24 := (nh2 26 4 (by decide)).trans (nh1 26 4 (by decide))
        have m21 := (nh2 30 1 (by decide)).trans (nh1 30 1 (by decide))
        have J2 : pw_J 26 27 h2 (pw_g h 26 5) (pw_g h 26 6) := pw_Jof (h := h) P.1 (fun j => (nh2 27 j (by omega)).trans (nh1 27 j (by omega))) (by rw [m24])
        refine pw_ld E (pc' := 119) (st' := [.ref 42]) rfl (fun _ => rfl) ?_
        refine pw_ld E (pc' := 120) (st' := [pw_i 1, .ref 42]) rfl (fun _ => rfl) ?_
        refine pw_if E (pc' := 128) rfl (by decide) (by omega) (by omega) ?_ ?_
        · intro hz
          change (1 : Int) = 0 at hz
          exfalso; omega
        · intro _
          refine pw_bip E (pc' := 125) rfl rfl (by decide) ?_
          refine pw_goto E (pc' := 130) rfl (by decide) ?_
          obtain ⟨f2l, f2h, -⟩ := pw_obj (c := 26) h2I rfl
          refine pw_call (m' := 48) (As := [.ref 42, pw_i 8]) (rest := []) (ls'' := [some (.ref 42), some (pw_i 8)]) (Nat.le_trans (by decide) hd) E rfl (fun _ => pw_iV rfl rfl rfl rfl (pw_cellI f2h rfl)) (rfl : pm_ent 48 = some (2, 2, 5, 4, pmc_48)) rfl rfl (cm_48_26 (pw_dp hd (by decide)) h2I 8 (by decide) (by decide) J2 (Or.inl (by decide)) (fun _ => by omega)) ?_
          rintro h3 v4 ⟨h3I, h3E, ⟨h3J, h3p, h3k⟩, rfl⟩
          refine ⟨_, rfl, ?_⟩
          show pw X d h3 47 133 [some (.ref 42), some (.ref 40), some (.ref 46), some (pw_i 1), some (pw_i 0), some (pw_i nb), some (pw_i fa)] [] _
          have F3 := F2.tr (h3E.wk (W' := [26, 27, 30, 33, 36]) (by first | rfl | simp))
          rw [if_pos (by decide), if_neg (by decide)] at h3J
          have m31 : pw_g h3 30 1 = pw_g h2 30 1 := pw_Eg (c := 30) h2I h3E rfl rfl 1
          have m35 := h3k 5 (by decide)
          have m36 := h3k 6 (by decide)
          have P3 : pw_P 26 27 h3 (T + 1) := by
            obtain ⟨p1, p2, p3⟩ := P
            refine ⟨?_, by omega, by omega⟩
            rw [show pw_g h3 26 5 = pw_g h 26 5 + 1 by omega, show pw_g h3 26 6 = pw_g h 26 6 + 0 by omega]
            exact h3J
          refine pw_ld E (pc' := 134) (st' := [pw_i 0]) rfl (fun _ => rfl) ?_
          refine pw_iret E rfl ?_
          exact ⟨h3I, F3, P3, ⟨_, rfl, by omega, by omega, Or.inl hk4⟩⟩
      · intro hz
        change ¬ ((0 : Int) = 0) at hz
        exfalso; omega
    · refine pw_ld E (pc' := 90) (st' := [.ref 42]) rfl (fun _ => rfl) ?_
      refine pw_ld E (pc' := 91) (st' := [.ref 42, .ref 42]) rfl (fun _ => rfl) ?_
      refine pw_getI I E (c := 26) (k := 5) (pc' := 94) rfl rfl rfl rfl rfl rfl (fun ga1 ga2 ga3 ga4 => ?_)
      refine pw_ld E (pc' := 95) (st' := [pw_i 1, pw_i (pw_g h 26 5), .ref 42]) rfl (fun _ => rfl) ?_
      refine pw_add E (pc' := 96) rfl rfl ?_
      refine pw_putI I E (c := 26) (k := 5) (pc' := 99) rfl rfl rfl rfl (by omega) (by omega) (by omega) (by omega) rfl rfl ?_
      intro h1I h1E
      generalize h1w : pw_w h 26 5 (pw_i (pw_g h 26 5 + 1)) = h1 at h1I h1E ⊢
      have F1 := E0.tr (h1E.wk (W' := [26, 27, 30, 33, 36]) (by first | rfl | simp))
      have nh1 : ∀ c' k', ¬ (26 = c' ∧ 5 = k') → pw_g h1 c' k' = pw_g h c' k' := fun c' k' hn => by rw [← h1w]; exact pw_g_ne hn
      have eh1 : pw_g h1 26 5 = pw_g h 26 5 + 1 := by rw [← h1w]; exact pw_g_eq (c := 26) (k := 5) I rfl rfl (by omega) (by omega)
      have m16 := nh1 26 6 (by decide)
      refine pw_ld E (pc' := 100) (st' := [.ref 42]) rfl (fun _ => rfl) ?_
      refine pw_ld E (pc' := 101) (st' := [.ref 42, .ref 42]) rfl (fun _ => rfl) ?_
      refine pw_getI h1I E (c := 26) (k := 6) (pc' := 104) rfl rfl rfl rfl rfl rfl (fun gb1 gb2 gb3 gb4 => ?_)
      refine pw_ld E (pc' := 106) (st' := [pw_i 1, pw_i (pw_g h1 26 6), .ref 42]) rfl (fun _ => rfl) ?_
      refine pw_if E (pc' := 113) rfl (by decide) (by omega) (by omega) ?_ ?_
      · intro hz
        change (1 : Int) = 0 at hz
        exfalso; omega
      · intro _
        refine pw_ld E (pc' := 110) (st' := [pw_i 1, pw_i (pw_g h1 26 6), .ref 42]) rfl (fun _ => rfl) ?_
        refine pw_goto E (pc' := 114) rfl (by decide) ?_
        refine pw_add E (pc' := 115) rfl rfl ?_
        refine pw_putI h1I E (c := 26) (k := 6) (pc' := 118) rfl rfl rfl rfl (by omega) (by omega) (by omega) (by omega) rfl rfl ?_
        intro h2I h2E
        generalize h2w : pw_w h1 26 6 (pw_i (pw_g h1 26 6 + 1)) = h2 at h2I h2E ⊢
        have F2 := F1.tr (h2E.wk (W' := [26, 27, 30, 33, 36]) (by first | rfl | simp))
        have nh2 : ∀ c' k', ¬ (26 = c' ∧ 6 = k') → pw_g h2 c' k' = pw_g h1 c' k' := fun c' k' hn => by rw [← h2w]; exact pw_g_ne hn
        have eh2 : pw_g h2 26 6 = pw_g h1 26 6 + 1 := by rw [← h2w]; exact pw_g_eq (c := 26) (k := 6) h1I rfl rfl (by omega) (by omega)
        have m25 := nh2 26 5 (by decide)
        have m24 := (nh2 26 4 (by decide)).trans (nh1 26 4 (by decide))
        have m21 := (nh2 30 1 (by decide)).trans (nh1 30 1 (by decide))
        have J2 : pw_J 26 27 h2 (pw_g h 26 5) (pw_g h 26 6) := pw_Jof (h := h) P.1 (fun j => (nh2 27 j (by omega)).trans (nh1 27 j (by omega))) (by rw [m24])
        refine pw_ld E (pc' := 119) (st' := [.ref 42]) rfl (fun _ => rfl) ?_
        refine pw_ld E (pc' := 120) (st' := [pw_i 0, .ref 42]) rfl (fun _ => rfl) ?_
        refine pw_if E (pc' := 128) rfl (by decide) (by omega) (by omega) ?_ ?_
        · intro _
          refine pw_bip E (pc' := 130) rfl rfl (by decide) ?_
          obtain ⟨f2l, f2h, -⟩ := pw_obj (c := 26) h2I rfl
          refine pw_call (m' := 48) (As := [.ref 42, pw_i 9]) (rest := []) (ls'' := [some (.ref 42), some (pw_i 9)]) (Nat.le_trans (by decide) hd) E rfl (fun _ => pw_iV rfl rfl rfl rfl (pw_cellI f2h rfl)) (rfl : pm_ent 48 = some (2, 2, 5, 4, pmc_48)) rfl rfl (cm_48_26 (pw_dp hd (by decide)) h2I 9 (by decide) (by decide) J2 (Or.inl (by decide)) (fun _ => by omega)) ?_
          rintro h3 v4 ⟨h3I, h3E, ⟨h3J, h3p, h3k⟩, rfl⟩
          refine ⟨_, rfl, ?_⟩
          show pw X d h3 47 133 [some (.ref 42), some (.ref 40), some (.ref 46), some (pw_i 0), some (pw_i 1), some (pw_i nb), some (pw_i fa)] [] _
          have F3 := F2.tr (h3E.wk (W' := [26, 27, 30, 33, 36]) (by first | rfl | simp))
          rw [if_pos (by decide), if_pos (by decide)] at h3J
          have m31 : pw_g h3 30 1 = pw_g h2 30 1 := pw_Eg (c := 30) h2I h3E rfl rfl 1
          have m35 := h3k 5 (by decide)
          have m36 := h3k 6 (by decide)
          have P3 : pw_P 26 27 h3 (T + 1) := by
            obtain ⟨p1, p2, p3⟩ := P
            refine ⟨?_, by omega, by omega⟩
            rw [show pw_g h3 26 5 = pw_g h 26 5 + 1 by omega, show pw_g h3 26 6 = pw_g h 26 6 + 1 by omega]
            exact h3J
          refine pw_ld E (pc' := 134) (st' := [pw_i 0]) rfl (fun _ => rfl) ?_
          refine pw_iret E rfl ?_
          exact ⟨h3I, F3, P3, ⟨_, rfl, by omega, by omega, Or.inl hk4⟩⟩
        · intro hz
          change ¬ ((0 : Int) = 0) at hz
          exfalso; omega
  have K70 : ∀ (nt opn nb fa : Int), (nt = 0 ∨ (nt = 1 ∧ pw_g h 24 4 = 1)) → (opn = 0 ∨ (opn = 1 ∧ pw_g h 24 4 = 3)) → (nb = 0 ∨ (nb = 1 ∧ pw_g h 24 4 = 2)) → -1 ≤ fa → fa ≤ 60 → (pw_g h 24 4 = 1 ∨ fa = -1) → pw_g h 24 4 ≠ 4 → pw X d h 47 70 [some (.ref 42), some (.ref 40), some (.ref 46), some (pw_i nt), some (pw_i opn), some (pw_i nb), some (pw_i fa)] [] (fun h' v => pw_I h' ∧ pw_E [26, 27, 30, 33, 36] h h' ∧ pw_P 26 27 h' (T + 1) ∧ ∃ a : Int, v = .inl (some (pw_i a)) ∧ 0 ≤ a ∧ a ≤ 5 ∧ (pw_g h 24 4 ≠ 4 ∨ a = 1)) := by
    intro nt opn nb fa y1 y2 y3 y4 y5 y6 hk4
    refine pw_ld E (pc' := 71) (st' := [.ref 42]) rfl (fun _ => rfl) ?_
    refine pw_getI I E (c := 26) (k := 5) (pc' := 74) rfl rfl rfl rfl rfl rfl (fun ga1 ga2 ga3 ga4 => ?_)
    refine pw_ld E (pc' := 75) (st' := [pw_i 5, pw_i (pw_g h 26 5)]) rfl (fun _ => rfl) ?_
    refine pw_if2 E (pc' := 80) rfl (by decide) (by omega) (by omega) (by decide) (by decide) ?_ ?_
    · intro hc
      change pw_g h 26 5 < 5 at hc
      refine pw_ld E (pc' := 81) (st' := [pw_i nt]) rfl (fun _ => rfl) ?_
      refine pw_if E (pc' := 89) rfl (by decide) (by omega) (by omega) ?_ ?_
      · intro hn
        change nt ≠ 0 at hn
        exact K89 nt opn nb fa y1 y2 y3 y4 y5 y6 (Or.inl hn) (by omega) hk4
      · intro _
        refine pw_ld E (pc' := 86) (st' := [pw_i opn]) rfl (fun _ => rfl) ?_
        refine pw_if E (pc' := 135) rfl (by decide) (by omega) (by omega) ?_ ?_
        · intro _
          exact K135 nt opn nb fa y1 y2 y3 y4 y5 y6 hk4
        · intro hn
          change ¬ (opn = 0) at hn
          exact K89 nt opn nb fa y1 y2 y3 y4 y5 y6 (Or.inr hn) (by omega) hk4
    · intro _
      refine pw_ld E (pc' := 79) (st' := [pw_i 5]) rfl (fun _ => rfl) ?_
      refine pw_iret E rfl ?_
      exact ⟨I, E0, P.wk (by omega), ⟨_, rfl, by omega, by omega, Or.inl hk4⟩⟩
  have K48 : ∀ (nt opn nb fa : Int), (nt = 0 ∨ (nt = 1 ∧ pw_g h 24 4 = 1)) → (opn = 0 ∨ (opn = 1 ∧ pw_g h 24 4 = 3)) → (nb = 0 ∨ (nb = 1 ∧ pw_g h 24 4 = 2)) → -1 ≤ fa → fa ≤ 60 → (pw_g h 24 4 = 1 ∨ fa = -1) → pw X d h 47 48 [some (.ref 42), some (.ref 40), some (.ref 46), some (pw_i nt), some (pw_i opn), some (pw_i nb), some (pw_i fa)] [] (fun h' v => pw_I h' ∧ pw_E [26, 27, 30, 33, 36] h h' ∧ pw_P 26 27 h' (T + 1) ∧ ∃ a : Int, v = .inl (some (pw_i a)) ∧ 0 ≤ a ∧ a ≤ 5 ∧ (pw_g h 24 4 ≠ 4 ∨ a = 1)) := by
    intro nt opn nb fa y1 y2 y3 y4 y5 y6
    refine pw_ld E (pc' := 49) (st' := [pw_i nt]) rfl (fun _ => rfl) ?_
    refine pw_if E (pc' := 70) rfl (by decide) (by omega) (by omega) ?_ ?_
    · intro z
      change nt ≠ 0 at z
      exact K70 nt opn nb fa y1 y2 y3 y4 y5 y6 (by omega)
    · intro z1
      change ¬ (nt ≠ 0) at z1
      refine pw_ld E (pc' := 54) (st' := [pw_i opn]) rfl (fun _ => rfl) ?_
      refine pw_if E (pc' := 70) rfl (by decide) (by omega) (by omega) ?_ ?_
      · intro z
        change opn ≠ 0 at z
        exact K70 nt opn nb fa y1 y2 y3 y4 y5 y6 (by omega)
      · intro z2
        change ¬ (opn ≠ 0) at z2
        refine pw_ld E (pc' := 59) (st' := [pw_i nb]) rfl (fun _ => rfl) ?_
        refine pw_if E (pc' := 70) rfl (by decide) (by omega) (by omega) ?_ ?_
        · intro z
          change nb ≠ 0 at z
          exact K70 nt opn nb fa y1 y2 y3 y4 y5 y6 (by omega)
        · intro z3
          change ¬ (nb ≠ 0) at z3
          refine pw_ld E (pc' := 64) (st' := [pw_i fa]) rfl (fun _ => rfl) ?_
          refine pw_ld E (pc' := 65) (st' := [pw_i (-1), pw_i fa]) rfl (fun _ => rfl) ?_
          refine pw_if2 E (pc' := 70) rfl (by decide) (by omega) (by omega) (by decide) (by decide) ?_ ?_
          · intro z
            change fa ≠ -1 at z
            exact K70 nt opn nb fa y1 y2 y3 y4 y5 y6 (by omega)
          · intro _
            refine pw_ld E (pc' := 69) (st' := [pw_i 1]) rfl (fun _ => rfl) ?_
            refine pw_iret E rfl ?_
            exact ⟨I, E0, P.wk (by omega), ⟨_, rfl, by omega, by omega, Or.inr rfl⟩⟩
  have K38 : ∀ (nt opn nb : Int), (nt = 0 ∨ (nt = 1 ∧ pw_g h 24 4 = 1)) → (opn = 0 ∨ (opn = 1 ∧ pw_g h 24 4 = 3)) → (nb = 0 ∨ (nb = 1 ∧ pw_g h 24 4 = 2)) → pw X d h 47 38 [some (.ref 42), some (.ref 40), some (.ref 46), some (pw_i nt), some (pw_i opn), some (pw_i nb), none] [] (fun h' v => pw_I h' ∧ pw_E [26, 27, 30, 33, 36] h h' ∧ pw_P 26 27 h' (T + 1) ∧ ∃ a : Int, v = .inl (some (pw_i a)) ∧ 0 ≤ a ∧ a ≤ 5 ∧ (pw_g h 24 4 ≠ 4 ∨ a = 1)) := by
    intro nt opn nb y1 y2 y3
    refine pw_ld E (pc' := 39) (st' := [.ref 40]) rfl (fun _ => rfl) ?_
    refine pw_ld E (pc' := 40) (st' := [.ref 42, .ref 40]) rfl (fun _ => rfl) ?_
    refine pw_getR (b := 5) I E (c := 26) (k := 1) (pc' := 43) rfl rfl rfl rfl rfl rfl rfl ?_
    obtain ⟨f1l, f1h, -⟩ := pw_obj (c := 24) I rfl
    refine pw_call (m' := 108) (As := [.ref 40, .ref 5]) (rest := []) (ls'' := [some (.ref 40), some (.ref 5), none, none, none, none, none]) (Nat.le_trans (by decide) hd) E rfl (fun _ => pw_iV rfl rfl rfl rfl (pw_cellI f1h rfl)) (rfl : pm_ent 108 = some (2, 7, 9, 0, pmc_108)) rfl rfl (cm_108_24 (pw_dp hd (by decide)) I hX 5 (by decide) (by decide)) ?_
    rintro u1 w1 ⟨rfl, x, rfl, hxa, hxb, hxr⟩
    refine ⟨_, rfl, ?_⟩
    show pw X d h 47 46 [some (.ref 42), some (.ref 40), some (.ref 46), some (pw_i nt), some (pw_i opn), some (pw_i nb), none] [pw_i x] _
    refine pw_ist E (pc' := 48) (ls' := [some (.ref 42), some (.ref 40), some (.ref 46), some (pw_i nt), some (pw_i opn), some (pw_i nb), some (pw_i x)]) rfl rfl rfl rfl ?_
    exact K48 nt opn nb x y1 y2 y3 hxa hxb hxr
  have K15 : ∀ (nt : Int), (nt = 0 ∨ (nt = 1 ∧ pw_g h 24 4 = 1)) → pw X d h 47 15 [some (.ref 42), some (.ref 40), some (.ref 46), some (pw_i nt), none, none, none] [] (fun h' v => pw_I h' ∧ pw_E [26, 27, 30, 33, 36] h h' ∧ pw_P 26 27 h' (T + 1) ∧ ∃ a : Int, v = .inl (some (pw_i a)) ∧ 0 ≤ a ∧ a ≤ 5 ∧ (pw_g h 24 4 ≠ 4 ∨ a = 1)) := by
    intro nt y1
    refine pw_ld E (pc' := 16) (st' := [.ref 40]) rfl (fun _ => rfl) ?_
    refine pw_bip E (pc' := 18) rfl rfl (by decide) ?_
    obtain ⟨f1l, f1h, -⟩ := pw_obj (c := 24) I rfl
    refine pw_call (m' := 109) (As := [.ref 40, pw_i 40]) (rest := []) (ls'' := [some (.ref 40), some (pw_i 40)]) (Nat.le_trans (by decide) hd) E rfl (fun _ => pw_iV rfl rfl rfl rfl (pw_cellI f1h rfl)) (rfl : pm_ent 109 = some (2, 2, 9, 1, pmc_109)) rfl rfl (cm_109_24 (pw_dp hd (by decide)) I 40 (by decide) (by decide)) ?_
    rintro u1 w1 ⟨rfl, x, rfl, hxa, hxb, hxr⟩
    refine ⟨_, rfl, ?_⟩
    show pw X d h 47 21 [some (.ref 42), some (.ref 40), some (.ref 46), some (pw_i nt), none, none, none] [pw_i x] _
    refine pw_ist E (pc' := 23) (ls' := [some (.ref 42), some (.ref 40), some (.ref 46), some (pw_i nt), some (pw_i x), none, none]) rfl rfl rfl rfl ?_
    refine pw_ld E (pc' := 24) (st' := [.ref 40]) rfl (fun _ => rfl) ?_
    obtain ⟨f2l, f2h, -⟩ := pw_obj (c := 24) I rfl
    refine pw_call (m' := 107) (As := [.ref 40]) (rest := []) (ls'' := [some (.ref 40)]) (Nat.le_trans (by decide) hd) E rfl (fun _ => pw_iV rfl rfl rfl rfl (pw_cellI f2h rfl)) (rfl : pm_ent 107 = some (1, 1, 9, 0, pmc_107)) rfl rfl (cm_107_24 (pw_dp hd (by decide)) I) ?_
    rintro u2 w2 ⟨rfl, y, rfl, hya, hyb, hyr⟩
    refine ⟨_, rfl, ?_⟩
    show pw X d h 47 27 [some (.ref 42), some (.ref 40), some (.ref 46), some (pw_i nt), some (pw_i x), none, none] [pw_i y] _
    refine pw_ld E (pc' := 28) (st' := [pw_i 2, pw_i y]) rfl (fun _ => rfl) ?_
    refine pw_if2 E (pc' := 35) rfl (by decide) (by omega) (by omega) (by decide) (by decide) ?_ ?_
    · intro _
      refine pw_ld E (pc' := 36) (st' := [pw_i 0]) rfl (fun _ => rfl) ?_
      refine pw_ist E (pc' := 38) (ls' := [some (.ref 42), some (.ref 40), some (.ref 46), some (pw_i nt), some (pw_i x), some (pw_i 0), none]) rfl rfl rfl rfl ?_
      exact K38 nt x 0 y1 (by omega) (by omega)
    · intro z
      change ¬ (y ≠ 2) at z
      refine pw_ld E (pc' := 32) (st' := [pw_i 1]) rfl (fun _ => rfl) ?_
      refine pw_goto E (pc' := 36) rfl (by decide) ?_
      refine pw_ist E (pc' := 38) (ls' := [some (.ref 42), some (.ref 40), some (.ref 46), some (pw_i nt), some (pw_i x), some (pw_i 1), none]) rfl rfl rfl rfl ?_
      exact K38 nt x 1 y1 (by omega) (by omega)
  refine pw_ld E (pc' := 1) (st' := [.ref 40]) rfl (fun _ => rfl) ?_
  refine pw_ld E (pc' := 3) (st' := [.ref 10, .ref 40]) rfl (fun _ => rfl) ?_
  obtain ⟨f1l, f1h, -⟩ := pw_obj (c := 24) I rfl
  refine pw_call (m' := 108) (As := [.ref 40, .ref 10]) (rest := []) (ls'' := [some (.ref 40), some (.ref 10), none, none, none, none, none]) (Nat.le_trans (by decide) hd) E rfl (fun _ => pw_iV rfl rfl rfl rfl (pw_cellI f1h rfl)) (rfl : pm_ent 108 = some (2, 7, 9, 0, pmc_108)) rfl rfl (cm_108_24 (pw_dp hd (by decide)) I hX 10 (by decide) (by decide)) ?_
  rintro u1 w1 ⟨rfl, x, rfl, hxa, hxb, hxr⟩
  refine ⟨_, rfl, ?_⟩
  show pw X d h 47 6 [some (.ref 42), some (.ref 40), some (.ref 46), none, none, none, none] [pw_i x] _
  refine pw_if E (pc' := 13) rfl (by decide) (by omega) (by omega) ?_ ?_
  · intro _
    refine pw_ld E (pc' := 14) (st' := [pw_i 0]) rfl (fun _ => rfl) ?_
    refine pw_istn E (pc' := 15) (ls' := [some (.ref 42), some (.ref 40), some (.ref 46), some (pw_i 0), none, none, none]) rfl rfl rfl rfl ?_
    exact K15 0 (by omega)
  · intro z
    change ¬ (x ≠ 0) at z
    refine pw_ld E (pc' := 10) (st' := [pw_i 1]) rfl (fun _ => rfl) ?_
    refine pw_goto E (pc' := 14) rfl (by decide) ?_
    refine pw_istn E (pc' := 15) (ls' := [some (.ref 42), some (.ref 40), some (.ref 46), some (pw_i 1), none, none, none]) rfl rfl rfl rfl ?_
    exact K15 1 (by omega)
end
