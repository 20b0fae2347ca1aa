/-! what waits in a Reader: the ranks rise strictly between entries of rank 0 (not, an open bracket), of which there are at most five -/
def pw_rk (x : Int) : Int := if x ≤ 0 then 0 else if x ≤ 2 then 1 else if x ≤ 4 then 2 else if x ≤ 6 then 3 else if x = 7 then 4 else 0
def pw_r0 (w : Nat → Int) : Nat → Nat
  | 0 => 0
  | n + 1 => pw_r0 w n + (if 8 ≤ w n then 1 else 0)
def pw_o9 (w : Nat → Int) : Nat → Nat
  | 0 => 0
  | n + 1 => pw_o9 w n + (if w n = 9 then 1 else 0)
def pw_Jw (w : Nat → Int) (n : Nat) (dp op : Int) : Prop := (∀ j, j < n → 1 ≤ w j ∧ w j ≤ 9) ∧ (∀ j, j + 1 < n → 8 ≤ w (j + 1) ∨ pw_rk (w j) < pw_rk (w (j + 1))) ∧ (pw_r0 w n : Int) = dp ∧ op ≤ (pw_o9 w n : Int) ∧ dp ≤ 5
theorem pw_rk_le (x : Int) : 0 ≤ pw_rk x ∧ pw_rk x ≤ 4 := by
  unfold pw_rk
  split
  · omega
  · split
    · omega
    · split
      · omega
      · split
        · omega
        · split <;> omega
theorem pw_rk8 {x : Int} (h : 8 ≤ x) : pw_rk x = 0 := by
  unfold pw_rk
  rw [if_neg (by omega), if_neg (by omega), if_neg (by omega), if_neg (by omega), if_neg (by omega)]
theorem pw_rk1 {x : Int} (h1 : 1 ≤ x) (h8 : ¬ 8 ≤ x) : 1 ≤ pw_rk x := by
  unfold pw_rk
  rw [if_neg (by omega)]
  split
  · omega
  · split
    · omega
    · split
      · omega
      · rw [if_pos (by omega)]; omega
theorem pw_Jle {w : Nat → Int} : ∀ n : Nat, (∀ j, j < n → 1 ≤ w j) → (∀ j, j + 1 < n → 8 ≤ w (j + 1) ∨ pw_rk (w j) < pw_rk (w (j + 1))) → (n : Int) ≤ 5 * (pw_r0 w n : Int) + 4 ∧ ∀ k, n = k + 1 → (n : Int) ≤ 5 * (pw_r0 w n : Int) + pw_rk (w k)
  | 0, _, _ => ⟨by show (0 : Int) ≤ 5 * ((0 : Nat) : Int) + 4; omega, fun k hk => by omega⟩
  | n + 1, ha, h => by
    obtain ⟨h1, h2⟩ := pw_Jle n (fun j hj => ha j (by omega)) (fun j hj => h j (by omega))
    have hr := pw_rk_le (w n)
    have key : ((n + 1 : Nat) : Int) ≤ 5 * (pw_r0 w (n + 1) : Int) + pw_rk (w n) := by
      show ((n + 1 : Nat) : Int) ≤ 5 * ((pw_r0 w n + (if 8 ≤ w n then 1 else 0) : Nat) : Int) + pw_rk (w n)
      by_cases h8 : 8 ≤ w n
      · rw [if_pos h8]
        omega
      · rw [if_neg h8]
        cases n with
        | zero =>
          have h0 := pw_rk1 (ha 0 (by omega)) h8
          omega
        | succ k =>
          have h3 := h2 k rfl
          have h4 := (h k (by omega)).resolve_left h8
          omega
    refine ⟨by omega, fun k hk => ?_⟩
    have : k = n := by omega
    subst this
    exact key
theorem pw_Jw.le {w : Nat → Int} {n : Nat} {dp op : Int} (h : pw_Jw w n dp op) : (n : Int) ≤ 29 := by
  have h1 := (pw_Jle n (fun j hj => (h.1 j hj).1) h.2.1).1
  have h3 := h.2.2.1
  have h5 := h.2.2.2.2
  omega
theorem pw_o9_le (w : Nat → Int) : ∀ n, pw_o9 w n ≤ n
  | 0 => Nat.le_refl 0
  | n + 1 => by
    have := pw_o9_le w n
    show pw_o9 w n + (if w n = 9 then 1 else 0) ≤ n + 1
    split <;> omega
theorem pw_Jw.pos {w : Nat → Int} {n : Nat} {dp op : Int} (h : pw_Jw w n dp op) (ho : 0 < op) : 0 < n := by
  have h1 := pw_o9_le w n
  have h2 := h.2.2.2.1
  omega
theorem pw_r0_congr {w w' : Nat → Int} : ∀ n, (∀ j, j < n → w' j = w j) → pw_r0 w' n = pw_r0 w n ∧ pw_o9 w' n = pw_o9 w n
  | 0, _ => ⟨rfl, rfl⟩
  | n + 1, h => by
    obtain ⟨h1, h2⟩ := pw_r0_congr n (fun j hj => h j (by omega))
    refine ⟨?_, ?_⟩
    · show pw_r0 w' n + (if 8 ≤ w' n then 1 else 0) = pw_r0 w n + (if 8 ≤ w n then 1 else 0)
      rw [h1, h n (by omega)]
    · show pw_o9 w' n + (if w' n = 9 then 1 else 0) = pw_o9 w n + (if w n = 9 then 1 else 0)
      rw [h2, h n (by omega)]
theorem pw_Jw.congr {w w' : Nat → Int} {n : Nat} {dp op : Int} (h : pw_Jw w n dp op) (hw : ∀ j, j < n → w' j = w j) : pw_Jw w' n dp op := by
  obtain ⟨h1, h2, h3, h4, h5⟩ := h
  obtain ⟨e1, e2⟩ := pw_r0_congr n hw
  refine ⟨fun j hj => by rw [hw j hj]; exact h1 j hj, fun j hj => ?_, by rw [e1]; exact h3, by rw [e2]; exact h4, h5⟩
  rw [hw j (by omega), hw (j + 1) hj]
  exact h2 j hj
/-- the topmost goes -/
theorem pw_Jw.pop {w : Nat → Int} {n : Nat} {dp op : Int} (h : pw_Jw w (n + 1) dp op) : (w n < 8 → pw_Jw w n dp op) ∧ (w n = 8 → pw_Jw w n (dp - 1) op) ∧ (8 ≤ w n → pw_Jw w n (dp - 1) (op - 1)) := by
  obtain ⟨h1, h2, h3, h4, h5⟩ := h
  have h3 : ((pw_r0 w n + (if 8 ≤ w n then 1 else 0) : Nat) : Int) = dp := h3
  have h4 : op ≤ ((pw_o9 w n + (if w n = 9 then 1 else 0) : Nat) : Int) := h4
  have g1 : ∀ j, j < n → 1 ≤ w j ∧ w j ≤ 9 := fun j hj => h1 j (by omega)
  have g2 : ∀ j, j + 1 < n → 8 ≤ w (j + 1) ∨ pw_rk (w j) < pw_rk (w (j + 1)) := fun j hj => h2 j (by omega)
  refine ⟨fun hw => ?_, fun hw => ?_, fun hw => ?_⟩
  · rw [if_neg (by omega)] at h3
    rw [if_neg (by omega)] at h4
    exact ⟨g1, g2, by omega, by omega, h5⟩
  · rw [if_pos (by omega)] at h3
    rw [if_neg (by omega)] at h4
    exact ⟨g1, g2, by omega, by omega, by omega⟩
  · rw [if_pos hw] at h3
    refine ⟨g1, g2, by omega, ?_, by omega⟩
    split at h4 <;> omega
/-- one more -/
theorem pw_Jw.push {w w' : Nat → Int} {n : Nat} {dp op x : Int} (h : pw_Jw w n dp op) (hw : ∀ j, j < n → w' j = w j) (hx : w' n = x) (h1 : 1 ≤ x) (h9 : x ≤ 9) (hr : 8 ≤ x ∨ ∀ k, n = k + 1 → pw_rk (w k) < pw_rk x) (hd : 8 ≤ x → dp ≤ 4) : pw_Jw w' (n + 1) (dp + if 8 ≤ x then 1 else 0) (op + if x = 9 then 1 else 0) := by
  obtain ⟨g1, g2, g3, g4, g5⟩ := h.congr hw
  refine ⟨fun j hj => ?_, fun j hj => ?_, ?_, ?_, ?_⟩
  · by_cases hj2 : j = n
    · subst hj2; rw [hx]; exact ⟨h1, h9⟩
    · exact g1 j (by omega)
  · by_cases hj2 : j + 1 = n
    · rw [hj2, hx, hw j (by omega)]
      rcases hr with hr | hr
      · exact Or.inl hr
      · exact Or.inr (hr j hj2.symm)
    · exact g2 j (by omega)
  · show ((pw_r0 w' n + (if 8 ≤ w' n then 1 else 0) : Nat) : Int) = _
    rw [hx]
    split <;> omega
  · show _ ≤ ((pw_o9 w' n + (if w' n = 9 then 1 else 0) : Nat) : Int)
    rw [hx]
    split <;> omega
  · split
    · have := hd (by assumption); omega
    · omega
theorem pw_Jw0 (w : Nat → Int) : pw_Jw w 0 0 0 := ⟨fun j hj => by omega, fun j hj => by omega, rfl, by show (0 : Int) ≤ ((0 : Nat) : Int); omega, by omega⟩
