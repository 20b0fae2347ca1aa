/-! a helper's data, read out -/
theorem pm_hpv : pm_hpt.all (fun q => match pm_ent q.1 with
  | some e => e.2.2.2.2.all (fun c => c.all (fun r => match r.2.1 with
    | .invokevirtual _ => Nat.blt r.1 (q.2.1 - 3)
    | .invokestatic _ => false
    | _ => true))
  | none => false) = true := by decide +kernel
theorem pm_hpd {m : Nat} {E : pm_M} {y : pm_Hd} (hk : pm_get pm_kdt m = some 14) (he : pm_ent m = some E) (hy : pm_get pm_hds m = some y) : ∃ hp k ln : Nat, ∃ b : ByteArray, tables_1[y.2.1]? = some (.codeWith y.1 b E.2.1 y.2.2 [(0, hp - 3, hp, 13)]) ∧ pm_byt y.2.1 = b ∧ y.2.2 = some .int ∧
    ((ln = 2 ∧ pm_get E.2.2.2.2 hp = some (.astore k, 2)) ∨ (ln = 1 ∧ ∃ k', k'.val = k ∧ pm_get E.2.2.2.2 hp = some (.astore_n k', 1))) ∧ pm_get E.2.2.2.2 (hp + ln) = some (.iconst 1, 1) ∧ pm_get E.2.2.2.2 (hp + ln + 1) = some (.ireturn, 1) ∧ k < E.2.1 ∧ E.2.2.1 = 13 ∧ E.2.2.2.1 = 0 ∧ E.2.1 ≤ 80 ∧ y.1.cls = "RiverWageLaw" ∧ (parseMethodDescriptor y.1.desc).map (fun d => d.parameters.length) = some E.1 ∧ (∀ pc ix len, pm_get E.2.2.2.2 pc = some (.invokevirtual ix, len) → pc < hp - 3) ∧ (∀ pc ix len, pm_get E.2.2.2.2 pc ≠ some (.invokestatic ix, len)) ∧ Cond.static y.1 ∈ tables_1 := by
  obtain ⟨c, hc, hm⟩ := pm_get_mem hk
  have h1 := List.all_eq_true.mp (List.all_eq_true.mp pm_hpa c hc) _ hm
  have h1 : (false || pm_hpt.any (fun r => Nat.beq r.1 m)) = true := h1
  rw [Bool.false_or] at h1
  obtain ⟨r, hr, hrm⟩ := List.any_eq_true.mp h1
  have hrm := Nat.eq_of_beq_eq_true hrm
  have h2 := List.all_eq_true.mp pm_hpks r hr
  have h3 := List.all_eq_true.mp pm_hpv r hr
  have h4 := List.all_eq_true.mp pm_hpw r hr
  rw [hrm, he] at h3
  rw [hrm, hy] at h4
  dsimp only at h3 h4
  unfold pm_hpk at h2
  rw [hrm, he, hy] at h2
  simp only [Bool.and_eq_true, decide_eq_true_eq] at h2
  obtain ⟨g1, g2, g3, g4, g5, g6, g7, g8, g9, g10, g11⟩ := h2
  split at g1
  · rename_i y2 b l2 r2 hh hw
    simp only [Bool.and_eq_true, decide_eq_true_eq] at g1
    obtain ⟨q1, q2, q3, q4, q5⟩ := g1
    have q2 := Nat.eq_of_beq_eq_true q2
    subst q1; subst q2; subst q3; subst q5
    have hb : pm_byt y.2.1 = b := by
      unfold pm_byt
      cases hz : Nat.beq y.2.1 99999 with
      | true => rw [hz] at g9; cases g9
      | false => rw [cond_false, hw]
    refine ⟨r.2.1, r.2.2.1, r.2.2.2, b, hw, hb, q4, ?_, g3, g4, pm_blt g5, Nat.eq_of_beq_eq_true g6, Nat.eq_of_beq_eq_true g7, Nat.le_of_ble_eq_true g8, g10, g11, fun pc ix len hq => ?_, fun pc ix len hq => ?_, of_decide_eq_true h4⟩
    rotate_left
    · obtain ⟨c9, hc9, hm9⟩ := pm_get_mem hq
      have h9 := List.all_eq_true.mp (List.all_eq_true.mp h3 c9 hc9) _ hm9
      exact pm_blt h9
    · obtain ⟨c9, hc9, hm9⟩ := pm_get_mem hq
      have h9 := List.all_eq_true.mp (List.all_eq_true.mp h3 c9 hc9) _ hm9
      cases h9
    split at g2
    · rename_i k' hk'
      rw [Bool.and_eq_true] at g2
      have z1 := Nat.eq_of_beq_eq_true g2.1
      subst z1
      exact Or.inl ⟨Nat.eq_of_beq_eq_true g2.2, hk'⟩
    · rename_i k' hk'
      rw [Bool.and_eq_true] at g2
      exact Or.inr ⟨Nat.eq_of_beq_eq_true g2.2, k', Nat.eq_of_beq_eq_true g2.1, hk'⟩
    · cases g2
  · cases g1
