/-! the law's helpers: a call that may throw, caught here -/
/-- a helper: its handler's place, the local that it stores to, the store's length -/
def pm_hpt : List (Nat × Nat × Nat × Nat) := [(310, 17, 6, 2), (311, 16, 6, 2), (312, 16, 6, 2), (313, 14, 5, 2), (314, 16, 6, 2), (315, 16, 6, 2), (316, 14, 5, 2), (317, 16, 6, 2), (318, 12, 4, 2), (319, 12, 4, 2), (320, 11, 3, 1), (321, 14, 5, 2), (322, 16, 6, 2), (323, 14, 5, 2)]
noncomputable def pm_hpk (q : Nat × Nat × Nat × Nat) : Bool := match pm_ent q.1, pm_get pm_hds q.1 with
  | some e, some y => (match tables_1[y.2.1]? with
    | some (.codeWith y2 _ l2 r2 hh) => decide (y2 = y.1) && (Nat.beq l2 e.2.1 && (decide (r2 = y.2.2) && (decide (y.2.2 = some .int) && decide (hh = [(0, q.2.1 - 3, q.2.1, 13)]))))
    | _ => false) && ((match pm_get e.2.2.2.2 q.2.1 with
    | some (.astore k, 2) => Nat.beq k q.2.2.1 && Nat.beq q.2.2.2 2
    | some (.astore_n k, 1) => Nat.beq k.val q.2.2.1 && Nat.beq q.2.2.2 1
    | _ => false) && (decide (pm_get e.2.2.2.2 (q.2.1 + q.2.2.2) = some (.iconst 1, 1)) && (decide (pm_get e.2.2.2.2 (q.2.1 + q.2.2.2 + 1) = some (.ireturn, 1)) && (Nat.blt q.2.2.1 e.2.1 && (Nat.beq e.2.2.1 13 && (Nat.beq e.2.2.2.1 0 && (Nat.ble e.2.1 80 && (Nat.beq y.2.1 99999 == false && (decide (y.1.cls = "RiverWageLaw") && decide ((parseMethodDescriptor y.1.desc).map (fun d => d.parameters.length) = some e.1))))))))))
  | _, _ => false
theorem pm_hpks : pm_hpt.all pm_hpk = true := by decide +kernel
theorem pm_hpa : pm_kdt.all (fun c => c.all (fun q => !Nat.beq q.2 14 || pm_hpt.any (fun r => Nat.beq r.1 q.1))) = true := by decide +kernel
theorem pm_hpw : pm_hpt.all (fun q => match pm_get pm_hds q.1 with
  | some y => decide (Cond.static y.1 ∈ tables_1)
  | none => false) = true := by decide +kernel
theorem pm_hpc (r : Nat × Nat × Nat × Nat) : goodWord (.codeWith ⟨"", "", ""⟩ ⟨#[]⟩ 0 none [r]) = true := rfl
theorem pm_hpl : Cond.classLink "RiverWageLaw" 13 pm_nse ∈ tables_1 ∧ Cond.castable pm_nse pm_nse ∈ tables_1 ∧ Cond.initialized "RiverWageLaw" ∈ lw_tbl := by decide +kernel
