/-! the model's common(): Euclid's way ends, and doesn't answer 0 -/
set_option maxHeartbeats 4000000 in
theorem cm_223 {X : List (Nat × List Value)} {d : Nat} {h : pm_H} (hd : 1 ≤ d) (I : pw_I h) (p : Int64) (q : Int64) (hp0 : q ≠ 0) : pw X d h 223 0 [some (.long p), none, some (.long q), none, none, none, none, none, none, none] [] (fun h' v => h = h' ∧ ∃ w : Int64, v = .inl (some (.long w)) ∧ (w ≠ 0)) := by
  have E : pm_ent 223 = some (2, 10, 12, 2, pmc_223) := rfl
  have L : ∀ (n : Nat) (x y : Int64) (u u2 : Option Value), (x ≠ 0 ∨ y ≠ 0) → y.toInt.natAbs = n → pw X d h 223 28 [some (.long p), none, some (.long q), none, some (.long x), none, some (.long y), none, u, u2] [] (fun h' v => h = h' ∧ ∃ w : Int64, v = .inl (some (.long w)) ∧ (w ≠ 0)) := by
    intro n
    induction n using Nat.strongRecOn with
    | ind n ih =>
      intro x y u u2 hxy hm
      refine pw_ld E (pc' := 30) (st' := [.long y]) rfl (fun _ => rfl) ?_
      refine pw_ld E (pc' := 31) (st' := [.long (Int64.ofNat 0), .long y]) rfl (fun _ => rfl) ?_
      refine pw_lcmp E (pc' := 32) rfl rfl (fun c hc => ?_)
      refine pw_if E (pc' := 53) rfl (by decide) (by omega) (by omega) ?_ ?_
      · intro h1
        change c = 0 at h1
        have hy : y = 0 := by
          rcases hc with ⟨g, -⟩ | ⟨-, g⟩ | ⟨g, -⟩
          · omega
          · exact g
          · omega
        refine pw_ld E (pc' := 55) (st' := [.long x]) rfl (fun _ => rfl) ?_
        refine pw_lret E rfl ?_
        exact ⟨rfl, x, rfl, hxy.resolve_right (fun e => e hy)⟩
      · intro h1
        change ¬ (c = 0) at h1
        have hnz : y ≠ 0 := pw_nz hc h1
        refine pw_ld E (pc' := 37) (st' := [.long x]) rfl (fun _ => rfl) ?_
        refine pw_ld E (pc' := 39) (st' := [.long y, .long x]) rfl (fun _ => rfl) ?_
        refine pw_ldivA E (pc' := 40) rfl rfl rfl hnz ?_
        refine pw_lst E (pc' := 42) (ls' := [some (.long p), none, some (.long q), none, some (.long x), none, some (.long y), none, some (.long (x - x / y * y)), none]) rfl rfl rfl rfl ?_
        refine pw_ld E (pc' := 44) (st' := [.long y]) rfl (fun _ => rfl) ?_
        refine pw_lst E (pc' := 46) (ls' := [some (.long p), none, some (.long q), none, some (.long y), none, some (.long y), none, some (.long (x - x / y * y)), none]) rfl rfl rfl rfl ?_
        refine pw_ld E (pc' := 48) (st' := [.long (x - x / y * y)]) rfl (fun _ => rfl) ?_
        refine pw_lst E (pc' := 50) (ls' := [some (.long p), none, some (.long q), none, some (.long y), none, some (.long (x - x / y * y)), none, some (.long (x - x / y * y)), none]) rfl rfl rfl rfl ?_
        refine pw_goto E (pc' := 28) rfl (by decide) ?_
        exact ih _ (by have := pw_remLt (x := x) hnz; omega) y (x - x / y * y) _ _ (Or.inl hnz) rfl
  have hq2 : -q ≠ 0 := fun e => hp0 (by have h9 : - -q = q := Int64.neg_neg; rw [← h9, e]; rfl)
  have S : ∀ x : Int64, pw X d h 223 14 [some (.long p), none, some (.long q), none, some (.long x), none, none, none, none, none] [] (fun h' v => h = h' ∧ ∃ w : Int64, v = .inl (some (.long w)) ∧ (w ≠ 0)) := by
    intro x
    refine pw_ld E (pc' := 15) (st' := [.long q]) rfl (fun _ => rfl) ?_
    refine pw_ld E (pc' := 16) (st' := [.long (Int64.ofNat 0), .long q]) rfl (fun _ => rfl) ?_
    refine pw_lcmp E (pc' := 17) rfl rfl (fun c hc => ?_)
    refine pw_if E (pc' := 25) rfl (by decide) (by omega) (by omega) ?_ ?_
    · intro _
      refine pw_ld E (pc' := 26) (st' := [.long q]) rfl (fun _ => rfl) ?_
      refine pw_lst E (pc' := 28) (ls' := [some (.long p), none, some (.long q), none, some (.long x), none, some (.long q), none, none, none]) rfl rfl rfl rfl ?_
      exact L _ x q _ _ (Or.inr hp0) rfl
    · intro _
      refine pw_ld E (pc' := 21) (st' := [.long q]) rfl (fun _ => rfl) ?_
      refine pw_ld E (pc' := 22) (st' := [.long (-q)]) rfl (fun _ => rfl) ?_
      refine pw_goto E (pc' := 26) rfl (by decide) ?_
      refine pw_lst E (pc' := 28) (ls' := [some (.long p), none, some (.long q), none, some (.long x), none, some (.long (-q)), none, none, none]) rfl rfl rfl rfl ?_
      exact L _ x (-q) _ _ (Or.inr hq2) rfl
  refine pw_ld E (pc' := 1) (st' := [.long p]) rfl (fun _ => rfl) ?_
  refine pw_ld E (pc' := 2) (st' := [.long (Int64.ofNat 0), .long p]) rfl (fun _ => rfl) ?_
  refine pw_lcmp E (pc' := 3) rfl rfl (fun c hc => ?_)
  refine pw_if E (pc' := 11) rfl (by decide) (by omega) (by omega) ?_ ?_
  · intro _
    refine pw_ld E (pc' := 12) (st' := [.long p]) rfl (fun _ => rfl) ?_
    refine pw_lst E (pc' := 14) (ls' := [some (.long p), none, some (.long q), none, some (.long p), none, none, none, none, none]) rfl rfl rfl rfl ?_
    exact S p
  · intro _
    refine pw_ld E (pc' := 7) (st' := [.long p]) rfl (fun _ => rfl) ?_
    refine pw_ld E (pc' := 8) (st' := [.long (-p)]) rfl (fun _ => rfl) ?_
    refine pw_goto E (pc' := 12) rfl (by decide) ?_
    refine pw_lst E (pc' := 14) (ls' := [some (.long p), none, some (.long q), none, some (.long (-p)), none, none, none, none, none]) rfl rfl rfl rfl ?_
    exact S (-p)
