/-! RANKS at the start -/
theorem pw_Xr0 (xs : List Int32) : pw_Xr (pm_ext xs) := by
  show _ = _
  rfl
