/-! a name of the whole library: so that this claim is read over all of it from the first part on -/
theorem pm_wide0 : True := by
  have h := @Jvm.Stand.thenCaughtThrough
  trivial
