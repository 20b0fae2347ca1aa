/-! a call known ahead -/
theorem pz_me5 : pz_mq (96, 5, 2) pz_q5 = true := by decide +kernel
