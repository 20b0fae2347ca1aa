/-! a call known ahead -/
theorem pz_me4 : pz_mq (96, 5, 2) pz_q4 = true := by decide +kernel
