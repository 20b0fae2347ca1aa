/-! a call known ahead -/
theorem pz_me11 : pz_mq (96, 5, 1) pz_q11 = true := by decide +kernel
