/-! a call known ahead -/
theorem pz_me7 : pz_mq (96, 5, 2) pz_q7 = true := by decide +kernel
