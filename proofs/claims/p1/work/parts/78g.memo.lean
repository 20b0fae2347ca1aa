/-! a call known ahead -/
theorem pz_me6 : pz_mq (96, 5, 2) pz_q6 = true := by decide +kernel
