/-! a call known ahead -/
theorem pz_me10 : pz_mq (96, 5, 1) pz_q10 = true := by decide +kernel
