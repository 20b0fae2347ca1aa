/-! a call known ahead -/
theorem pz_me8 : pz_mq (96, 5, 1) pz_q8 = true := by decide +kernel
