/-! a call known ahead -/
theorem pz_me12 : pz_mq (96, 5, 1) pz_q12 = true := by decide +kernel
