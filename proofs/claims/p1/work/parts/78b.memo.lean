/-! a call known ahead -/
theorem pz_me1 : pz_mq (96, 5, 2) pz_q1 = true := by decide +kernel
