/-! a call known ahead -/
theorem pz_me2 : pz_mq (96, 5, 2) pz_q2 = true := by decide +kernel
