/-! a call known ahead -/
theorem pz_me15 : pz_mq (96, 5, 1) pz_q15 = true := by decide +kernel
