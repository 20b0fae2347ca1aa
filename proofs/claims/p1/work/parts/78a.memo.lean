/-! a call known ahead -/
theorem pz_me0 : pz_mq (96, 5, 2) pz_q0 = true := by decide +kernel
