/-! a call known ahead -/
theorem pz_me9 : pz_mq (96, 5, 1) pz_q9 = true := by decide +kernel
