/-! a call known ahead -/
theorem pz_me14 : pz_mq (96, 5, 1) pz_q14 = true := by decide +kernel
