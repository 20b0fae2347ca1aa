/-! a call known ahead -/
theorem pz_me3 : pz_mq (96, 5, 2) pz_q3 = true := by decide +kernel
