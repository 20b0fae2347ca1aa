/-! a call known ahead -/
theorem pz_me13 : pz_mq (96, 5, 1) pz_q13 = true := by decide +kernel
