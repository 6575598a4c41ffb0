theorem kc_mlaw_0 : mlaw_0.all (ai_okI code) = true := by decide +kernel
theorem kc_mlaw_1 : mlaw_1.all (ai_okI code) = true := by decide +kernel
theorem kc_mlaw_2 : mlaw_2.all (ai_okI code) = true := by decide +kernel
theorem kc_mlaw_3 : mlaw_3.all (ai_okI code) = true := by decide +kernel
