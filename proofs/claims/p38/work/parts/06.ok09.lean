theorem kc_mlaw_8 : mlaw_8.all (ai_okI code) = true := by decide +kernel
theorem kc_mlaw_9 : mlaw_9.all (ai_okI code) = true := by decide +kernel
theorem kc_mlaw_10 : mlaw_10.all (ai_okI code) = true := by decide +kernel
theorem kc_mlaw_11 : mlaw_11.all (ai_okI code) = true := by decide +kernel
