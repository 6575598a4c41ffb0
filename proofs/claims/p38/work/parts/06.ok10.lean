theorem kc_mlaw_12 : mlaw_12.all (ai_okI code) = true := by decide +kernel
theorem kc_mlaw_13 : mlaw_13.all (ai_okI code) = true := by decide +kernel
theorem kc_mlaw_14 : mlaw_14.all (ai_okI code) = true := by decide +kernel
theorem kc_mlaw_15 : mlaw_15.all (ai_okI code) = true := by decide +kernel
