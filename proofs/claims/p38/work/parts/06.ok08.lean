theorem kc_mlaw_4 : mlaw_4.all (ai_okI code) = true := by decide +kernel
theorem kc_mlaw_5 : mlaw_5.all (ai_okI code) = true := by decide +kernel
theorem kc_mlaw_6 : mlaw_6.all (ai_okI code) = true := by decide +kernel
theorem kc_mlaw_7 : mlaw_7.all (ai_okI code) = true := by decide +kernel
