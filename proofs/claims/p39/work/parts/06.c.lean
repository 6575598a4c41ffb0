theorem kc_mlaw_4 : mlaw_4.all (ai_okI code) = true := by decide +kernel
theorem kc_mlaw_5 : mlaw_5.all (ai_okI code) = true := by decide +kernel
theorem kc_mlaw_6 : mlaw_6.all (ai_okI code) = true := by decide +kernel
theorem kc_mlaw_7 : mlaw_7.all (ai_okI code) = true := by decide +kernel
theorem kc_mlaw_8 : mlaw_8.all (ai_okI code) = true := by decide +kernel
theorem kc_mlaw_9 : mlaw_9.all (ai_okI code) = true := by decide +kernel
theorem kc_mlaw_10 : mlaw_10.all (ai_okI code) = true := by decide +kernel
theorem kc_mlaw_11 : mlaw_11.all (ai_okI code) = true := by decide +kernel
theorem kc_mlaw_12 : mlaw_12.all (ai_okI code) = true := by decide +kernel
theorem kc_mlaw_13 : mlaw_13.all (ai_okI code) = true := by decide +kernel
theorem kc_mlaw_14 : mlaw_14.all (ai_okI code) = true := by decide +kernel
theorem kc_mlaw_15 : mlaw_15.all (ai_okI code) = true := by decide +kernel
theorem kc_mlaw_16 : mlaw_16.all (ai_okI code) = true := by decide +kernel
theorem kc_mlaw_17 : mlaw_17.all (ai_okI code) = true := by decide +kernel
theorem kc_mlaw_18 : mlaw_18.all (ai_okI code) = true := by decide +kernel
theorem ai_allA {α : Type} {f : α → Bool} {a b : List α} (h1 : a.all f = true) (h2 : b.all f = true) : (a ++ b).all f = true := by rw [List.all_append, h1, h2]; rfl
theorem kc_mlaw : ai_okC mlaw = true := ai_allA kc_mlaw_0 (ai_allA kc_mlaw_1 (ai_allA kc_mlaw_2 (ai_allA kc_mlaw_3 (ai_allA kc_mlaw_4 (ai_allA kc_mlaw_5 (ai_allA kc_mlaw_6 (ai_allA kc_mlaw_7 (ai_allA kc_mlaw_8 (ai_allA kc_mlaw_9 (ai_allA kc_mlaw_10 (ai_allA kc_mlaw_11 (ai_allA kc_mlaw_12 (ai_allA kc_mlaw_13 (ai_allA kc_mlaw_14 (ai_allA kc_mlaw_15 (ai_allA kc_mlaw_16 (ai_allA kc_mlaw_17 (kc_mlaw_18))))))))))))))))))
