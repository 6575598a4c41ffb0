theorem kc_mf_isSpill : ai_okC mf_isSpill = true := by decide +kernel
set_option maxRecDepth 100000 in
theorem ok_mf_isSpill : ai_okM mf_isSpill := ⟨kc_mf_isSpill, ⟨783, rfl⟩, by decide +kernel, rfl⟩
theorem kc_mspr_start : ai_okC mspr_start = true := by decide +kernel
set_option maxRecDepth 100000 in
theorem ok_mspr_start : ai_okM mspr_start := ⟨kc_mspr_start, ⟨787, rfl⟩, by decide +kernel, rfl⟩
theorem kc_mspr_goOn : ai_okC mspr_goOn = true := by decide +kernel
set_option maxRecDepth 100000 in
theorem ok_mspr_goOn : ai_okM mspr_goOn := ⟨kc_mspr_goOn, ⟨792, rfl⟩, by decide +kernel, rfl⟩
theorem kc_mf_spill : ai_okC mf_spill = true := by decide +kernel
set_option maxRecDepth 100000 in
theorem ok_mf_spill : ai_okM mf_spill := ⟨kc_mf_spill, ⟨779, rfl⟩, by decide +kernel, rfl⟩
theorem kc_mm_laySpill : ai_okC mm_laySpill = true := by decide +kernel
set_option maxRecDepth 100000 in
theorem ok_mm_laySpill : ai_okM mm_laySpill := ⟨kc_mm_laySpill, ⟨1308, rfl⟩, by decide +kernel, rfl⟩
theorem kc_mm_spills : ai_okC mm_spills = true := by decide +kernel
set_option maxRecDepth 100000 in
theorem ok_mm_spills : ai_okM mm_spills := ⟨kc_mm_spills, ⟨1312, rfl⟩, by decide +kernel, rfl⟩
theorem kc_mm_spill : ai_okC mm_spill = true := by decide +kernel
set_option maxRecDepth 100000 in
theorem ok_mm_spill : ai_okM mm_spill := ⟨kc_mm_spill, ⟨1302, rfl⟩, by decide +kernel, rfl⟩
theorem kc_mint_bitCount : ai_okC mint_bitCount = true := by decide +kernel
set_option maxRecDepth 100000 in
theorem ok_mint_bitCount : ai_okM mint_bitCount := ⟨kc_mint_bitCount, ⟨799, rfl⟩, by decide +kernel, rfl⟩
theorem kc_mspr_isIn : ai_okC mspr_isIn = true := by decide +kernel
set_option maxRecDepth 100000 in
theorem ok_mspr_isIn : ai_okM mspr_isIn := ⟨kc_mspr_isIn, ⟨810, rfl⟩, by decide +kernel, rfl⟩
theorem kc_mf_keepsOut : ai_okC mf_keepsOut = true := by decide +kernel
set_option maxRecDepth 100000 in
theorem ok_mf_keepsOut : ai_okM mf_keepsOut := ⟨kc_mf_keepsOut, ⟨806, rfl⟩, by decide +kernel, rfl⟩
theorem kc_mf_keepOut : ai_okC mf_keepOut = true := by decide +kernel
set_option maxRecDepth 100000 in
theorem ok_mf_keepOut : ai_okM mf_keepOut := ⟨kc_mf_keepOut, ⟨796, rfl⟩, by decide +kernel, rfl⟩
theorem kc_mm_ones : ai_okC mm_ones = true := by decide +kernel
set_option maxRecDepth 100000 in
theorem ok_mm_ones : ai_okM mm_ones := ⟨kc_mm_ones, ⟨1319, rfl⟩, by decide +kernel, rfl⟩
theorem kc_mm_keepsOut : ai_okC mm_keepsOut = true := by decide +kernel
set_option maxRecDepth 100000 in
theorem ok_mm_keepsOut : ai_okM mm_keepsOut := ⟨kc_mm_keepsOut, ⟨1323, rfl⟩, by decide +kernel, rfl⟩
theorem kc_mm_keepOut : ai_okC mm_keepOut = true := by decide +kernel
set_option maxRecDepth 100000 in
theorem ok_mm_keepOut : ai_okM mm_keepOut := ⟨kc_mm_keepOut, ⟨1316, rfl⟩, by decide +kernel, rfl⟩
theorem kc_msea_allThick : ai_okC msea_allThick = true := by decide +kernel
set_option maxRecDepth 100000 in
theorem ok_msea_allThick : ai_okM msea_allThick := ⟨kc_msea_allThick, ⟨818, rfl⟩, by decide +kernel, rfl⟩
theorem kc_mf_shaken : ai_okC mf_shaken = true := by decide +kernel
set_option maxRecDepth 100000 in
theorem ok_mf_shaken : ai_okM mf_shaken := ⟨kc_mf_shaken, ⟨814, rfl⟩, by decide +kernel, rfl⟩
theorem kc_mm_shaken : ai_okC mm_shaken = true := by decide +kernel
set_option maxRecDepth 100000 in
theorem ok_mm_shaken : ai_okM mm_shaken := ⟨kc_mm_shaken, ⟨1327, rfl⟩, by decide +kernel, rfl⟩
theorem kc_mf_lies : ai_okC mf_lies = true := by decide +kernel
set_option maxRecDepth 100000 in
theorem ok_mf_lies : ai_okM mf_lies := ⟨kc_mf_lies, ⟨822, rfl⟩, by decide +kernel, rfl⟩
theorem kc_mm_lies : ai_okC mm_lies = true := by decide +kernel
set_option maxRecDepth 100000 in
theorem ok_mm_lies : ai_okM mm_lies := ⟨kc_mm_lies, ⟨1331, rfl⟩, by decide +kernel, rfl⟩
theorem kc_mfall_driftFrom : ai_okC mfall_driftFrom = true := by decide +kernel
set_option maxRecDepth 100000 in
theorem ok_mfall_driftFrom : ai_okM mfall_driftFrom := ⟨kc_mfall_driftFrom, ⟨830, rfl⟩, by decide +kernel, rfl⟩
theorem kc_mf_wentIn : ai_okC mf_wentIn = true := by decide +kernel
set_option maxRecDepth 100000 in
theorem ok_mf_wentIn : ai_okM mf_wentIn := ⟨kc_mf_wentIn, ⟨826, rfl⟩, by decide +kernel, rfl⟩
theorem kc_mm_driftsTo : ai_okC mm_driftsTo = true := by decide +kernel
set_option maxRecDepth 100000 in
theorem ok_mm_driftsTo : ai_okM mm_driftsTo := ⟨kc_mm_driftsTo, ⟨1339, rfl⟩, by decide +kernel, rfl⟩
theorem kc_mm_wentIn : ai_okC mm_wentIn = true := by decide +kernel
set_option maxRecDepth 100000 in
theorem ok_mm_wentIn : ai_okM mm_wentIn := ⟨kc_mm_wentIn, ⟨1335, rfl⟩, by decide +kernel, rfl⟩
theorem kc_mf_areFish : ai_okC mf_areFish = true := by decide +kernel
set_option maxRecDepth 100000 in
theorem ok_mf_areFish : ai_okM mf_areFish := ⟨kc_mf_areFish, ⟨839, rfl⟩, by decide +kernel, rfl⟩
theorem kc_mf_fillDowns : ai_okC mf_fillDowns = true := by decide +kernel
set_option maxRecDepth 100000 in
theorem ok_mf_fillDowns : ai_okM mf_fillDowns := ⟨kc_mf_fillDowns, ⟨843, rfl⟩, by decide +kernel, rfl⟩
theorem kc_mf_caught : ai_okC mf_caught = true := by decide +kernel
set_option maxRecDepth 100000 in
theorem ok_mf_caught : ai_okM mf_caught := ⟨kc_mf_caught, ⟨847, rfl⟩, by decide +kernel, rfl⟩
