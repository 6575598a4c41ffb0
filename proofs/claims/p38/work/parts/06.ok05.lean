theorem kc_mf_nets : ai_okC mf_nets = true := by decide +kernel
set_option maxRecDepth 100000 in
theorem ok_mf_nets : ai_okM mf_nets := ⟨kc_mf_nets, ⟨835, rfl⟩, by decide +kernel, rfl⟩
theorem kc_mm_nets : ai_okC mm_nets = true := by decide +kernel
set_option maxRecDepth 100000 in
theorem ok_mm_nets : ai_okM mm_nets := ⟨kc_mm_nets, ⟨1343, rfl⟩, by decide +kernel, rfl⟩
theorem kc_msea_sweetInAll : ai_okC msea_sweetInAll = true := by decide +kernel
set_option maxRecDepth 100000 in
theorem ok_msea_sweetInAll : ai_okM msea_sweetInAll := ⟨kc_msea_sweetInAll, ⟨855, rfl⟩, by decide +kernel, rfl⟩
theorem kc_mf_tapped : ai_okC mf_tapped = true := by decide +kernel
set_option maxRecDepth 100000 in
theorem ok_mf_tapped : ai_okM mf_tapped := ⟨kc_mf_tapped, ⟨861, rfl⟩, by decide +kernel, rfl⟩
theorem kc_mf_isBestTap : ai_okC mf_isBestTap = true := by decide +kernel
set_option maxRecDepth 100000 in
theorem ok_mf_isBestTap : ai_okM mf_isBestTap := ⟨kc_mf_isBestTap, ⟨858, rfl⟩, by decide +kernel, rfl⟩
theorem kc_mf_tap : ai_okC mf_tap = true := by decide +kernel
set_option maxRecDepth 100000 in
theorem ok_mf_tap : ai_okM mf_tap := ⟨kc_mf_tap, ⟨851, rfl⟩, by decide +kernel, rfl⟩
theorem kc_mm_tapped : ai_okC mm_tapped = true := by decide +kernel
set_option maxRecDepth 100000 in
theorem ok_mm_tapped : ai_okM mm_tapped := ⟨kc_mm_tapped, ⟨1351, rfl⟩, by decide +kernel, rfl⟩
theorem kc_mm_tap : ai_okC mm_tap = true := by decide +kernel
set_option maxRecDepth 100000 in
theorem ok_mm_tap : ai_okM mm_tap := ⟨kc_mm_tap, ⟨1347, rfl⟩, by decide +kernel, rfl⟩
theorem kc_msea_fitsDrops : ai_okC msea_fitsDrops = true := by decide +kernel
set_option maxRecDepth 100000 in
theorem ok_msea_fitsDrops : ai_okM msea_fitsDrops := ⟨kc_msea_fitsDrops, ⟨870, rfl⟩, by decide +kernel, rfl⟩
theorem kc_mf_nextToTry : ai_okC mf_nextToTry = true := by decide +kernel
set_option maxRecDepth 100000 in
theorem ok_mf_nextToTry : ai_okM mf_nextToTry := ⟨kc_mf_nextToTry, ⟨874, rfl⟩, by decide +kernel, rfl⟩
theorem kc_mf_known : ai_okC mf_known = true := by decide +kernel
set_option maxRecDepth 100000 in
theorem ok_mf_known : ai_okM mf_known := ⟨kc_mf_known, ⟨866, rfl⟩, by decide +kernel, rfl⟩
theorem kc_mm_fits : ai_okC mm_fits = true := by decide +kernel
set_option maxRecDepth 100000 in
theorem ok_mm_fits : ai_okM mm_fits := ⟨kc_mm_fits, ⟨1359, rfl⟩, by decide +kernel, rfl⟩
theorem kc_mm_known : ai_okC mm_known = true := by decide +kernel
set_option maxRecDepth 100000 in
theorem ok_mm_known : ai_okM mm_known := ⟨kc_mm_known, ⟨1355, rfl⟩, by decide +kernel, rfl⟩
theorem kc_mf_chanceOf : ai_okC mf_chanceOf = true := by decide +kernel
set_option maxRecDepth 100000 in
theorem ok_mf_chanceOf : ai_okM mf_chanceOf := ⟨kc_mf_chanceOf, ⟨882, rfl⟩, by decide +kernel, rfl⟩
theorem kc_mf_putFraction : ai_okC mf_putFraction = true := by decide +kernel
set_option maxRecDepth 100000 in
theorem ok_mf_putFraction : ai_okM mf_putFraction := ⟨kc_mf_putFraction, ⟨886, rfl⟩, by decide +kernel, rfl⟩
theorem kc_mf_storm : ai_okC mf_storm = true := by decide +kernel
set_option maxRecDepth 100000 in
theorem ok_mf_storm : ai_okM mf_storm := ⟨kc_mf_storm, ⟨878, rfl⟩, by decide +kernel, rfl⟩
theorem kc_mm_tells : ai_okC mm_tells = true := by decide +kernel
set_option maxRecDepth 100000 in
theorem ok_mm_tells : ai_okM mm_tells := ⟨kc_mm_tells, ⟨1368, rfl⟩, by decide +kernel, rfl⟩
theorem kc_mm_storm : ai_okC mm_storm = true := by decide +kernel
set_option maxRecDepth 100000 in
theorem ok_mm_storm : ai_okM mm_storm := ⟨kc_mm_storm, ⟨1363, rfl⟩, by decide +kernel, rfl⟩
theorem kc_mf_part : ai_okC mf_part = true := by decide +kernel
set_option maxRecDepth 100000 in
theorem ok_mf_part : ai_okM mf_part := ⟨kc_mf_part, ⟨890, rfl⟩, by decide +kernel, rfl⟩
theorem kc_mm_part : ai_okC mm_part = true := by decide +kernel
set_option maxRecDepth 100000 in
theorem ok_mm_part : ai_okM mm_part := ⟨kc_mm_part, ⟨1372, rfl⟩, by decide +kernel, rfl⟩
theorem kc_mf_imageAt : ai_okC mf_imageAt = true := by decide +kernel
set_option maxRecDepth 100000 in
theorem ok_mf_imageAt : ai_okM mf_imageAt := ⟨kc_mf_imageAt, ⟨898, rfl⟩, by decide +kernel, rfl⟩
theorem kc_mf_image : ai_okC mf_image = true := by decide +kernel
set_option maxRecDepth 100000 in
theorem ok_mf_image : ai_okM mf_image := ⟨kc_mf_image, ⟨894, rfl⟩, by decide +kernel, rfl⟩
theorem kc_mm_image : ai_okC mm_image = true := by decide +kernel
set_option maxRecDepth 100000 in
theorem ok_mm_image : ai_okM mm_image := ⟨kc_mm_image, ⟨1376, rfl⟩, by decide +kernel, rfl⟩
theorem kc_mf_from : ai_okC mf_from = true := by decide +kernel
set_option maxRecDepth 100000 in
theorem ok_mf_from : ai_okM mf_from := ⟨kc_mf_from, ⟨902, rfl⟩, by decide +kernel, rfl⟩
theorem kc_mm_from : ai_okC mm_from = true := by decide +kernel
set_option maxRecDepth 100000 in
theorem ok_mm_from : ai_okM mm_from := ⟨kc_mm_from, ⟨1380, rfl⟩, by decide +kernel, rfl⟩
theorem kc_mf_status : ai_okC mf_status = true := by decide +kernel
set_option maxRecDepth 100000 in
theorem ok_mf_status : ai_okM mf_status := ⟨kc_mf_status, ⟨906, rfl⟩, by decide +kernel, rfl⟩
