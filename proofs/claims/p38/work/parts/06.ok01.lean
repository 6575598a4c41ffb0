theorem kc_mm_ballast : ai_okC mm_ballast = true := by decide +kernel
set_option maxRecDepth 100000 in
theorem ok_mm_ballast : ai_okM mm_ballast := ⟨kc_mm_ballast, ⟨1106, rfl⟩, by decide +kernel, rfl⟩
theorem kc_msea_hasPlace : ai_okC msea_hasPlace = true := by decide +kernel
set_option maxRecDepth 100000 in
theorem ok_msea_hasPlace : ai_okM msea_hasPlace := ⟨kc_msea_hasPlace, ⟨466, rfl⟩, by decide +kernel, rfl⟩
theorem kc_mlift_add : ai_okC mlift_add = true := by decide +kernel
set_option maxRecDepth 100000 in
theorem ok_mlift_add : ai_okM mlift_add := ⟨kc_mlift_add, ⟨470, rfl⟩, by decide +kernel, rfl⟩
theorem kc_msea_addLift : ai_okC msea_addLift = true := by decide +kernel
set_option maxRecDepth 100000 in
theorem ok_msea_addLift : ai_okM msea_addLift := ⟨kc_msea_addLift, ⟨462, rfl⟩, by decide +kernel, rfl⟩
theorem kc_mf_lift : ai_okC mf_lift = true := by decide +kernel
set_option maxRecDepth 100000 in
theorem ok_mf_lift : ai_okM mf_lift := ⟨kc_mf_lift, ⟨458, rfl⟩, by decide +kernel, rfl⟩
theorem kc_mm_isPlaceOf : ai_okC mm_isPlaceOf = true := by decide +kernel
set_option maxRecDepth 100000 in
theorem ok_mm_isPlaceOf : ai_okM mm_isPlaceOf := ⟨kc_mm_isPlaceOf, ⟨1126, rfl⟩, by decide +kernel, rfl⟩
theorem kc_mm_liftTo : ai_okC mm_liftTo = true := by decide +kernel
set_option maxRecDepth 100000 in
theorem ok_mm_liftTo : ai_okM mm_liftTo := ⟨kc_mm_liftTo, ⟨1122, rfl⟩, by decide +kernel, rfl⟩
theorem kc_mm_lift : ai_okC mm_lift = true := by decide +kernel
set_option maxRecDepth 100000 in
theorem ok_mm_lift : ai_okM mm_lift := ⟨kc_mm_lift, ⟨1118, rfl⟩, by decide +kernel, rfl⟩
theorem kc_msea_addTown : ai_okC msea_addTown = true := by decide +kernel
set_option maxRecDepth 100000 in
theorem ok_msea_addTown : ai_okM msea_addTown := ⟨kc_msea_addTown, ⟨478, rfl⟩, by decide +kernel, rfl⟩
theorem kc_mf_town : ai_okC mf_town = true := by decide +kernel
set_option maxRecDepth 100000 in
theorem ok_mf_town : ai_okM mf_town := ⟨kc_mf_town, ⟨474, rfl⟩, by decide +kernel, rfl⟩
theorem kc_mm_townTo : ai_okC mm_townTo = true := by decide +kernel
set_option maxRecDepth 100000 in
theorem ok_mm_townTo : ai_okM mm_townTo := ⟨kc_mm_townTo, ⟨1134, rfl⟩, by decide +kernel, rfl⟩
theorem kc_mm_town : ai_okC mm_town = true := by decide +kernel
set_option maxRecDepth 100000 in
theorem ok_mm_town : ai_okM mm_town := ⟨kc_mm_town, ⟨1130, rfl⟩, by decide +kernel, rfl⟩
theorem kc_msea_putDam : ai_okC msea_putDam = true := by decide +kernel
set_option maxRecDepth 100000 in
theorem ok_msea_putDam : ai_okM msea_putDam := ⟨kc_msea_putDam, ⟨486, rfl⟩, by decide +kernel, rfl⟩
theorem kc_mf_dam : ai_okC mf_dam = true := by decide +kernel
set_option maxRecDepth 100000 in
theorem ok_mf_dam : ai_okM mf_dam := ⟨kc_mf_dam, ⟨482, rfl⟩, by decide +kernel, rfl⟩
theorem kc_mm_has : ai_okC mm_has = true := by decide +kernel
set_option maxRecDepth 100000 in
theorem ok_mm_has : ai_okM mm_has := ⟨kc_mm_has, ⟨1145, rfl⟩, by decide +kernel, rfl⟩
theorem kc_mm_damTo : ai_okC mm_damTo = true := by decide +kernel
set_option maxRecDepth 100000 in
theorem ok_mm_damTo : ai_okM mm_damTo := ⟨kc_mm_damTo, ⟨1142, rfl⟩, by decide +kernel, rfl⟩
theorem kc_mm_dam : ai_okC mm_dam = true := by decide +kernel
set_option maxRecDepth 100000 in
theorem ok_mm_dam : ai_okM mm_dam := ⟨kc_mm_dam, ⟨1138, rfl⟩, by decide +kernel, rfl⟩
theorem kc_msea_addDrop : ai_okC msea_addDrop = true := by decide +kernel
set_option maxRecDepth 100000 in
theorem ok_msea_addDrop : ai_okM msea_addDrop := ⟨kc_msea_addDrop, ⟨494, rfl⟩, by decide +kernel, rfl⟩
theorem kc_mf_drop : ai_okC mf_drop = true := by decide +kernel
set_option maxRecDepth 100000 in
theorem ok_mf_drop : ai_okM mf_drop := ⟨kc_mf_drop, ⟨490, rfl⟩, by decide +kernel, rfl⟩
theorem kc_mm_drop : ai_okC mm_drop = true := by decide +kernel
set_option maxRecDepth 100000 in
theorem ok_mm_drop : ai_okM mm_drop := ⟨kc_mm_drop, ⟨1149, rfl⟩, by decide +kernel, rfl⟩
theorem kc_msea_empty : ai_okC msea_empty = true := by decide +kernel
set_option maxRecDepth 100000 in
theorem ok_msea_empty : ai_okM msea_empty := ⟨kc_msea_empty, ⟨502, rfl⟩, by decide +kernel, rfl⟩
theorem kc_mf_clean : ai_okC mf_clean = true := by decide +kernel
set_option maxRecDepth 100000 in
theorem ok_mf_clean : ai_okM mf_clean := ⟨kc_mf_clean, ⟨498, rfl⟩, by decide +kernel, rfl⟩
theorem kc_mm_clean : ai_okC mm_clean = true := by decide +kernel
set_option maxRecDepth 100000 in
theorem ok_mm_clean : ai_okM mm_clean := ⟨kc_mm_clean, ⟨1153, rfl⟩, by decide +kernel, rfl⟩
theorem kc_mtxt_add : ai_okC mtxt_add = true := by decide +kernel
set_option maxRecDepth 100000 in
theorem ok_mtxt_add : ai_okM mtxt_add := ⟨kc_mtxt_add, ⟨510, rfl⟩, by decide +kernel, rfl⟩
theorem kc_mf_type : ai_okC mf_type = true := by decide +kernel
set_option maxRecDepth 100000 in
theorem ok_mf_type : ai_okM mf_type := ⟨kc_mf_type, ⟨506, rfl⟩, by decide +kernel, rfl⟩
theorem kc_mm_type : ai_okC mm_type = true := by decide +kernel
set_option maxRecDepth 100000 in
theorem ok_mm_type : ai_okM mm_type := ⟨kc_mm_type, ⟨1157, rfl⟩, by decide +kernel, rfl⟩
theorem kc_mf_clear : ai_okC mf_clear = true := by decide +kernel
set_option maxRecDepth 100000 in
theorem ok_mf_clear : ai_okM mf_clear := ⟨kc_mf_clear, ⟨515, rfl⟩, by decide +kernel, rfl⟩
theorem kc_mm_clear : ai_okC mm_clear = true := by decide +kernel
set_option maxRecDepth 100000 in
theorem ok_mm_clear : ai_okM mm_clear := ⟨kc_mm_clear, ⟨1162, rfl⟩, by decide +kernel, rfl⟩
theorem kc_mtxt_skipBlanks : ai_okC mtxt_skipBlanks = true := by decide +kernel
set_option maxRecDepth 100000 in
theorem ok_mtxt_skipBlanks : ai_okM mtxt_skipBlanks := ⟨kc_mtxt_skipBlanks, ⟨527, rfl⟩, by decide +kernel, rfl⟩
theorem kc_mtxt_nameOf : ai_okC mtxt_nameOf = true := by decide +kernel
set_option maxRecDepth 100000 in
theorem ok_mtxt_nameOf : ai_okM mtxt_nameOf := ⟨kc_mtxt_nameOf, ⟨534, rfl⟩, by decide +kernel, rfl⟩
theorem kc_mtxt_isWord : ai_okC mtxt_isWord = true := by decide +kernel
set_option maxRecDepth 100000 in
theorem ok_mtxt_isWord : ai_okM mtxt_isWord := ⟨kc_mtxt_isWord, ⟨546, rfl⟩, by decide +kernel, rfl⟩
theorem kc_mtxt_takeWord : ai_okC mtxt_takeWord = true := by decide +kernel
set_option maxRecDepth 100000 in
theorem ok_mtxt_takeWord : ai_okM mtxt_takeWord := ⟨kc_mtxt_takeWord, ⟨531, rfl⟩, by decide +kernel, rfl⟩
theorem kc_mtxt_numbersBehind : ai_okC mtxt_numbersBehind = true := by decide +kernel
set_option maxRecDepth 100000 in
theorem ok_mtxt_numbersBehind : ai_okM mtxt_numbersBehind := ⟨kc_mtxt_numbersBehind, ⟨597, rfl⟩, by decide +kernel, rfl⟩
theorem kc_mtxt_isFigure : ai_okC mtxt_isFigure = true := by decide +kernel
set_option maxRecDepth 100000 in
theorem ok_mtxt_isFigure : ai_okM mtxt_isFigure := ⟨kc_mtxt_isFigure, ⟨605, rfl⟩, by decide +kernel, rfl⟩
theorem kc_mtxt_takeNumbers : ai_okC mtxt_takeNumbers = true := by decide +kernel
set_option maxRecDepth 100000 in
theorem ok_mtxt_takeNumbers : ai_okM mtxt_takeNumbers := ⟨kc_mtxt_takeNumbers, ⟨601, rfl⟩, by decide +kernel, rfl⟩
theorem kc_mtxt_tellItem : ai_okC mtxt_tellItem = true := by decide +kernel
set_option maxRecDepth 100000 in
theorem ok_mtxt_tellItem : ai_okM mtxt_tellItem := ⟨kc_mtxt_tellItem, ⟨609, rfl⟩, by decide +kernel, rfl⟩
theorem kc_mtxt_tell : ai_okC mtxt_tell = true := by decide +kernel
set_option maxRecDepth 100000 in
theorem ok_mtxt_tell : ai_okM mtxt_tell := ⟨kc_mtxt_tell, ⟨523, rfl⟩, by decide +kernel, rfl⟩
theorem kc_mthg_copyFrom : ai_okC mthg_copyFrom = true := by decide +kernel
set_option maxRecDepth 100000 in
theorem ok_mthg_copyFrom : ai_okM mthg_copyFrom := ⟨kc_mthg_copyFrom, ⟨625, rfl⟩, by decide +kernel, rfl⟩
theorem kc_mlift_copyFrom : ai_okC mlift_copyFrom = true := by decide +kernel
set_option maxRecDepth 100000 in
theorem ok_mlift_copyFrom : ai_okM mlift_copyFrom := ⟨kc_mlift_copyFrom, ⟨630, rfl⟩, by decide +kernel, rfl⟩
theorem kc_msea_copyFrom : ai_okC msea_copyFrom = true := by decide +kernel
set_option maxRecDepth 100000 in
theorem ok_msea_copyFrom : ai_okM msea_copyFrom := ⟨kc_msea_copyFrom, ⟨621, rfl⟩, by decide +kernel, rfl⟩
