theorem kc_mf_read : ai_okC mf_read = true := by decide +kernel
set_option maxRecDepth 100000 in
theorem ok_mf_read : ai_okM mf_read := ⟨kc_mf_read, ⟨519, rfl⟩, by decide +kernel, rfl⟩
theorem kc_mm_byteAt : ai_okC mm_byteAt = true := by decide +kernel
set_option maxRecDepth 100000 in
theorem ok_mm_byteAt : ai_okM mm_byteAt := ⟨kc_mm_byteAt, ⟨1174, rfl⟩, by decide +kernel, rfl⟩
theorem kc_mm_token : ai_okC mm_token = true := by decide +kernel
set_option maxRecDepth 100000 in
theorem ok_mm_token : ai_okM mm_token := ⟨kc_mm_token, ⟨1170, rfl⟩, by decide +kernel, rfl⟩
theorem kc_mm_isNamed : ai_okC mm_isNamed = true := by decide +kernel
set_option maxRecDepth 100000 in
theorem ok_mm_isNamed : ai_okM mm_isNamed := ⟨kc_mm_isNamed, ⟨1190, rfl⟩, by decide +kernel, rfl⟩
theorem kc_mm_wordNow : ai_okC mm_wordNow = true := by decide +kernel
set_option maxRecDepth 100000 in
theorem ok_mm_wordNow : ai_okM mm_wordNow := ⟨kc_mm_wordNow, ⟨1186, rfl⟩, by decide +kernel, rfl⟩
theorem kc_mm_manyOf : ai_okC mm_manyOf = true := by decide +kernel
set_option maxRecDepth 100000 in
theorem ok_mm_manyOf : ai_okM mm_manyOf := ⟨kc_mm_manyOf, ⟨1193, rfl⟩, by decide +kernel, rfl⟩
theorem kc_mm_takesItem : ai_okC mm_takesItem = true := by decide +kernel
set_option maxRecDepth 100000 in
theorem ok_mm_takesItem : ai_okM mm_takesItem := ⟨kc_mm_takesItem, ⟨1182, rfl⟩, by decide +kernel, rfl⟩
theorem kc_mm_done : ai_okC mm_done = true := by decide +kernel
set_option maxRecDepth 100000 in
theorem ok_mm_done : ai_okM mm_done := ⟨kc_mm_done, ⟨1197, rfl⟩, by decide +kernel, rfl⟩
theorem kc_mm_copy : ai_okC mm_copy = true := by decide +kernel
set_option maxRecDepth 100000 in
theorem ok_mm_copy : ai_okM mm_copy := ⟨kc_mm_copy, ⟨1201, rfl⟩, by decide +kernel, rfl⟩
theorem kc_mm_read : ai_okC mm_read = true := by decide +kernel
set_option maxRecDepth 100000 in
theorem ok_mm_read : ai_okM mm_read := ⟨kc_mm_read, ⟨1166, rfl⟩, by decide +kernel, rfl⟩
theorem kc_msea_goOn : ai_okC msea_goOn = true := by decide +kernel
set_option maxRecDepth 100000 in
theorem ok_msea_goOn : ai_okM msea_goOn := ⟨kc_msea_goOn, ⟨640, rfl⟩, by decide +kernel, rfl⟩
theorem kc_mf_hours : ai_okC mf_hours = true := by decide +kernel
set_option maxRecDepth 100000 in
theorem ok_mf_hours : ai_okM mf_hours := ⟨kc_mf_hours, ⟨636, rfl⟩, by decide +kernel, rfl⟩
theorem kc_mm_hours : ai_okC mm_hours = true := by decide +kernel
set_option maxRecDepth 100000 in
theorem ok_mm_hours : ai_okM mm_hours := ⟨kc_mm_hours, ⟨1205, rfl⟩, by decide +kernel, rfl⟩
theorem kc_msea_goBack : ai_okC msea_goBack = true := by decide +kernel
set_option maxRecDepth 100000 in
theorem ok_msea_goBack : ai_okM msea_goBack := ⟨kc_msea_goBack, ⟨648, rfl⟩, by decide +kernel, rfl⟩
theorem kc_mf_undo : ai_okC mf_undo = true := by decide +kernel
set_option maxRecDepth 100000 in
theorem ok_mf_undo : ai_okM mf_undo := ⟨kc_mf_undo, ⟨644, rfl⟩, by decide +kernel, rfl⟩
theorem kc_mm_undo : ai_okC mm_undo = true := by decide +kernel
set_option maxRecDepth 100000 in
theorem ok_mm_undo : ai_okM mm_undo := ⟨kc_mm_undo, ⟨1209, rfl⟩, by decide +kernel, rfl⟩
theorem kc_mfall_weightOf : ai_okC mfall_weightOf = true := by decide +kernel
set_option maxRecDepth 100000 in
theorem ok_mfall_weightOf : ai_okM mfall_weightOf := ⟨kc_mfall_weightOf, ⟨667, rfl⟩, by decide +kernel, rfl⟩
theorem kc_mfall_roomOf : ai_okC mfall_roomOf = true := by decide +kernel
set_option maxRecDepth 100000 in
theorem ok_mfall_roomOf : ai_okM mfall_roomOf := ⟨kc_mfall_roomOf, ⟨673, rfl⟩, by decide +kernel, rfl⟩
theorem kc_mfall_forceOf : ai_okC mfall_forceOf = true := by decide +kernel
set_option maxRecDepth 100000 in
theorem ok_mfall_forceOf : ai_okM mfall_forceOf := ⟨kc_mfall_forceOf, ⟨676, rfl⟩, by decide +kernel, rfl⟩
theorem kc_mfall_shape : ai_okC mfall_shape = true := by decide +kernel
set_option maxRecDepth 100000 in
theorem ok_mfall_shape : ai_okM mfall_shape := ⟨kc_mfall_shape, ⟨664, rfl⟩, by decide +kernel, rfl⟩
theorem kc_mf_shapeWithBallast : ai_okC mf_shapeWithBallast = true := by decide +kernel
set_option maxRecDepth 100000 in
theorem ok_mf_shapeWithBallast : ai_okM mf_shapeWithBallast := ⟨kc_mf_shapeWithBallast, ⟨660, rfl⟩, by decide +kernel, rfl⟩
theorem kc_mf_shapeNow : ai_okC mf_shapeNow = true := by decide +kernel
set_option maxRecDepth 100000 in
theorem ok_mf_shapeNow : ai_okM mf_shapeNow := ⟨kc_mf_shapeNow, ⟨656, rfl⟩, by decide +kernel, rfl⟩
theorem kc_mf_of : ai_okC mf_of = true := by decide +kernel
set_option maxRecDepth 100000 in
theorem ok_mf_of : ai_okM mf_of := ⟨kc_mf_of, ⟨652, rfl⟩, by decide +kernel, rfl⟩
theorem kc_mm_lay : ai_okC mm_lay = true := by decide +kernel
set_option maxRecDepth 100000 in
theorem ok_mm_lay : ai_okM mm_lay := ⟨kc_mm_lay, ⟨1217, rfl⟩, by decide +kernel, rfl⟩
theorem kc_mm_lesser : ai_okC mm_lesser = true := by decide +kernel
set_option maxRecDepth 100000 in
theorem ok_mm_lesser : ai_okM mm_lesser := ⟨kc_mm_lesser, ⟨1224, rfl⟩, by decide +kernel, rfl⟩
theorem kc_mm_weighs : ai_okC mm_weighs = true := by decide +kernel
set_option maxRecDepth 100000 in
theorem ok_mm_weighs : ai_okM mm_weighs := ⟨kc_mm_weighs, ⟨1221, rfl⟩, by decide +kernel, rfl⟩
theorem kc_mm_room : ai_okC mm_room = true := by decide +kernel
set_option maxRecDepth 100000 in
theorem ok_mm_room : ai_okM mm_room := ⟨kc_mm_room, ⟨1228, rfl⟩, by decide +kernel, rfl⟩
theorem kc_mm_of : ai_okC mm_of = true := by decide +kernel
set_option maxRecDepth 100000 in
theorem ok_mm_of : ai_okM mm_of := ⟨kc_mm_of, ⟨1213, rfl⟩, by decide +kernel, rfl⟩
theorem kc_msea_thickAt : ai_okC msea_thickAt = true := by decide +kernel
set_option maxRecDepth 100000 in
theorem ok_msea_thickAt : ai_okM msea_thickAt := ⟨kc_msea_thickAt, ⟨685, rfl⟩, by decide +kernel, rfl⟩
theorem kc_mf_deep : ai_okC mf_deep = true := by decide +kernel
set_option maxRecDepth 100000 in
theorem ok_mf_deep : ai_okM mf_deep := ⟨kc_mf_deep, ⟨680, rfl⟩, by decide +kernel, rfl⟩
theorem kc_mm_isCell : ai_okC mm_isCell = true := by decide +kernel
set_option maxRecDepth 100000 in
theorem ok_mm_isCell : ai_okM mm_isCell := ⟨kc_mm_isCell, ⟨1236, rfl⟩, by decide +kernel, rfl⟩
theorem kc_mm_thickIn : ai_okC mm_thickIn = true := by decide +kernel
set_option maxRecDepth 100000 in
theorem ok_mm_thickIn : ai_okM mm_thickIn := ⟨kc_mm_thickIn, ⟨1240, rfl⟩, by decide +kernel, rfl⟩
theorem kc_mm_deep : ai_okC mm_deep = true := by decide +kernel
set_option maxRecDepth 100000 in
theorem ok_mm_deep : ai_okM mm_deep := ⟨kc_mm_deep, ⟨1232, rfl⟩, by decide +kernel, rfl⟩
theorem kc_mfall_forget : ai_okC mfall_forget = true := by decide +kernel
set_option maxRecDepth 100000 in
theorem ok_mfall_forget : ai_okM mfall_forget := ⟨kc_mfall_forget, ⟨704, rfl⟩, by decide +kernel, rfl⟩
theorem kc_mfall_getsThrough : ai_okC mfall_getsThrough = true := by decide +kernel
set_option maxRecDepth 100000 in
theorem ok_mfall_getsThrough : ai_okM mfall_getsThrough := ⟨kc_mfall_getsThrough, ⟨710, rfl⟩, by decide +kernel, rfl⟩
theorem kc_mfall_letGo : ai_okC mfall_letGo = true := by decide +kernel
set_option maxRecDepth 100000 in
theorem ok_mfall_letGo : ai_okM mfall_letGo := ⟨kc_mfall_letGo, ⟨700, rfl⟩, by decide +kernel, rfl⟩
