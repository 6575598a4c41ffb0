theorem kc_mf_letGoNow : ai_okC mf_letGoNow = true := by decide +kernel
set_option maxRecDepth 100000 in
theorem ok_mf_letGoNow : ai_okM mf_letGoNow := ⟨kc_mf_letGoNow, ⟨696, rfl⟩, by decide +kernel, rfl⟩
theorem kc_mf_rests : ai_okC mf_rests = true := by decide +kernel
set_option maxRecDepth 100000 in
theorem ok_mf_rests : ai_okM mf_rests := ⟨kc_mf_rests, ⟨692, rfl⟩, by decide +kernel, rfl⟩
theorem kc_mm_breaks : ai_okC mm_breaks = true := by decide +kernel
set_option maxRecDepth 100000 in
theorem ok_mm_breaks : ai_okM mm_breaks := ⟨kc_mm_breaks, ⟨1252, rfl⟩, by decide +kernel, rfl⟩
theorem kc_mm_comesDown : ai_okC mm_comesDown = true := by decide +kernel
set_option maxRecDepth 100000 in
theorem ok_mm_comesDown : ai_okM mm_comesDown := ⟨kc_mm_comesDown, ⟨1248, rfl⟩, by decide +kernel, rfl⟩
theorem kc_mm_rests : ai_okC mm_rests = true := by decide +kernel
set_option maxRecDepth 100000 in
theorem ok_mm_rests : ai_okM mm_rests := ⟨kc_mm_rests, ⟨1244, rfl⟩, by decide +kernel, rfl⟩
theorem kc_mf_takesBallast : ai_okC mf_takesBallast = true := by decide +kernel
set_option maxRecDepth 100000 in
theorem ok_mf_takesBallast : ai_okM mf_takesBallast := ⟨kc_mf_takesBallast, ⟨718, rfl⟩, by decide +kernel, rfl⟩
theorem kc_mf_letGoWithBallast : ai_okC mf_letGoWithBallast = true := by decide +kernel
set_option maxRecDepth 100000 in
theorem ok_mf_letGoWithBallast : ai_okM mf_letGoWithBallast := ⟨kc_mf_letGoWithBallast, ⟨726, rfl⟩, by decide +kernel, rfl⟩
theorem kc_mf_leastBallast : ai_okC mf_leastBallast = true := by decide +kernel
set_option maxRecDepth 100000 in
theorem ok_mf_leastBallast : ai_okM mf_leastBallast := ⟨kc_mf_leastBallast, ⟨722, rfl⟩, by decide +kernel, rfl⟩
theorem kc_mf_sink : ai_okC mf_sink = true := by decide +kernel
set_option maxRecDepth 100000 in
theorem ok_mf_sink : ai_okM mf_sink := ⟨kc_mf_sink, ⟨714, rfl⟩, by decide +kernel, rfl⟩
theorem kc_mm_isLoaded : ai_okC mm_isLoaded = true := by decide +kernel
set_option maxRecDepth 100000 in
theorem ok_mm_isLoaded : ai_okM mm_isLoaded := ⟨kc_mm_isLoaded, ⟨1260, rfl⟩, by decide +kernel, rfl⟩
theorem kc_mm_leastFor : ai_okC mm_leastFor = true := by decide +kernel
set_option maxRecDepth 100000 in
theorem ok_mm_leastFor : ai_okM mm_leastFor := ⟨kc_mm_leastFor, ⟨1265, rfl⟩, by decide +kernel, rfl⟩
theorem kc_mm_sink : ai_okC mm_sink = true := by decide +kernel
set_option maxRecDepth 100000 in
theorem ok_mm_sink : ai_okM mm_sink := ⟨kc_mm_sink, ⟨1256, rfl⟩, by decide +kernel, rfl⟩
theorem kc_mf_holds : ai_okC mf_holds = true := by decide +kernel
set_option maxRecDepth 100000 in
theorem ok_mf_holds : ai_okM mf_holds := ⟨kc_mf_holds, ⟨730, rfl⟩, by decide +kernel, rfl⟩
theorem kc_mm_holds : ai_okC mm_holds = true := by decide +kernel
set_option maxRecDepth 100000 in
theorem ok_mm_holds : ai_okM mm_holds := ⟨kc_mm_holds, ⟨1269, rfl⟩, by decide +kernel, rfl⟩
theorem kc_mf_bestHour : ai_okC mf_bestHour = true := by decide +kernel
set_option maxRecDepth 100000 in
theorem ok_mf_bestHour : ai_okM mf_bestHour := ⟨kc_mf_bestHour, ⟨734, rfl⟩, by decide +kernel, rfl⟩
theorem kc_mm_bestHour : ai_okC mm_bestHour = true := by decide +kernel
set_option maxRecDepth 100000 in
theorem ok_mm_bestHour : ai_okM mm_bestHour := ⟨kc_mm_bestHour, ⟨1273, rfl⟩, by decide +kernel, rfl⟩
theorem kc_mway_numberOf : ai_okC mway_numberOf = true := by decide +kernel
set_option maxRecDepth 100000 in
theorem ok_mway_numberOf : ai_okM mway_numberOf := ⟨kc_mway_numberOf, ⟨748, rfl⟩, by decide +kernel, rfl⟩
theorem kc_mway_join : ai_okC mway_join = true := by decide +kernel
set_option maxRecDepth 100000 in
theorem ok_mway_join : ai_okM mway_join := ⟨kc_mway_join, ⟨756, rfl⟩, by decide +kernel, rfl⟩
theorem kc_mway_goByLifts : ai_okC mway_goByLifts = true := by decide +kernel
set_option maxRecDepth 100000 in
theorem ok_mway_goByLifts : ai_okM mway_goByLifts := ⟨kc_mway_goByLifts, ⟨752, rfl⟩, by decide +kernel, rfl⟩
theorem kc_mway_goBeside : ai_okC mway_goBeside = true := by decide +kernel
set_option maxRecDepth 100000 in
theorem ok_mway_goBeside : ai_okM mway_goBeside := ⟨kc_mway_goBeside, ⟨761, rfl⟩, by decide +kernel, rfl⟩
theorem kc_mway_soonestWay : ai_okC mway_soonestWay = true := by decide +kernel
set_option maxRecDepth 100000 in
theorem ok_mway_soonestWay : ai_okM mway_soonestWay := ⟨kc_mway_soonestWay, ⟨743, rfl⟩, by decide +kernel, rfl⟩
theorem kc_mf_soonest : ai_okC mf_soonest = true := by decide +kernel
set_option maxRecDepth 100000 in
theorem ok_mf_soonest : ai_okM mf_soonest := ⟨kc_mf_soonest, ⟨738, rfl⟩, by decide +kernel, rfl⟩
theorem kc_mm_comesTo : ai_okC mm_comesTo = true := by decide +kernel
set_option maxRecDepth 100000 in
theorem ok_mm_comesTo : ai_okM mm_comesTo := ⟨kc_mm_comesTo, ⟨1282, rfl⟩, by decide +kernel, rfl⟩
theorem kc_mm_isThick : ai_okC mm_isThick = true := by decide +kernel
set_option maxRecDepth 100000 in
theorem ok_mm_isThick : ai_okM mm_isThick := ⟨kc_mm_isThick, ⟨1286, rfl⟩, by decide +kernel, rfl⟩
theorem kc_mm_soonest : ai_okC mm_soonest = true := by decide +kernel
set_option maxRecDepth 100000 in
theorem ok_mm_soonest : ai_okM mm_soonest := ⟨kc_mm_soonest, ⟨1278, rfl⟩, by decide +kernel, rfl⟩
theorem kc_msea_ceilingOf : ai_okC msea_ceilingOf = true := by decide +kernel
set_option maxRecDepth 100000 in
theorem ok_msea_ceilingOf : ai_okM msea_ceilingOf := ⟨kc_msea_ceilingOf, ⟨770, rfl⟩, by decide +kernel, rfl⟩
theorem kc_msea_duesOf : ai_okC msea_duesOf = true := by decide +kernel
set_option maxRecDepth 100000 in
theorem ok_msea_duesOf : ai_okM msea_duesOf := ⟨kc_msea_duesOf, ⟨774, rfl⟩, by decide +kernel, rfl⟩
theorem kc_mf_net : ai_okC mf_net = true := by decide +kernel
set_option maxRecDepth 100000 in
theorem ok_mf_net : ai_okM mf_net := ⟨kc_mf_net, ⟨766, rfl⟩, by decide +kernel, rfl⟩
theorem kc_mm_ceilingOf : ai_okC mm_ceilingOf = true := by decide +kernel
set_option maxRecDepth 100000 in
theorem ok_mm_ceilingOf : ai_okM mm_ceilingOf := ⟨kc_mm_ceilingOf, ⟨1294, rfl⟩, by decide +kernel, rfl⟩
theorem kc_mm_duesOf : ai_okC mm_duesOf = true := by decide +kernel
set_option maxRecDepth 100000 in
theorem ok_mm_duesOf : ai_okM mm_duesOf := ⟨kc_mm_duesOf, ⟨1298, rfl⟩, by decide +kernel, rfl⟩
theorem kc_mm_net : ai_okC mm_net = true := by decide +kernel
set_option maxRecDepth 100000 in
theorem ok_mm_net : ai_okM mm_net := ⟨kc_mm_net, ⟨1290, rfl⟩, by decide +kernel, rfl⟩
