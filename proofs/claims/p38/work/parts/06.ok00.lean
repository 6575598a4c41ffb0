theorem kc_mthg_init : ai_okC mthg_init = true := by decide +kernel
set_option maxRecDepth 100000 in
theorem ok_mthg_init : ai_okM mthg_init := ⟨kc_mthg_init, ⟨109, rfl⟩, by decide +kernel, rfl⟩
theorem kc_mlift_init : ai_okC mlift_init = true := by decide +kernel
set_option maxRecDepth 100000 in
theorem ok_mlift_init : ai_okM mlift_init := ⟨kc_mlift_init, ⟨142, rfl⟩, by decide +kernel, rfl⟩
theorem kc_mf_within : ai_okC mf_within = true := by decide +kernel
set_option maxRecDepth 100000 in
theorem ok_mf_within : ai_okM mf_within := ⟨kc_mf_within, ⟨171, rfl⟩, by decide +kernel, rfl⟩
theorem kc_marr_fill : ai_okC marr_fill = true := by decide +kernel
set_option maxRecDepth 100000 in
theorem ok_marr_fill : ai_okM marr_fill := ⟨kc_marr_fill, ⟨179, rfl⟩, by decide +kernel, rfl⟩
theorem kc_msea_startAnew : ai_okC msea_startAnew = true := by decide +kernel
set_option maxRecDepth 100000 in
theorem ok_msea_startAnew : ai_okM msea_startAnew := ⟨kc_msea_startAnew, ⟨168, rfl⟩, by decide +kernel, rfl⟩
theorem kc_msea_init : ai_okC msea_init = true := by decide +kernel
set_option maxRecDepth 100000 in
theorem ok_msea_init : ai_okM msea_init := ⟨kc_msea_init, ⟨103, rfl⟩, by decide +kernel, rfl⟩
theorem kc_mtxt_init : ai_okC mtxt_init = true := by decide +kernel
set_option maxRecDepth 100000 in
theorem ok_mtxt_init : ai_okM mtxt_init := ⟨kc_mtxt_init, ⟨252, rfl⟩, by decide +kernel, rfl⟩
theorem kc_mfall_init : ai_okC mfall_init = true := by decide +kernel
set_option maxRecDepth 100000 in
theorem ok_mfall_init : ai_okM mfall_init := ⟨kc_mfall_init, ⟨281, rfl⟩, by decide +kernel, rfl⟩
theorem kc_mspr_init : ai_okC mspr_init = true := by decide +kernel
set_option maxRecDepth 100000 in
theorem ok_mspr_init : ai_okM mspr_init := ⟨kc_mspr_init, ⟨318, rfl⟩, by decide +kernel, rfl⟩
theorem kc_mway_init : ai_okC mway_init = true := by decide +kernel
set_option maxRecDepth 100000 in
theorem ok_mway_init : ai_okM mway_init := ⟨kc_mway_init, ⟨332, rfl⟩, by decide +kernel, rfl⟩
theorem kc_mf_init : ai_okC mf_init = true := by decide +kernel
set_option maxRecDepth 100000 in
theorem ok_mf_init : ai_okM mf_init := ⟨kc_mf_init, ⟨95, rfl⟩, by decide +kernel, rfl⟩
theorem kc_mm_begins : ai_okC mm_begins = true := by decide +kernel
set_option maxRecDepth 100000 in
theorem ok_mm_begins : ai_okM mm_begins := ⟨kc_mm_begins, ⟨939, rfl⟩, by decide +kernel, rfl⟩
theorem kc_mm_init : ai_okC mm_init = true := by decide +kernel
set_option maxRecDepth 100000 in
theorem ok_mm_init : ai_okM mm_init := ⟨kc_mm_init, ⟨934, rfl⟩, by decide +kernel, rfl⟩
theorem kc_mf_counted : ai_okC mf_counted = true := by decide +kernel
set_option maxRecDepth 100000 in
theorem ok_mf_counted : ai_okM mf_counted := ⟨kc_mf_counted, ⟨392, rfl⟩, by decide +kernel, rfl⟩
theorem kc_mf_sea : ai_okC mf_sea = true := by decide +kernel
set_option maxRecDepth 100000 in
theorem ok_mf_sea : ai_okM mf_sea := ⟨kc_mf_sea, ⟨387, rfl⟩, by decide +kernel, rfl⟩
theorem kc_mm_in : ai_okC mm_in = true := by decide +kernel
set_option maxRecDepth 100000 in
theorem ok_mm_in : ai_okM mm_in := ⟨kc_mm_in, ⟨1036, rfl⟩, by decide +kernel, rfl⟩
theorem kc_mm_seaTo : ai_okC mm_seaTo = true := by decide +kernel
set_option maxRecDepth 100000 in
theorem ok_mm_seaTo : ai_okM mm_seaTo := ⟨kc_mm_seaTo, ⟨1032, rfl⟩, by decide +kernel, rfl⟩
theorem kc_mm_met : ai_okC mm_met = true := by decide +kernel
set_option maxRecDepth 100000 in
theorem ok_mm_met : ai_okM mm_met := ⟨kc_mm_met, ⟨1040, rfl⟩, by decide +kernel, rfl⟩
theorem kc_mm_sea : ai_okC mm_sea = true := by decide +kernel
set_option maxRecDepth 100000 in
theorem ok_mm_sea : ai_okM mm_sea := ⟨kc_mm_sea, ⟨1028, rfl⟩, by decide +kernel, rfl⟩
theorem kc_mf_isLayer : ai_okC mf_isLayer = true := by decide +kernel
set_option maxRecDepth 100000 in
theorem ok_mf_isLayer : ai_okM mf_isLayer := ⟨kc_mf_isLayer, ⟨403, rfl⟩, by decide +kernel, rfl⟩
theorem kc_msea_putDensity : ai_okC msea_putDensity = true := by decide +kernel
set_option maxRecDepth 100000 in
theorem ok_msea_putDensity : ai_okM msea_putDensity := ⟨kc_msea_putDensity, ⟨400, rfl⟩, by decide +kernel, rfl⟩
theorem kc_mf_water : ai_okC mf_water = true := by decide +kernel
set_option maxRecDepth 100000 in
theorem ok_mf_water : ai_okM mf_water := ⟨kc_mf_water, ⟨396, rfl⟩, by decide +kernel, rfl⟩
theorem kc_mm_isLayer : ai_okC mm_isLayer = true := by decide +kernel
set_option maxRecDepth 100000 in
theorem ok_mm_isLayer : ai_okM mm_isLayer := ⟨kc_mm_isLayer, ⟨1051, rfl⟩, by decide +kernel, rfl⟩
theorem kc_mm_becomes : ai_okC mm_becomes = true := by decide +kernel
set_option maxRecDepth 100000 in
theorem ok_mm_becomes : ai_okM mm_becomes := ⟨kc_mm_becomes, ⟨1057, rfl⟩, by decide +kernel, rfl⟩
theorem kc_mm_waterTo : ai_okC mm_waterTo = true := by decide +kernel
set_option maxRecDepth 100000 in
theorem ok_mm_waterTo : ai_okM mm_waterTo := ⟨kc_mm_waterTo, ⟨1048, rfl⟩, by decide +kernel, rfl⟩
theorem kc_mm_water : ai_okC mm_water = true := by decide +kernel
set_option maxRecDepth 100000 in
theorem ok_mm_water : ai_okM mm_water := ⟨kc_mm_water, ⟨1044, rfl⟩, by decide +kernel, rfl⟩
theorem kc_msea_hasCell : ai_okC msea_hasCell = true := by decide +kernel
set_option maxRecDepth 100000 in
theorem ok_msea_hasCell : ai_okM msea_hasCell := ⟨kc_msea_hasCell, ⟨416, rfl⟩, by decide +kernel, rfl⟩
theorem kc_msea_putThick : ai_okC msea_putThick = true := by decide +kernel
set_option maxRecDepth 100000 in
theorem ok_msea_putThick : ai_okM msea_putThick := ⟨kc_msea_putThick, ⟨412, rfl⟩, by decide +kernel, rfl⟩
theorem kc_mf_thick : ai_okC mf_thick = true := by decide +kernel
set_option maxRecDepth 100000 in
theorem ok_mf_thick : ai_okM mf_thick := ⟨kc_mf_thick, ⟨408, rfl⟩, by decide +kernel, rfl⟩
theorem kc_mm_isCellOf : ai_okC mm_isCellOf = true := by decide +kernel
set_option maxRecDepth 100000 in
theorem ok_mm_isCellOf : ai_okM mm_isCellOf := ⟨kc_mm_isCellOf, ⟨1069, rfl⟩, by decide +kernel, rfl⟩
theorem kc_mm_thickTo : ai_okC mm_thickTo = true := by decide +kernel
set_option maxRecDepth 100000 in
theorem ok_mm_thickTo : ai_okM mm_thickTo := ⟨kc_mm_thickTo, ⟨1065, rfl⟩, by decide +kernel, rfl⟩
theorem kc_mm_thick : ai_okC mm_thick = true := by decide +kernel
set_option maxRecDepth 100000 in
theorem ok_mm_thick : ai_okM mm_thick := ⟨kc_mm_thick, ⟨1061, rfl⟩, by decide +kernel, rfl⟩
theorem kc_msea_putSkin : ai_okC msea_putSkin = true := by decide +kernel
set_option maxRecDepth 100000 in
theorem ok_msea_putSkin : ai_okM msea_putSkin := ⟨kc_msea_putSkin, ⟨424, rfl⟩, by decide +kernel, rfl⟩
theorem kc_mf_skin : ai_okC mf_skin = true := by decide +kernel
set_option maxRecDepth 100000 in
theorem ok_mf_skin : ai_okM mf_skin := ⟨kc_mf_skin, ⟨420, rfl⟩, by decide +kernel, rfl⟩
theorem kc_mm_skinTo : ai_okC mm_skinTo = true := by decide +kernel
set_option maxRecDepth 100000 in
theorem ok_mm_skinTo : ai_okM mm_skinTo := ⟨kc_mm_skinTo, ⟨1078, rfl⟩, by decide +kernel, rfl⟩
theorem kc_mm_skin : ai_okC mm_skin = true := by decide +kernel
set_option maxRecDepth 100000 in
theorem ok_mm_skin : ai_okM mm_skin := ⟨kc_mm_skin, ⟨1074, rfl⟩, by decide +kernel, rfl⟩
theorem kc_mf_bad : ai_okC mf_bad = true := by decide +kernel
set_option maxRecDepth 100000 in
theorem ok_mf_bad : ai_okM mf_bad := ⟨kc_mf_bad, ⟨433, rfl⟩, by decide +kernel, rfl⟩
theorem kc_mf_tide : ai_okC mf_tide = true := by decide +kernel
set_option maxRecDepth 100000 in
theorem ok_mf_tide : ai_okM mf_tide := ⟨kc_mf_tide, ⟨428, rfl⟩, by decide +kernel, rfl⟩
theorem kc_mm_badAs : ai_okC mm_badAs = true := by decide +kernel
set_option maxRecDepth 100000 in
theorem ok_mm_badAs : ai_okM mm_badAs := ⟨kc_mm_badAs, ⟨1089, rfl⟩, by decide +kernel, rfl⟩
theorem kc_mm_tide : ai_okC mm_tide = true := by decide +kernel
set_option maxRecDepth 100000 in
theorem ok_mm_tide : ai_okM mm_tide := ⟨kc_mm_tide, ⟨1083, rfl⟩, by decide +kernel, rfl⟩
theorem kc_mf_current : ai_okC mf_current = true := by decide +kernel
set_option maxRecDepth 100000 in
theorem ok_mf_current : ai_okM mf_current := ⟨kc_mf_current, ⟨437, rfl⟩, by decide +kernel, rfl⟩
theorem kc_mm_current : ai_okC mm_current = true := by decide +kernel
set_option maxRecDepth 100000 in
theorem ok_mm_current : ai_okM mm_current := ⟨kc_mm_current, ⟨1093, rfl⟩, by decide +kernel, rfl⟩
theorem kc_mthg_add : ai_okC mthg_add = true := by decide +kernel
set_option maxRecDepth 100000 in
theorem ok_mthg_add : ai_okM mthg_add := ⟨kc_mthg_add, ⟨445, rfl⟩, by decide +kernel, rfl⟩
theorem kc_mf_thing : ai_okC mf_thing = true := by decide +kernel
set_option maxRecDepth 100000 in
theorem ok_mf_thing : ai_okM mf_thing := ⟨kc_mf_thing, ⟨441, rfl⟩, by decide +kernel, rfl⟩
theorem kc_mm_thingTo : ai_okC mm_thingTo = true := by decide +kernel
set_option maxRecDepth 100000 in
theorem ok_mm_thingTo : ai_okM mm_thingTo := ⟨kc_mm_thingTo, ⟨1102, rfl⟩, by decide +kernel, rfl⟩
theorem kc_mm_thing : ai_okC mm_thing = true := by decide +kernel
set_option maxRecDepth 100000 in
theorem ok_mm_thing : ai_okM mm_thing := ⟨kc_mm_thing, ⟨1098, rfl⟩, by decide +kernel, rfl⟩
theorem kc_mthg_has : ai_okC mthg_has = true := by decide +kernel
set_option maxRecDepth 100000 in
theorem ok_mthg_has : ai_okM mthg_has := ⟨kc_mthg_has, ⟨454, rfl⟩, by decide +kernel, rfl⟩
theorem kc_mf_ballast : ai_okC mf_ballast = true := by decide +kernel
set_option maxRecDepth 100000 in
theorem ok_mf_ballast : ai_okM mf_ballast := ⟨kc_mf_ballast, ⟨450, rfl⟩, by decide +kernel, rfl⟩
theorem kc_mm_isThing : ai_okC mm_isThing = true := by decide +kernel
set_option maxRecDepth 100000 in
theorem ok_mm_isThing : ai_okM mm_isThing := ⟨kc_mm_isThing, ⟨1110, rfl⟩, by decide +kernel, rfl⟩
theorem kc_mm_bad : ai_okC mm_bad = true := by decide +kernel
set_option maxRecDepth 100000 in
theorem ok_mm_bad : ai_okM mm_bad := ⟨kc_mm_bad, ⟨1114, rfl⟩, by decide +kernel, rfl⟩
