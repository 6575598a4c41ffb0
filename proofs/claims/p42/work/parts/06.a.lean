theorem kc_mthg_init : ai_okC mthg_init = true := fzc_ok mthg_init (by decide +kernel)
theorem kc_mlift_init : ai_okC mlift_init = true := fzc_ok mlift_init (by decide +kernel)
theorem kc_mf_within : ai_okC mf_within = true := fzc_ok mf_within (by decide +kernel)
theorem kc_marr_fill : ai_okC marr_fill = true := fzc_ok marr_fill (by decide +kernel)
theorem kc_msea_startAnew : ai_okC msea_startAnew = true := fzc_ok msea_startAnew (by decide +kernel)
theorem kc_msea_init : ai_okC msea_init = true := fzc_ok msea_init (by decide +kernel)
theorem kc_mtxt_init : ai_okC mtxt_init = true := fzc_ok mtxt_init (by decide +kernel)
theorem kc_mfall_init : ai_okC mfall_init = true := fzc_ok mfall_init (by decide +kernel)
theorem kc_mspr_init : ai_okC mspr_init = true := fzc_ok mspr_init (by decide +kernel)
theorem kc_mway_init : ai_okC mway_init = true := fzc_ok mway_init (by decide +kernel)
theorem kc_mf_init : ai_okC mf_init = true := fzc_ok mf_init (by decide +kernel)
theorem kc_mm_begins : ai_okC mm_begins = true := fzc_ok mm_begins (by decide +kernel)
theorem kc_mm_init : ai_okC mm_init = true := fzc_ok mm_init (by decide +kernel)
theorem kc_mf_counted : ai_okC mf_counted = true := fzc_ok mf_counted (by decide +kernel)
theorem kc_mf_sea : ai_okC mf_sea = true := fzc_ok mf_sea (by decide +kernel)
theorem kc_mm_in : ai_okC mm_in = true := fzc_ok mm_in (by decide +kernel)
theorem kc_mm_seaTo : ai_okC mm_seaTo = true := fzc_ok mm_seaTo (by decide +kernel)
theorem kc_mm_met : ai_okC mm_met = true := fzc_ok mm_met (by decide +kernel)
theorem kc_mm_sea : ai_okC mm_sea = true := fzc_ok mm_sea (by decide +kernel)
theorem kc_mf_isLayer : ai_okC mf_isLayer = true := fzc_ok mf_isLayer (by decide +kernel)
theorem kc_msea_putDensity : ai_okC msea_putDensity = true := fzc_ok msea_putDensity (by decide +kernel)
theorem kc_mf_water : ai_okC mf_water = true := fzc_ok mf_water (by decide +kernel)
theorem kc_mm_isLayer : ai_okC mm_isLayer = true := fzc_ok mm_isLayer (by decide +kernel)
theorem kc_mm_becomes : ai_okC mm_becomes = true := fzc_ok mm_becomes (by decide +kernel)
theorem kc_mm_waterTo : ai_okC mm_waterTo = true := fzc_ok mm_waterTo (by decide +kernel)
theorem kc_mm_water : ai_okC mm_water = true := fzc_ok mm_water (by decide +kernel)
theorem kc_msea_hasCell : ai_okC msea_hasCell = true := fzc_ok msea_hasCell (by decide +kernel)
theorem kc_msea_putThick : ai_okC msea_putThick = true := fzc_ok msea_putThick (by decide +kernel)
theorem kc_mf_thick : ai_okC mf_thick = true := fzc_ok mf_thick (by decide +kernel)
theorem kc_mm_isCellOf : ai_okC mm_isCellOf = true := fzc_ok mm_isCellOf (by decide +kernel)
theorem kc_mm_thickTo : ai_okC mm_thickTo = true := fzc_ok mm_thickTo (by decide +kernel)
theorem kc_mm_thick : ai_okC mm_thick = true := fzc_ok mm_thick (by decide +kernel)
theorem kc_msea_putSkin : ai_okC msea_putSkin = true := fzc_ok msea_putSkin (by decide +kernel)
theorem kc_mf_skin : ai_okC mf_skin = true := fzc_ok mf_skin (by decide +kernel)
theorem kc_mm_skinTo : ai_okC mm_skinTo = true := fzc_ok mm_skinTo (by decide +kernel)
theorem kc_mm_skin : ai_okC mm_skin = true := fzc_ok mm_skin (by decide +kernel)
theorem kc_mf_bad : ai_okC mf_bad = true := fzc_ok mf_bad (by decide +kernel)
theorem kc_mf_tide : ai_okC mf_tide = true := fzc_ok mf_tide (by decide +kernel)
theorem kc_mm_badAs : ai_okC mm_badAs = true := fzc_ok mm_badAs (by decide +kernel)
theorem kc_mm_tide : ai_okC mm_tide = true := fzc_ok mm_tide (by decide +kernel)
theorem kc_mf_current : ai_okC mf_current = true := fzc_ok mf_current (by decide +kernel)
theorem kc_mm_current : ai_okC mm_current = true := fzc_ok mm_current (by decide +kernel)
theorem kc_mthg_add : ai_okC mthg_add = true := fzc_ok mthg_add (by decide +kernel)
theorem kc_mf_thing : ai_okC mf_thing = true := fzc_ok mf_thing (by decide +kernel)
theorem kc_mm_thingTo : ai_okC mm_thingTo = true := fzc_ok mm_thingTo (by decide +kernel)
theorem kc_mm_thing : ai_okC mm_thing = true := fzc_ok mm_thing (by decide +kernel)
theorem kc_mthg_has : ai_okC mthg_has = true := fzc_ok mthg_has (by decide +kernel)
theorem kc_mf_ballast : ai_okC mf_ballast = true := fzc_ok mf_ballast (by decide +kernel)
theorem kc_mm_isThing : ai_okC mm_isThing = true := fzc_ok mm_isThing (by decide +kernel)
theorem kc_mm_bad : ai_okC mm_bad = true := fzc_ok mm_bad (by decide +kernel)
set_option maxRecDepth 100000 in
theorem okt_00 : lk 109 = some (Jvm.Cond.code (ai_y mthg_init) (ai_cc mthg_init) (ai_mL mthg_init) (ai_rt mthg_init)) ∧ lk 142 = some (Jvm.Cond.code (ai_y mlift_init) (ai_cc mlift_init) (ai_mL mlift_init) (ai_rt mlift_init)) ∧ lk 171 = some (Jvm.Cond.code (ai_y mf_within) (ai_cc mf_within) (ai_mL mf_within) (ai_rt mf_within)) ∧ lk 179 = some (Jvm.Cond.code (ai_y marr_fill) (ai_cc marr_fill) (ai_mL marr_fill) (ai_rt marr_fill)) ∧ lk 168 = some (Jvm.Cond.code (ai_y msea_startAnew) (ai_cc msea_startAnew) (ai_mL msea_startAnew) (ai_rt msea_startAnew)) ∧ lk 103 = some (Jvm.Cond.code (ai_y msea_init) (ai_cc msea_init) (ai_mL msea_init) (ai_rt msea_init)) ∧ lk 252 = some (Jvm.Cond.code (ai_y mtxt_init) (ai_cc mtxt_init) (ai_mL mtxt_init) (ai_rt mtxt_init)) ∧ lk 281 = some (Jvm.Cond.code (ai_y mfall_init) (ai_cc mfall_init) (ai_mL mfall_init) (ai_rt mfall_init)) ∧ lk 318 = some (Jvm.Cond.code (ai_y mspr_init) (ai_cc mspr_init) (ai_mL mspr_init) (ai_rt mspr_init)) ∧ lk 332 = some (Jvm.Cond.code (ai_y mway_init) (ai_cc mway_init) (ai_mL mway_init) (ai_rt mway_init)) ∧ lk 95 = some (Jvm.Cond.code (ai_y mf_init) (ai_cc mf_init) (ai_mL mf_init) (ai_rt mf_init)) ∧ lk 939 = some (Jvm.Cond.code (ai_y mm_begins) (ai_cc mm_begins) (ai_mL mm_begins) (ai_rt mm_begins)) ∧ lk 934 = some (Jvm.Cond.code (ai_y mm_init) (ai_cc mm_init) (ai_mL mm_init) (ai_rt mm_init)) ∧ lk 392 = some (Jvm.Cond.code (ai_y mf_counted) (ai_cc mf_counted) (ai_mL mf_counted) (ai_rt mf_counted)) ∧ lk 387 = some (Jvm.Cond.code (ai_y mf_sea) (ai_cc mf_sea) (ai_mL mf_sea) (ai_rt mf_sea)) ∧ lk 1036 = some (Jvm.Cond.code (ai_y mm_in) (ai_cc mm_in) (ai_mL mm_in) (ai_rt mm_in)) ∧ lk 1032 = some (Jvm.Cond.code (ai_y mm_seaTo) (ai_cc mm_seaTo) (ai_mL mm_seaTo) (ai_rt mm_seaTo)) ∧ lk 1040 = some (Jvm.Cond.code (ai_y mm_met) (ai_cc mm_met) (ai_mL mm_met) (ai_rt mm_met)) ∧ lk 1028 = some (Jvm.Cond.code (ai_y mm_sea) (ai_cc mm_sea) (ai_mL mm_sea) (ai_rt mm_sea)) ∧ lk 403 = some (Jvm.Cond.code (ai_y mf_isLayer) (ai_cc mf_isLayer) (ai_mL mf_isLayer) (ai_rt mf_isLayer)) ∧ lk 400 = some (Jvm.Cond.code (ai_y msea_putDensity) (ai_cc msea_putDensity) (ai_mL msea_putDensity) (ai_rt msea_putDensity)) ∧ lk 396 = some (Jvm.Cond.code (ai_y mf_water) (ai_cc mf_water) (ai_mL mf_water) (ai_rt mf_water)) ∧ lk 1051 = some (Jvm.Cond.code (ai_y mm_isLayer) (ai_cc mm_isLayer) (ai_mL mm_isLayer) (ai_rt mm_isLayer)) ∧ lk 1057 = some (Jvm.Cond.code (ai_y mm_becomes) (ai_cc mm_becomes) (ai_mL mm_becomes) (ai_rt mm_becomes)) ∧ lk 1048 = some (Jvm.Cond.code (ai_y mm_waterTo) (ai_cc mm_waterTo) (ai_mL mm_waterTo) (ai_rt mm_waterTo)) ∧ lk 1044 = some (Jvm.Cond.code (ai_y mm_water) (ai_cc mm_water) (ai_mL mm_water) (ai_rt mm_water)) ∧ lk 416 = some (Jvm.Cond.code (ai_y msea_hasCell) (ai_cc msea_hasCell) (ai_mL msea_hasCell) (ai_rt msea_hasCell)) ∧ lk 412 = some (Jvm.Cond.code (ai_y msea_putThick) (ai_cc msea_putThick) (ai_mL msea_putThick) (ai_rt msea_putThick)) ∧ lk 408 = some (Jvm.Cond.code (ai_y mf_thick) (ai_cc mf_thick) (ai_mL mf_thick) (ai_rt mf_thick)) ∧ lk 1069 = some (Jvm.Cond.code (ai_y mm_isCellOf) (ai_cc mm_isCellOf) (ai_mL mm_isCellOf) (ai_rt mm_isCellOf)) ∧ lk 1065 = some (Jvm.Cond.code (ai_y mm_thickTo) (ai_cc mm_thickTo) (ai_mL mm_thickTo) (ai_rt mm_thickTo)) ∧ lk 1061 = some (Jvm.Cond.code (ai_y mm_thick) (ai_cc mm_thick) (ai_mL mm_thick) (ai_rt mm_thick)) ∧ lk 424 = some (Jvm.Cond.code (ai_y msea_putSkin) (ai_cc msea_putSkin) (ai_mL msea_putSkin) (ai_rt msea_putSkin)) ∧ lk 420 = some (Jvm.Cond.code (ai_y mf_skin) (ai_cc mf_skin) (ai_mL mf_skin) (ai_rt mf_skin)) ∧ lk 1078 = some (Jvm.Cond.code (ai_y mm_skinTo) (ai_cc mm_skinTo) (ai_mL mm_skinTo) (ai_rt mm_skinTo)) ∧ lk 1074 = some (Jvm.Cond.code (ai_y mm_skin) (ai_cc mm_skin) (ai_mL mm_skin) (ai_rt mm_skin)) ∧ lk 433 = some (Jvm.Cond.code (ai_y mf_bad) (ai_cc mf_bad) (ai_mL mf_bad) (ai_rt mf_bad)) ∧ lk 428 = some (Jvm.Cond.code (ai_y mf_tide) (ai_cc mf_tide) (ai_mL mf_tide) (ai_rt mf_tide)) ∧ lk 1089 = some (Jvm.Cond.code (ai_y mm_badAs) (ai_cc mm_badAs) (ai_mL mm_badAs) (ai_rt mm_badAs)) ∧ lk 1083 = some (Jvm.Cond.code (ai_y mm_tide) (ai_cc mm_tide) (ai_mL mm_tide) (ai_rt mm_tide)) ∧ lk 437 = some (Jvm.Cond.code (ai_y mf_current) (ai_cc mf_current) (ai_mL mf_current) (ai_rt mf_current)) ∧ lk 1093 = some (Jvm.Cond.code (ai_y mm_current) (ai_cc mm_current) (ai_mL mm_current) (ai_rt mm_current)) ∧ lk 445 = some (Jvm.Cond.code (ai_y mthg_add) (ai_cc mthg_add) (ai_mL mthg_add) (ai_rt mthg_add)) ∧ lk 441 = some (Jvm.Cond.code (ai_y mf_thing) (ai_cc mf_thing) (ai_mL mf_thing) (ai_rt mf_thing)) ∧ lk 1102 = some (Jvm.Cond.code (ai_y mm_thingTo) (ai_cc mm_thingTo) (ai_mL mm_thingTo) (ai_rt mm_thingTo)) ∧ lk 1098 = some (Jvm.Cond.code (ai_y mm_thing) (ai_cc mm_thing) (ai_mL mm_thing) (ai_rt mm_thing)) ∧ lk 454 = some (Jvm.Cond.code (ai_y mthg_has) (ai_cc mthg_has) (ai_mL mthg_has) (ai_rt mthg_has)) ∧ lk 450 = some (Jvm.Cond.code (ai_y mf_ballast) (ai_cc mf_ballast) (ai_mL mf_ballast) (ai_rt mf_ballast)) ∧ lk 1110 = some (Jvm.Cond.code (ai_y mm_isThing) (ai_cc mm_isThing) (ai_mL mm_isThing) (ai_rt mm_isThing)) ∧ lk 1114 = some (Jvm.Cond.code (ai_y mm_bad) (ai_cc mm_bad) (ai_mL mm_bad) (ai_rt mm_bad)) := ⟨rfl, rfl, rfl, rfl, rfl, rfl, rfl, rfl, rfl, rfl, rfl, rfl, rfl, rfl, rfl, rfl, rfl, rfl, rfl, rfl, rfl, rfl, rfl, rfl, rfl, rfl, rfl, rfl, rfl, rfl, rfl, rfl, rfl, rfl, rfl, rfl, rfl, rfl, rfl, rfl, rfl, rfl, rfl, rfl, rfl, rfl, rfl, rfl, rfl, rfl⟩
theorem ok_mthg_init : ai_okM mthg_init := ⟨kc_mthg_init, ⟨109, (lk_eq 109).symm.trans okt_00.1⟩, by decide +kernel, rfl⟩
theorem ok_mlift_init : ai_okM mlift_init := ⟨kc_mlift_init, ⟨142, (lk_eq 142).symm.trans okt_00.2.1⟩, by decide +kernel, rfl⟩
theorem ok_mf_within : ai_okM mf_within := ⟨kc_mf_within, ⟨171, (lk_eq 171).symm.trans okt_00.2.2.1⟩, by decide +kernel, rfl⟩
theorem ok_marr_fill : ai_okM marr_fill := ⟨kc_marr_fill, ⟨179, (lk_eq 179).symm.trans okt_00.2.2.2.1⟩, by decide +kernel, rfl⟩
theorem ok_msea_startAnew : ai_okM msea_startAnew := ⟨kc_msea_startAnew, ⟨168, (lk_eq 168).symm.trans okt_00.2.2.2.2.1⟩, by decide +kernel, rfl⟩
theorem ok_msea_init : ai_okM msea_init := ⟨kc_msea_init, ⟨103, (lk_eq 103).symm.trans okt_00.2.2.2.2.2.1⟩, by decide +kernel, rfl⟩
theorem ok_mtxt_init : ai_okM mtxt_init := ⟨kc_mtxt_init, ⟨252, (lk_eq 252).symm.trans okt_00.2.2.2.2.2.2.1⟩, by decide +kernel, rfl⟩
theorem ok_mfall_init : ai_okM mfall_init := ⟨kc_mfall_init, ⟨281, (lk_eq 281).symm.trans okt_00.2.2.2.2.2.2.2.1⟩, by decide +kernel, rfl⟩
theorem ok_mspr_init : ai_okM mspr_init := ⟨kc_mspr_init, ⟨318, (lk_eq 318).symm.trans okt_00.2.2.2.2.2.2.2.2.1⟩, by decide +kernel, rfl⟩
theorem ok_mway_init : ai_okM mway_init := ⟨kc_mway_init, ⟨332, (lk_eq 332).symm.trans okt_00.2.2.2.2.2.2.2.2.2.1⟩, by decide +kernel, rfl⟩
theorem ok_mf_init : ai_okM mf_init := ⟨kc_mf_init, ⟨95, (lk_eq 95).symm.trans okt_00.2.2.2.2.2.2.2.2.2.2.1⟩, by decide +kernel, rfl⟩
theorem ok_mm_begins : ai_okM mm_begins := ⟨kc_mm_begins, ⟨939, (lk_eq 939).symm.trans okt_00.2.2.2.2.2.2.2.2.2.2.2.1⟩, by decide +kernel, rfl⟩
theorem ok_mm_init : ai_okM mm_init := ⟨kc_mm_init, ⟨934, (lk_eq 934).symm.trans okt_00.2.2.2.2.2.2.2.2.2.2.2.2.1⟩, by decide +kernel, rfl⟩
theorem ok_mf_counted : ai_okM mf_counted := ⟨kc_mf_counted, ⟨392, (lk_eq 392).symm.trans okt_00.2.2.2.2.2.2.2.2.2.2.2.2.2.1⟩, by decide +kernel, rfl⟩
theorem ok_mf_sea : ai_okM mf_sea := ⟨kc_mf_sea, ⟨387, (lk_eq 387).symm.trans okt_00.2.2.2.2.2.2.2.2.2.2.2.2.2.2.1⟩, by decide +kernel, rfl⟩
theorem ok_mm_in : ai_okM mm_in := ⟨kc_mm_in, ⟨1036, (lk_eq 1036).symm.trans okt_00.2.2.2.2.2.2.2.2.2.2.2.2.2.2.2.1⟩, by decide +kernel, rfl⟩
theorem ok_mm_seaTo : ai_okM mm_seaTo := ⟨kc_mm_seaTo, ⟨1032, (lk_eq 1032).symm.trans okt_00.2.2.2.2.2.2.2.2.2.2.2.2.2.2.2.2.1⟩, by decide +kernel, rfl⟩
theorem ok_mm_met : ai_okM mm_met := ⟨kc_mm_met, ⟨1040, (lk_eq 1040).symm.trans okt_00.2.2.2.2.2.2.2.2.2.2.2.2.2.2.2.2.2.1⟩, by decide +kernel, rfl⟩
theorem ok_mm_sea : ai_okM mm_sea := ⟨kc_mm_sea, ⟨1028, (lk_eq 1028).symm.trans okt_00.2.2.2.2.2.2.2.2.2.2.2.2.2.2.2.2.2.2.1⟩, by decide +kernel, rfl⟩
theorem ok_mf_isLayer : ai_okM mf_isLayer := ⟨kc_mf_isLayer, ⟨403, (lk_eq 403).symm.trans okt_00.2.2.2.2.2.2.2.2.2.2.2.2.2.2.2.2.2.2.2.1⟩, by decide +kernel, rfl⟩
theorem ok_msea_putDensity : ai_okM msea_putDensity := ⟨kc_msea_putDensity, ⟨400, (lk_eq 400).symm.trans okt_00.2.2.2.2.2.2.2.2.2.2.2.2.2.2.2.2.2.2.2.2.1⟩, by decide +kernel, rfl⟩
theorem ok_mf_water : ai_okM mf_water := ⟨kc_mf_water, ⟨396, (lk_eq 396).symm.trans okt_00.2.2.2.2.2.2.2.2.2.2.2.2.2.2.2.2.2.2.2.2.2.1⟩, by decide +kernel, rfl⟩
theorem ok_mm_isLayer : ai_okM mm_isLayer := ⟨kc_mm_isLayer, ⟨1051, (lk_eq 1051).symm.trans okt_00.2.2.2.2.2.2.2.2.2.2.2.2.2.2.2.2.2.2.2.2.2.2.1⟩, by decide +kernel, rfl⟩
theorem ok_mm_becomes : ai_okM mm_becomes := ⟨kc_mm_becomes, ⟨1057, (lk_eq 1057).symm.trans okt_00.2.2.2.2.2.2.2.2.2.2.2.2.2.2.2.2.2.2.2.2.2.2.2.1⟩, by decide +kernel, rfl⟩
theorem ok_mm_waterTo : ai_okM mm_waterTo := ⟨kc_mm_waterTo, ⟨1048, (lk_eq 1048).symm.trans okt_00.2.2.2.2.2.2.2.2.2.2.2.2.2.2.2.2.2.2.2.2.2.2.2.2.1⟩, by decide +kernel, rfl⟩
theorem ok_mm_water : ai_okM mm_water := ⟨kc_mm_water, ⟨1044, (lk_eq 1044).symm.trans okt_00.2.2.2.2.2.2.2.2.2.2.2.2.2.2.2.2.2.2.2.2.2.2.2.2.2.1⟩, by decide +kernel, rfl⟩
theorem ok_msea_hasCell : ai_okM msea_hasCell := ⟨kc_msea_hasCell, ⟨416, (lk_eq 416).symm.trans okt_00.2.2.2.2.2.2.2.2.2.2.2.2.2.2.2.2.2.2.2.2.2.2.2.2.2.2.1⟩, by decide +kernel, rfl⟩
theorem ok_msea_putThick : ai_okM msea_putThick := ⟨kc_msea_putThick, ⟨412, (lk_eq 412).symm.trans okt_00.2.2.2.2.2.2.2.2.2.2.2.2.2.2.2.2.2.2.2.2.2.2.2.2.2.2.2.1⟩, by decide +kernel, rfl⟩
theorem ok_mf_thick : ai_okM mf_thick := ⟨kc_mf_thick, ⟨408, (lk_eq 408).symm.trans okt_00.2.2.2.2.2.2.2.2.2.2.2.2.2.2.2.2.2.2.2.2.2.2.2.2.2.2.2.2.1⟩, by decide +kernel, rfl⟩
theorem ok_mm_isCellOf : ai_okM mm_isCellOf := ⟨kc_mm_isCellOf, ⟨1069, (lk_eq 1069).symm.trans okt_00.2.2.2.2.2.2.2.2.2.2.2.2.2.2.2.2.2.2.2.2.2.2.2.2.2.2.2.2.2.1⟩, by decide +kernel, rfl⟩
theorem ok_mm_thickTo : ai_okM mm_thickTo := ⟨kc_mm_thickTo, ⟨1065, (lk_eq 1065).symm.trans okt_00.2.2.2.2.2.2.2.2.2.2.2.2.2.2.2.2.2.2.2.2.2.2.2.2.2.2.2.2.2.2.1⟩, by decide +kernel, rfl⟩
theorem ok_mm_thick : ai_okM mm_thick := ⟨kc_mm_thick, ⟨1061, (lk_eq 1061).symm.trans okt_00.2.2.2.2.2.2.2.2.2.2.2.2.2.2.2.2.2.2.2.2.2.2.2.2.2.2.2.2.2.2.2.1⟩, by decide +kernel, rfl⟩
theorem ok_msea_putSkin : ai_okM msea_putSkin := ⟨kc_msea_putSkin, ⟨424, (lk_eq 424).symm.trans okt_00.2.2.2.2.2.2.2.2.2.2.2.2.2.2.2.2.2.2.2.2.2.2.2.2.2.2.2.2.2.2.2.2.1⟩, by decide +kernel, rfl⟩
theorem ok_mf_skin : ai_okM mf_skin := ⟨kc_mf_skin, ⟨420, (lk_eq 420).symm.trans okt_00.2.2.2.2.2.2.2.2.2.2.2.2.2.2.2.2.2.2.2.2.2.2.2.2.2.2.2.2.2.2.2.2.2.1⟩, by decide +kernel, rfl⟩
theorem ok_mm_skinTo : ai_okM mm_skinTo := ⟨kc_mm_skinTo, ⟨1078, (lk_eq 1078).symm.trans okt_00.2.2.2.2.2.2.2.2.2.2.2.2.2.2.2.2.2.2.2.2.2.2.2.2.2.2.2.2.2.2.2.2.2.2.1⟩, by decide +kernel, rfl⟩
theorem ok_mm_skin : ai_okM mm_skin := ⟨kc_mm_skin, ⟨1074, (lk_eq 1074).symm.trans okt_00.2.2.2.2.2.2.2.2.2.2.2.2.2.2.2.2.2.2.2.2.2.2.2.2.2.2.2.2.2.2.2.2.2.2.2.1⟩, by decide +kernel, rfl⟩
theorem ok_mf_bad : ai_okM mf_bad := ⟨kc_mf_bad, ⟨433, (lk_eq 433).symm.trans okt_00.2.2.2.2.2.2.2.2.2.2.2.2.2.2.2.2.2.2.2.2.2.2.2.2.2.2.2.2.2.2.2.2.2.2.2.2.1⟩, by decide +kernel, rfl⟩
theorem ok_mf_tide : ai_okM mf_tide := ⟨kc_mf_tide, ⟨428, (lk_eq 428).symm.trans okt_00.2.2.2.2.2.2.2.2.2.2.2.2.2.2.2.2.2.2.2.2.2.2.2.2.2.2.2.2.2.2.2.2.2.2.2.2.2.1⟩, by decide +kernel, rfl⟩
theorem ok_mm_badAs : ai_okM mm_badAs := ⟨kc_mm_badAs, ⟨1089, (lk_eq 1089).symm.trans okt_00.2.2.2.2.2.2.2.2.2.2.2.2.2.2.2.2.2.2.2.2.2.2.2.2.2.2.2.2.2.2.2.2.2.2.2.2.2.2.1⟩, by decide +kernel, rfl⟩
theorem ok_mm_tide : ai_okM mm_tide := ⟨kc_mm_tide, ⟨1083, (lk_eq 1083).symm.trans okt_00.2.2.2.2.2.2.2.2.2.2.2.2.2.2.2.2.2.2.2.2.2.2.2.2.2.2.2.2.2.2.2.2.2.2.2.2.2.2.2.1⟩, by decide +kernel, rfl⟩
theorem ok_mf_current : ai_okM mf_current := ⟨kc_mf_current, ⟨437, (lk_eq 437).symm.trans okt_00.2.2.2.2.2.2.2.2.2.2.2.2.2.2.2.2.2.2.2.2.2.2.2.2.2.2.2.2.2.2.2.2.2.2.2.2.2.2.2.2.1⟩, by decide +kernel, rfl⟩
theorem ok_mm_current : ai_okM mm_current := ⟨kc_mm_current, ⟨1093, (lk_eq 1093).symm.trans okt_00.2.2.2.2.2.2.2.2.2.2.2.2.2.2.2.2.2.2.2.2.2.2.2.2.2.2.2.2.2.2.2.2.2.2.2.2.2.2.2.2.2.1⟩, by decide +kernel, rfl⟩
theorem ok_mthg_add : ai_okM mthg_add := ⟨kc_mthg_add, ⟨445, (lk_eq 445).symm.trans okt_00.2.2.2.2.2.2.2.2.2.2.2.2.2.2.2.2.2.2.2.2.2.2.2.2.2.2.2.2.2.2.2.2.2.2.2.2.2.2.2.2.2.2.1⟩, by decide +kernel, rfl⟩
theorem ok_mf_thing : ai_okM mf_thing := ⟨kc_mf_thing, ⟨441, (lk_eq 441).symm.trans okt_00.2.2.2.2.2.2.2.2.2.2.2.2.2.2.2.2.2.2.2.2.2.2.2.2.2.2.2.2.2.2.2.2.2.2.2.2.2.2.2.2.2.2.2.1⟩, by decide +kernel, rfl⟩
theorem ok_mm_thingTo : ai_okM mm_thingTo := ⟨kc_mm_thingTo, ⟨1102, (lk_eq 1102).symm.trans okt_00.2.2.2.2.2.2.2.2.2.2.2.2.2.2.2.2.2.2.2.2.2.2.2.2.2.2.2.2.2.2.2.2.2.2.2.2.2.2.2.2.2.2.2.2.1⟩, by decide +kernel, rfl⟩
theorem ok_mm_thing : ai_okM mm_thing := ⟨kc_mm_thing, ⟨1098, (lk_eq 1098).symm.trans okt_00.2.2.2.2.2.2.2.2.2.2.2.2.2.2.2.2.2.2.2.2.2.2.2.2.2.2.2.2.2.2.2.2.2.2.2.2.2.2.2.2.2.2.2.2.2.1⟩, by decide +kernel, rfl⟩
theorem ok_mthg_has : ai_okM mthg_has := ⟨kc_mthg_has, ⟨454, (lk_eq 454).symm.trans okt_00.2.2.2.2.2.2.2.2.2.2.2.2.2.2.2.2.2.2.2.2.2.2.2.2.2.2.2.2.2.2.2.2.2.2.2.2.2.2.2.2.2.2.2.2.2.2.1⟩, by decide +kernel, rfl⟩
theorem ok_mf_ballast : ai_okM mf_ballast := ⟨kc_mf_ballast, ⟨450, (lk_eq 450).symm.trans okt_00.2.2.2.2.2.2.2.2.2.2.2.2.2.2.2.2.2.2.2.2.2.2.2.2.2.2.2.2.2.2.2.2.2.2.2.2.2.2.2.2.2.2.2.2.2.2.2.1⟩, by decide +kernel, rfl⟩
theorem ok_mm_isThing : ai_okM mm_isThing := ⟨kc_mm_isThing, ⟨1110, (lk_eq 1110).symm.trans okt_00.2.2.2.2.2.2.2.2.2.2.2.2.2.2.2.2.2.2.2.2.2.2.2.2.2.2.2.2.2.2.2.2.2.2.2.2.2.2.2.2.2.2.2.2.2.2.2.2.1⟩, by decide +kernel, rfl⟩
theorem ok_mm_bad : ai_okM mm_bad := ⟨kc_mm_bad, ⟨1114, (lk_eq 1114).symm.trans okt_00.2.2.2.2.2.2.2.2.2.2.2.2.2.2.2.2.2.2.2.2.2.2.2.2.2.2.2.2.2.2.2.2.2.2.2.2.2.2.2.2.2.2.2.2.2.2.2.2.2⟩, by decide +kernel, rfl⟩
theorem kc_mm_ballast : ai_okC mm_ballast = true := fzc_ok mm_ballast (by decide +kernel)
theorem kc_msea_hasPlace : ai_okC msea_hasPlace = true := fzc_ok msea_hasPlace (by decide +kernel)
theorem kc_mlift_add : ai_okC mlift_add = true := fzc_ok mlift_add (by decide +kernel)
theorem kc_msea_addLift : ai_okC msea_addLift = true := fzc_ok msea_addLift (by decide +kernel)
theorem kc_mf_lift : ai_okC mf_lift = true := fzc_ok mf_lift (by decide +kernel)
theorem kc_mm_isPlaceOf : ai_okC mm_isPlaceOf = true := fzc_ok mm_isPlaceOf (by decide +kernel)
theorem kc_mm_liftTo : ai_okC mm_liftTo = true := fzc_ok mm_liftTo (by decide +kernel)
theorem kc_mm_lift : ai_okC mm_lift = true := fzc_ok mm_lift (by decide +kernel)
theorem kc_msea_addTown : ai_okC msea_addTown = true := fzc_ok msea_addTown (by decide +kernel)
theorem kc_mf_town : ai_okC mf_town = true := fzc_ok mf_town (by decide +kernel)
theorem kc_mm_townTo : ai_okC mm_townTo = true := fzc_ok mm_townTo (by decide +kernel)
theorem kc_mm_town : ai_okC mm_town = true := fzc_ok mm_town (by decide +kernel)
theorem kc_msea_putDam : ai_okC msea_putDam = true := fzc_ok msea_putDam (by decide +kernel)
theorem kc_mf_dam : ai_okC mf_dam = true := fzc_ok mf_dam (by decide +kernel)
theorem kc_mm_has : ai_okC mm_has = true := fzc_ok mm_has (by decide +kernel)
theorem kc_mm_damTo : ai_okC mm_damTo = true := fzc_ok mm_damTo (by decide +kernel)
theorem kc_mm_dam : ai_okC mm_dam = true := fzc_ok mm_dam (by decide +kernel)
theorem kc_msea_addDrop : ai_okC msea_addDrop = true := fzc_ok msea_addDrop (by decide +kernel)
theorem kc_mf_drop : ai_okC mf_drop = true := fzc_ok mf_drop (by decide +kernel)
theorem kc_mm_drop : ai_okC mm_drop = true := fzc_ok mm_drop (by decide +kernel)
theorem kc_msea_empty : ai_okC msea_empty = true := fzc_ok msea_empty (by decide +kernel)
theorem kc_mf_clean : ai_okC mf_clean = true := fzc_ok mf_clean (by decide +kernel)
theorem kc_mm_clean : ai_okC mm_clean = true := fzc_ok mm_clean (by decide +kernel)
theorem kc_mtxt_add : ai_okC mtxt_add = true := fzc_ok mtxt_add (by decide +kernel)
theorem kc_mf_type : ai_okC mf_type = true := fzc_ok mf_type (by decide +kernel)
theorem kc_mm_type : ai_okC mm_type = true := fzc_ok mm_type (by decide +kernel)
theorem kc_mf_clear : ai_okC mf_clear = true := fzc_ok mf_clear (by decide +kernel)
theorem kc_mm_clear : ai_okC mm_clear = true := fzc_ok mm_clear (by decide +kernel)
theorem kc_mtxt_skipBlanks : ai_okC mtxt_skipBlanks = true := fzc_ok mtxt_skipBlanks (by decide +kernel)
theorem kc_mtxt_nameOf : ai_okC mtxt_nameOf = true := fzc_ok mtxt_nameOf (by decide +kernel)
theorem kc_mtxt_isWord : ai_okC mtxt_isWord = true := fzc_ok mtxt_isWord (by decide +kernel)
theorem kc_mtxt_takeWord : ai_okC mtxt_takeWord = true := fzc_ok mtxt_takeWord (by decide +kernel)
theorem kc_mtxt_numbersBehind : ai_okC mtxt_numbersBehind = true := fzc_ok mtxt_numbersBehind (by decide +kernel)
theorem kc_mtxt_isFigure : ai_okC mtxt_isFigure = true := fzc_ok mtxt_isFigure (by decide +kernel)
theorem kc_mtxt_takeNumbers : ai_okC mtxt_takeNumbers = true := fzc_ok mtxt_takeNumbers (by decide +kernel)
theorem kc_mtxt_tellItem : ai_okC mtxt_tellItem = true := fzc_ok mtxt_tellItem (by decide +kernel)
theorem kc_mtxt_tell : ai_okC mtxt_tell = true := fzc_ok mtxt_tell (by decide +kernel)
theorem kc_mthg_copyFrom : ai_okC mthg_copyFrom = true := fzc_ok mthg_copyFrom (by decide +kernel)
theorem kc_mlift_copyFrom : ai_okC mlift_copyFrom = true := fzc_ok mlift_copyFrom (by decide +kernel)
theorem kc_msea_copyFrom : ai_okC msea_copyFrom = true := fzc_ok msea_copyFrom (by decide +kernel)
set_option maxRecDepth 100000 in
theorem okt_01 : lk 1106 = some (Jvm.Cond.code (ai_y mm_ballast) (ai_cc mm_ballast) (ai_mL mm_ballast) (ai_rt mm_ballast)) ∧ lk 466 = some (Jvm.Cond.code (ai_y msea_hasPlace) (ai_cc msea_hasPlace) (ai_mL msea_hasPlace) (ai_rt msea_hasPlace)) ∧ lk 470 = some (Jvm.Cond.code (ai_y mlift_add) (ai_cc mlift_add) (ai_mL mlift_add) (ai_rt mlift_add)) ∧ lk 462 = some (Jvm.Cond.code (ai_y msea_addLift) (ai_cc msea_addLift) (ai_mL msea_addLift) (ai_rt msea_addLift)) ∧ lk 458 = some (Jvm.Cond.code (ai_y mf_lift) (ai_cc mf_lift) (ai_mL mf_lift) (ai_rt mf_lift)) ∧ lk 1126 = some (Jvm.Cond.code (ai_y mm_isPlaceOf) (ai_cc mm_isPlaceOf) (ai_mL mm_isPlaceOf) (ai_rt mm_isPlaceOf)) ∧ lk 1122 = some (Jvm.Cond.code (ai_y mm_liftTo) (ai_cc mm_liftTo) (ai_mL mm_liftTo) (ai_rt mm_liftTo)) ∧ lk 1118 = some (Jvm.Cond.code (ai_y mm_lift) (ai_cc mm_lift) (ai_mL mm_lift) (ai_rt mm_lift)) ∧ lk 478 = some (Jvm.Cond.code (ai_y msea_addTown) (ai_cc msea_addTown) (ai_mL msea_addTown) (ai_rt msea_addTown)) ∧ lk 474 = some (Jvm.Cond.code (ai_y mf_town) (ai_cc mf_town) (ai_mL mf_town) (ai_rt mf_town)) ∧ lk 1134 = some (Jvm.Cond.code (ai_y mm_townTo) (ai_cc mm_townTo) (ai_mL mm_townTo) (ai_rt mm_townTo)) ∧ lk 1130 = some (Jvm.Cond.code (ai_y mm_town) (ai_cc mm_town) (ai_mL mm_town) (ai_rt mm_town)) ∧ lk 486 = some (Jvm.Cond.code (ai_y msea_putDam) (ai_cc msea_putDam) (ai_mL msea_putDam) (ai_rt msea_putDam)) ∧ lk 482 = some (Jvm.Cond.code (ai_y mf_dam) (ai_cc mf_dam) (ai_mL mf_dam) (ai_rt mf_dam)) ∧ lk 1145 = some (Jvm.Cond.code (ai_y mm_has) (ai_cc mm_has) (ai_mL mm_has) (ai_rt mm_has)) ∧ lk 1142 = some (Jvm.Cond.code (ai_y mm_damTo) (ai_cc mm_damTo) (ai_mL mm_damTo) (ai_rt mm_damTo)) ∧ lk 1138 = some (Jvm.Cond.code (ai_y mm_dam) (ai_cc mm_dam) (ai_mL mm_dam) (ai_rt mm_dam)) ∧ lk 494 = some (Jvm.Cond.code (ai_y msea_addDrop) (ai_cc msea_addDrop) (ai_mL msea_addDrop) (ai_rt msea_addDrop)) ∧ lk 490 = some (Jvm.Cond.code (ai_y mf_drop) (ai_cc mf_drop) (ai_mL mf_drop) (ai_rt mf_drop)) ∧ lk 1149 = some (Jvm.Cond.code (ai_y mm_drop) (ai_cc mm_drop) (ai_mL mm_drop) (ai_rt mm_drop)) ∧ lk 502 = some (Jvm.Cond.code (ai_y msea_empty) (ai_cc msea_empty) (ai_mL msea_empty) (ai_rt msea_empty)) ∧ lk 498 = some (Jvm.Cond.code (ai_y mf_clean) (ai_cc mf_clean) (ai_mL mf_clean) (ai_rt mf_clean)) ∧ lk 1153 = some (Jvm.Cond.code (ai_y mm_clean) (ai_cc mm_clean) (ai_mL mm_clean) (ai_rt mm_clean)) ∧ lk 510 = some (Jvm.Cond.code (ai_y mtxt_add) (ai_cc mtxt_add) (ai_mL mtxt_add) (ai_rt mtxt_add)) ∧ lk 506 = some (Jvm.Cond.code (ai_y mf_type) (ai_cc mf_type) (ai_mL mf_type) (ai_rt mf_type)) ∧ lk 1157 = some (Jvm.Cond.code (ai_y mm_type) (ai_cc mm_type) (ai_mL mm_type) (ai_rt mm_type)) ∧ lk 515 = some (Jvm.Cond.code (ai_y mf_clear) (ai_cc mf_clear) (ai_mL mf_clear) (ai_rt mf_clear)) ∧ lk 1162 = some (Jvm.Cond.code (ai_y mm_clear) (ai_cc mm_clear) (ai_mL mm_clear) (ai_rt mm_clear)) ∧ lk 527 = some (Jvm.Cond.code (ai_y mtxt_skipBlanks) (ai_cc mtxt_skipBlanks) (ai_mL mtxt_skipBlanks) (ai_rt mtxt_skipBlanks)) ∧ lk 534 = some (Jvm.Cond.code (ai_y mtxt_nameOf) (ai_cc mtxt_nameOf) (ai_mL mtxt_nameOf) (ai_rt mtxt_nameOf)) ∧ lk 546 = some (Jvm.Cond.code (ai_y mtxt_isWord) (ai_cc mtxt_isWord) (ai_mL mtxt_isWord) (ai_rt mtxt_isWord)) ∧ lk 531 = some (Jvm.Cond.code (ai_y mtxt_takeWord) (ai_cc mtxt_takeWord) (ai_mL mtxt_takeWord) (ai_rt mtxt_takeWord)) ∧ lk 597 = some (Jvm.Cond.code (ai_y mtxt_numbersBehind) (ai_cc mtxt_numbersBehind) (ai_mL mtxt_numbersBehind) (ai_rt mtxt_numbersBehind)) ∧ lk 605 = some (Jvm.Cond.code (ai_y mtxt_isFigure) (ai_cc mtxt_isFigure) (ai_mL mtxt_isFigure) (ai_rt mtxt_isFigure)) ∧ lk 601 = some (Jvm.Cond.code (ai_y mtxt_takeNumbers) (ai_cc mtxt_takeNumbers) (ai_mL mtxt_takeNumbers) (ai_rt mtxt_takeNumbers)) ∧ lk 609 = some (Jvm.Cond.code (ai_y mtxt_tellItem) (ai_cc mtxt_tellItem) (ai_mL mtxt_tellItem) (ai_rt mtxt_tellItem)) ∧ lk 523 = some (Jvm.Cond.code (ai_y mtxt_tell) (ai_cc mtxt_tell) (ai_mL mtxt_tell) (ai_rt mtxt_tell)) ∧ lk 625 = some (Jvm.Cond.code (ai_y mthg_copyFrom) (ai_cc mthg_copyFrom) (ai_mL mthg_copyFrom) (ai_rt mthg_copyFrom)) ∧ lk 630 = some (Jvm.Cond.code (ai_y mlift_copyFrom) (ai_cc mlift_copyFrom) (ai_mL mlift_copyFrom) (ai_rt mlift_copyFrom)) ∧ lk 621 = some (Jvm.Cond.code (ai_y msea_copyFrom) (ai_cc msea_copyFrom) (ai_mL msea_copyFrom) (ai_rt msea_copyFrom)) := ⟨rfl, rfl, rfl, rfl, rfl, rfl, rfl, rfl, rfl, rfl, rfl, rfl, rfl, rfl, rfl, rfl, rfl, rfl, rfl, rfl, rfl, rfl, rfl, rfl, rfl, rfl, rfl, rfl, rfl, rfl, rfl, rfl, rfl, rfl, rfl, rfl, rfl, rfl, rfl, rfl⟩
theorem ok_mm_ballast : ai_okM mm_ballast := ⟨kc_mm_ballast, ⟨1106, (lk_eq 1106).symm.trans okt_01.1⟩, by decide +kernel, rfl⟩
theorem ok_msea_hasPlace : ai_okM msea_hasPlace := ⟨kc_msea_hasPlace, ⟨466, (lk_eq 466).symm.trans okt_01.2.1⟩, by decide +kernel, rfl⟩
theorem ok_mlift_add : ai_okM mlift_add := ⟨kc_mlift_add, ⟨470, (lk_eq 470).symm.trans okt_01.2.2.1⟩, by decide +kernel, rfl⟩
theorem ok_msea_addLift : ai_okM msea_addLift := ⟨kc_msea_addLift, ⟨462, (lk_eq 462).symm.trans okt_01.2.2.2.1⟩, by decide +kernel, rfl⟩
theorem ok_mf_lift : ai_okM mf_lift := ⟨kc_mf_lift, ⟨458, (lk_eq 458).symm.trans okt_01.2.2.2.2.1⟩, by decide +kernel, rfl⟩
theorem ok_mm_isPlaceOf : ai_okM mm_isPlaceOf := ⟨kc_mm_isPlaceOf, ⟨1126, (lk_eq 1126).symm.trans okt_01.2.2.2.2.2.1⟩, by decide +kernel, rfl⟩
theorem ok_mm_liftTo : ai_okM mm_liftTo := ⟨kc_mm_liftTo, ⟨1122, (lk_eq 1122).symm.trans okt_01.2.2.2.2.2.2.1⟩, by decide +kernel, rfl⟩
theorem ok_mm_lift : ai_okM mm_lift := ⟨kc_mm_lift, ⟨1118, (lk_eq 1118).symm.trans okt_01.2.2.2.2.2.2.2.1⟩, by decide +kernel, rfl⟩
theorem ok_msea_addTown : ai_okM msea_addTown := ⟨kc_msea_addTown, ⟨478, (lk_eq 478).symm.trans okt_01.2.2.2.2.2.2.2.2.1⟩, by decide +kernel, rfl⟩
theorem ok_mf_town : ai_okM mf_town := ⟨kc_mf_town, ⟨474, (lk_eq 474).symm.trans okt_01.2.2.2.2.2.2.2.2.2.1⟩, by decide +kernel, rfl⟩
theorem ok_mm_townTo : ai_okM mm_townTo := ⟨kc_mm_townTo, ⟨1134, (lk_eq 1134).symm.trans okt_01.2.2.2.2.2.2.2.2.2.2.1⟩, by decide +kernel, rfl⟩
theorem ok_mm_town : ai_okM mm_town := ⟨kc_mm_town, ⟨1130, (lk_eq 1130).symm.trans okt_01.2.2.2.2.2.2.2.2.2.2.2.1⟩, by decide +kernel, rfl⟩
theorem ok_msea_putDam : ai_okM msea_putDam := ⟨kc_msea_putDam, ⟨486, (lk_eq 486).symm.trans okt_01.2.2.2.2.2.2.2.2.2.2.2.2.1⟩, by decide +kernel, rfl⟩
theorem ok_mf_dam : ai_okM mf_dam := ⟨kc_mf_dam, ⟨482, (lk_eq 482).symm.trans okt_01.2.2.2.2.2.2.2.2.2.2.2.2.2.1⟩, by decide +kernel, rfl⟩
theorem ok_mm_has : ai_okM mm_has := ⟨kc_mm_has, ⟨1145, (lk_eq 1145).symm.trans okt_01.2.2.2.2.2.2.2.2.2.2.2.2.2.2.1⟩, by decide +kernel, rfl⟩
theorem ok_mm_damTo : ai_okM mm_damTo := ⟨kc_mm_damTo, ⟨1142, (lk_eq 1142).symm.trans okt_01.2.2.2.2.2.2.2.2.2.2.2.2.2.2.2.1⟩, by decide +kernel, rfl⟩
theorem ok_mm_dam : ai_okM mm_dam := ⟨kc_mm_dam, ⟨1138, (lk_eq 1138).symm.trans okt_01.2.2.2.2.2.2.2.2.2.2.2.2.2.2.2.2.1⟩, by decide +kernel, rfl⟩
theorem ok_msea_addDrop : ai_okM msea_addDrop := ⟨kc_msea_addDrop, ⟨494, (lk_eq 494).symm.trans okt_01.2.2.2.2.2.2.2.2.2.2.2.2.2.2.2.2.2.1⟩, by decide +kernel, rfl⟩
theorem ok_mf_drop : ai_okM mf_drop := ⟨kc_mf_drop, ⟨490, (lk_eq 490).symm.trans okt_01.2.2.2.2.2.2.2.2.2.2.2.2.2.2.2.2.2.2.1⟩, by decide +kernel, rfl⟩
theorem ok_mm_drop : ai_okM mm_drop := ⟨kc_mm_drop, ⟨1149, (lk_eq 1149).symm.trans okt_01.2.2.2.2.2.2.2.2.2.2.2.2.2.2.2.2.2.2.2.1⟩, by decide +kernel, rfl⟩
theorem ok_msea_empty : ai_okM msea_empty := ⟨kc_msea_empty, ⟨502, (lk_eq 502).symm.trans okt_01.2.2.2.2.2.2.2.2.2.2.2.2.2.2.2.2.2.2.2.2.1⟩, by decide +kernel, rfl⟩
theorem ok_mf_clean : ai_okM mf_clean := ⟨kc_mf_clean, ⟨498, (lk_eq 498).symm.trans okt_01.2.2.2.2.2.2.2.2.2.2.2.2.2.2.2.2.2.2.2.2.2.1⟩, by decide +kernel, rfl⟩
theorem ok_mm_clean : ai_okM mm_clean := ⟨kc_mm_clean, ⟨1153, (lk_eq 1153).symm.trans okt_01.2.2.2.2.2.2.2.2.2.2.2.2.2.2.2.2.2.2.2.2.2.2.1⟩, by decide +kernel, rfl⟩
theorem ok_mtxt_add : ai_okM mtxt_add := ⟨kc_mtxt_add, ⟨510, (lk_eq 510).symm.trans okt_01.2.2.2.2.2.2.2.2.2.2.2.2.2.2.2.2.2.2.2.2.2.2.2.1⟩, by decide +kernel, rfl⟩
theorem ok_mf_type : ai_okM mf_type := ⟨kc_mf_type, ⟨506, (lk_eq 506).symm.trans okt_01.2.2.2.2.2.2.2.2.2.2.2.2.2.2.2.2.2.2.2.2.2.2.2.2.1⟩, by decide +kernel, rfl⟩
theorem ok_mm_type : ai_okM mm_type := ⟨kc_mm_type, ⟨1157, (lk_eq 1157).symm.trans okt_01.2.2.2.2.2.2.2.2.2.2.2.2.2.2.2.2.2.2.2.2.2.2.2.2.2.1⟩, by decide +kernel, rfl⟩
theorem ok_mf_clear : ai_okM mf_clear := ⟨kc_mf_clear, ⟨515, (lk_eq 515).symm.trans okt_01.2.2.2.2.2.2.2.2.2.2.2.2.2.2.2.2.2.2.2.2.2.2.2.2.2.2.1⟩, by decide +kernel, rfl⟩
theorem ok_mm_clear : ai_okM mm_clear := ⟨kc_mm_clear, ⟨1162, (lk_eq 1162).symm.trans okt_01.2.2.2.2.2.2.2.2.2.2.2.2.2.2.2.2.2.2.2.2.2.2.2.2.2.2.2.1⟩, by decide +kernel, rfl⟩
theorem ok_mtxt_skipBlanks : ai_okM mtxt_skipBlanks := ⟨kc_mtxt_skipBlanks, ⟨527, (lk_eq 527).symm.trans okt_01.2.2.2.2.2.2.2.2.2.2.2.2.2.2.2.2.2.2.2.2.2.2.2.2.2.2.2.2.1⟩, by decide +kernel, rfl⟩
theorem ok_mtxt_nameOf : ai_okM mtxt_nameOf := ⟨kc_mtxt_nameOf, ⟨534, (lk_eq 534).symm.trans okt_01.2.2.2.2.2.2.2.2.2.2.2.2.2.2.2.2.2.2.2.2.2.2.2.2.2.2.2.2.2.1⟩, by decide +kernel, rfl⟩
theorem ok_mtxt_isWord : ai_okM mtxt_isWord := ⟨kc_mtxt_isWord, ⟨546, (lk_eq 546).symm.trans okt_01.2.2.2.2.2.2.2.2.2.2.2.2.2.2.2.2.2.2.2.2.2.2.2.2.2.2.2.2.2.2.1⟩, by decide +kernel, rfl⟩
theorem ok_mtxt_takeWord : ai_okM mtxt_takeWord := ⟨kc_mtxt_takeWord, ⟨531, (lk_eq 531).symm.trans okt_01.2.2.2.2.2.2.2.2.2.2.2.2.2.2.2.2.2.2.2.2.2.2.2.2.2.2.2.2.2.2.2.1⟩, by decide +kernel, rfl⟩
theorem ok_mtxt_numbersBehind : ai_okM mtxt_numbersBehind := ⟨kc_mtxt_numbersBehind, ⟨597, (lk_eq 597).symm.trans okt_01.2.2.2.2.2.2.2.2.2.2.2.2.2.2.2.2.2.2.2.2.2.2.2.2.2.2.2.2.2.2.2.2.1⟩, by decide +kernel, rfl⟩
theorem ok_mtxt_isFigure : ai_okM mtxt_isFigure := ⟨kc_mtxt_isFigure, ⟨605, (lk_eq 605).symm.trans okt_01.2.2.2.2.2.2.2.2.2.2.2.2.2.2.2.2.2.2.2.2.2.2.2.2.2.2.2.2.2.2.2.2.2.1⟩, by decide +kernel, rfl⟩
theorem ok_mtxt_takeNumbers : ai_okM mtxt_takeNumbers := ⟨kc_mtxt_takeNumbers, ⟨601, (lk_eq 601).symm.trans okt_01.2.2.2.2.2.2.2.2.2.2.2.2.2.2.2.2.2.2.2.2.2.2.2.2.2.2.2.2.2.2.2.2.2.2.1⟩, by decide +kernel, rfl⟩
theorem ok_mtxt_tellItem : ai_okM mtxt_tellItem := ⟨kc_mtxt_tellItem, ⟨609, (lk_eq 609).symm.trans okt_01.2.2.2.2.2.2.2.2.2.2.2.2.2.2.2.2.2.2.2.2.2.2.2.2.2.2.2.2.2.2.2.2.2.2.2.1⟩, by decide +kernel, rfl⟩
theorem ok_mtxt_tell : ai_okM mtxt_tell := ⟨kc_mtxt_tell, ⟨523, (lk_eq 523).symm.trans okt_01.2.2.2.2.2.2.2.2.2.2.2.2.2.2.2.2.2.2.2.2.2.2.2.2.2.2.2.2.2.2.2.2.2.2.2.2.1⟩, by decide +kernel, rfl⟩
theorem ok_mthg_copyFrom : ai_okM mthg_copyFrom := ⟨kc_mthg_copyFrom, ⟨625, (lk_eq 625).symm.trans okt_01.2.2.2.2.2.2.2.2.2.2.2.2.2.2.2.2.2.2.2.2.2.2.2.2.2.2.2.2.2.2.2.2.2.2.2.2.2.1⟩, by decide +kernel, rfl⟩
theorem ok_mlift_copyFrom : ai_okM mlift_copyFrom := ⟨kc_mlift_copyFrom, ⟨630, (lk_eq 630).symm.trans okt_01.2.2.2.2.2.2.2.2.2.2.2.2.2.2.2.2.2.2.2.2.2.2.2.2.2.2.2.2.2.2.2.2.2.2.2.2.2.2.1⟩, by decide +kernel, rfl⟩
theorem ok_msea_copyFrom : ai_okM msea_copyFrom := ⟨kc_msea_copyFrom, ⟨621, (lk_eq 621).symm.trans okt_01.2.2.2.2.2.2.2.2.2.2.2.2.2.2.2.2.2.2.2.2.2.2.2.2.2.2.2.2.2.2.2.2.2.2.2.2.2.2.2⟩, by decide +kernel, rfl⟩
theorem kc_mf_read : ai_okC mf_read = true := fzc_ok mf_read (by decide +kernel)
theorem kc_mm_byteAt : ai_okC mm_byteAt = true := fzc_ok mm_byteAt (by decide +kernel)
theorem kc_mm_token : ai_okC mm_token = true := fzc_ok mm_token (by decide +kernel)
theorem kc_mm_isNamed : ai_okC mm_isNamed = true := fzc_ok mm_isNamed (by decide +kernel)
theorem kc_mm_wordNow : ai_okC mm_wordNow = true := fzc_ok mm_wordNow (by decide +kernel)
theorem kc_mm_manyOf : ai_okC mm_manyOf = true := fzc_ok mm_manyOf (by decide +kernel)
theorem kc_mm_takesItem : ai_okC mm_takesItem = true := fzc_ok mm_takesItem (by decide +kernel)
theorem kc_mm_done : ai_okC mm_done = true := fzc_ok mm_done (by decide +kernel)
theorem kc_mm_copy : ai_okC mm_copy = true := fzc_ok mm_copy (by decide +kernel)
theorem kc_mm_read : ai_okC mm_read = true := fzc_ok mm_read (by decide +kernel)
theorem kc_msea_goOn : ai_okC msea_goOn = true := fzc_ok msea_goOn (by decide +kernel)
theorem kc_mf_hours : ai_okC mf_hours = true := fzc_ok mf_hours (by decide +kernel)
theorem kc_mm_hours : ai_okC mm_hours = true := fzc_ok mm_hours (by decide +kernel)
theorem kc_msea_goBack : ai_okC msea_goBack = true := fzc_ok msea_goBack (by decide +kernel)
theorem kc_mf_undo : ai_okC mf_undo = true := fzc_ok mf_undo (by decide +kernel)
theorem kc_mm_undo : ai_okC mm_undo = true := fzc_ok mm_undo (by decide +kernel)
theorem kc_mfall_weightOf : ai_okC mfall_weightOf = true := fzc_ok mfall_weightOf (by decide +kernel)
theorem kc_mfall_roomOf : ai_okC mfall_roomOf = true := fzc_ok mfall_roomOf (by decide +kernel)
theorem kc_mfall_forceOf : ai_okC mfall_forceOf = true := fzc_ok mfall_forceOf (by decide +kernel)
theorem kc_mfall_shape : ai_okC mfall_shape = true := fzc_ok mfall_shape (by decide +kernel)
theorem kc_mf_shapeWithBallast : ai_okC mf_shapeWithBallast = true := fzc_ok mf_shapeWithBallast (by decide +kernel)
theorem kc_mf_shapeNow : ai_okC mf_shapeNow = true := fzc_ok mf_shapeNow (by decide +kernel)
theorem kc_mf_of : ai_okC mf_of = true := fzc_ok mf_of (by decide +kernel)
theorem kc_mm_lay : ai_okC mm_lay = true := fzc_ok mm_lay (by decide +kernel)
theorem kc_mm_lesser : ai_okC mm_lesser = true := fzc_ok mm_lesser (by decide +kernel)
theorem kc_mm_weighs : ai_okC mm_weighs = true := fzc_ok mm_weighs (by decide +kernel)
theorem kc_mm_room : ai_okC mm_room = true := fzc_ok mm_room (by decide +kernel)
theorem kc_mm_of : ai_okC mm_of = true := fzc_ok mm_of (by decide +kernel)
theorem kc_msea_thickAt : ai_okC msea_thickAt = true := fzc_ok msea_thickAt (by decide +kernel)
theorem kc_mf_deep : ai_okC mf_deep = true := fzc_ok mf_deep (by decide +kernel)
theorem kc_mm_isCell : ai_okC mm_isCell = true := fzc_ok mm_isCell (by decide +kernel)
theorem kc_mm_thickIn : ai_okC mm_thickIn = true := fzc_ok mm_thickIn (by decide +kernel)
theorem kc_mm_deep : ai_okC mm_deep = true := fzc_ok mm_deep (by decide +kernel)
theorem kc_mfall_forget : ai_okC mfall_forget = true := fzc_ok mfall_forget (by decide +kernel)
theorem kc_mfall_getsThrough : ai_okC mfall_getsThrough = true := fzc_ok mfall_getsThrough (by decide +kernel)
theorem kc_mfall_letGo : ai_okC mfall_letGo = true := fzc_ok mfall_letGo (by decide +kernel)
set_option maxRecDepth 100000 in
theorem okt_02 : lk 519 = some (Jvm.Cond.code (ai_y mf_read) (ai_cc mf_read) (ai_mL mf_read) (ai_rt mf_read)) ∧ lk 1174 = some (Jvm.Cond.code (ai_y mm_byteAt) (ai_cc mm_byteAt) (ai_mL mm_byteAt) (ai_rt mm_byteAt)) ∧ lk 1170 = some (Jvm.Cond.code (ai_y mm_token) (ai_cc mm_token) (ai_mL mm_token) (ai_rt mm_token)) ∧ lk 1190 = some (Jvm.Cond.code (ai_y mm_isNamed) (ai_cc mm_isNamed) (ai_mL mm_isNamed) (ai_rt mm_isNamed)) ∧ lk 1186 = some (Jvm.Cond.code (ai_y mm_wordNow) (ai_cc mm_wordNow) (ai_mL mm_wordNow) (ai_rt mm_wordNow)) ∧ lk 1193 = some (Jvm.Cond.code (ai_y mm_manyOf) (ai_cc mm_manyOf) (ai_mL mm_manyOf) (ai_rt mm_manyOf)) ∧ lk 1182 = some (Jvm.Cond.code (ai_y mm_takesItem) (ai_cc mm_takesItem) (ai_mL mm_takesItem) (ai_rt mm_takesItem)) ∧ lk 1197 = some (Jvm.Cond.code (ai_y mm_done) (ai_cc mm_done) (ai_mL mm_done) (ai_rt mm_done)) ∧ lk 1201 = some (Jvm.Cond.code (ai_y mm_copy) (ai_cc mm_copy) (ai_mL mm_copy) (ai_rt mm_copy)) ∧ lk 1166 = some (Jvm.Cond.code (ai_y mm_read) (ai_cc mm_read) (ai_mL mm_read) (ai_rt mm_read)) ∧ lk 640 = some (Jvm.Cond.code (ai_y msea_goOn) (ai_cc msea_goOn) (ai_mL msea_goOn) (ai_rt msea_goOn)) ∧ lk 636 = some (Jvm.Cond.code (ai_y mf_hours) (ai_cc mf_hours) (ai_mL mf_hours) (ai_rt mf_hours)) ∧ lk 1205 = some (Jvm.Cond.code (ai_y mm_hours) (ai_cc mm_hours) (ai_mL mm_hours) (ai_rt mm_hours)) ∧ lk 648 = some (Jvm.Cond.code (ai_y msea_goBack) (ai_cc msea_goBack) (ai_mL msea_goBack) (ai_rt msea_goBack)) ∧ lk 644 = some (Jvm.Cond.code (ai_y mf_undo) (ai_cc mf_undo) (ai_mL mf_undo) (ai_rt mf_undo)) ∧ lk 1209 = some (Jvm.Cond.code (ai_y mm_undo) (ai_cc mm_undo) (ai_mL mm_undo) (ai_rt mm_undo)) ∧ lk 667 = some (Jvm.Cond.code (ai_y mfall_weightOf) (ai_cc mfall_weightOf) (ai_mL mfall_weightOf) (ai_rt mfall_weightOf)) ∧ lk 673 = some (Jvm.Cond.code (ai_y mfall_roomOf) (ai_cc mfall_roomOf) (ai_mL mfall_roomOf) (ai_rt mfall_roomOf)) ∧ lk 676 = some (Jvm.Cond.code (ai_y mfall_forceOf) (ai_cc mfall_forceOf) (ai_mL mfall_forceOf) (ai_rt mfall_forceOf)) ∧ lk 664 = some (Jvm.Cond.code (ai_y mfall_shape) (ai_cc mfall_shape) (ai_mL mfall_shape) (ai_rt mfall_shape)) ∧ lk 660 = some (Jvm.Cond.code (ai_y mf_shapeWithBallast) (ai_cc mf_shapeWithBallast) (ai_mL mf_shapeWithBallast) (ai_rt mf_shapeWithBallast)) ∧ lk 656 = some (Jvm.Cond.code (ai_y mf_shapeNow) (ai_cc mf_shapeNow) (ai_mL mf_shapeNow) (ai_rt mf_shapeNow)) ∧ lk 652 = some (Jvm.Cond.code (ai_y mf_of) (ai_cc mf_of) (ai_mL mf_of) (ai_rt mf_of)) ∧ lk 1217 = some (Jvm.Cond.code (ai_y mm_lay) (ai_cc mm_lay) (ai_mL mm_lay) (ai_rt mm_lay)) ∧ lk 1224 = some (Jvm.Cond.code (ai_y mm_lesser) (ai_cc mm_lesser) (ai_mL mm_lesser) (ai_rt mm_lesser)) ∧ lk 1221 = some (Jvm.Cond.code (ai_y mm_weighs) (ai_cc mm_weighs) (ai_mL mm_weighs) (ai_rt mm_weighs)) ∧ lk 1228 = some (Jvm.Cond.code (ai_y mm_room) (ai_cc mm_room) (ai_mL mm_room) (ai_rt mm_room)) ∧ lk 1213 = some (Jvm.Cond.code (ai_y mm_of) (ai_cc mm_of) (ai_mL mm_of) (ai_rt mm_of)) ∧ lk 685 = some (Jvm.Cond.code (ai_y msea_thickAt) (ai_cc msea_thickAt) (ai_mL msea_thickAt) (ai_rt msea_thickAt)) ∧ lk 680 = some (Jvm.Cond.code (ai_y mf_deep) (ai_cc mf_deep) (ai_mL mf_deep) (ai_rt mf_deep)) ∧ lk 1236 = some (Jvm.Cond.code (ai_y mm_isCell) (ai_cc mm_isCell) (ai_mL mm_isCell) (ai_rt mm_isCell)) ∧ lk 1240 = some (Jvm.Cond.code (ai_y mm_thickIn) (ai_cc mm_thickIn) (ai_mL mm_thickIn) (ai_rt mm_thickIn)) ∧ lk 1232 = some (Jvm.Cond.code (ai_y mm_deep) (ai_cc mm_deep) (ai_mL mm_deep) (ai_rt mm_deep)) ∧ lk 704 = some (Jvm.Cond.code (ai_y mfall_forget) (ai_cc mfall_forget) (ai_mL mfall_forget) (ai_rt mfall_forget)) ∧ lk 710 = some (Jvm.Cond.code (ai_y mfall_getsThrough) (ai_cc mfall_getsThrough) (ai_mL mfall_getsThrough) (ai_rt mfall_getsThrough)) ∧ lk 700 = some (Jvm.Cond.code (ai_y mfall_letGo) (ai_cc mfall_letGo) (ai_mL mfall_letGo) (ai_rt mfall_letGo)) := ⟨rfl, rfl, rfl, rfl, rfl, rfl, rfl, rfl, rfl, rfl, rfl, rfl, rfl, rfl, rfl, rfl, rfl, rfl, rfl, rfl, rfl, rfl, rfl, rfl, rfl, rfl, rfl, rfl, rfl, rfl, rfl, rfl, rfl, rfl, rfl, rfl⟩
theorem ok_mf_read : ai_okM mf_read := ⟨kc_mf_read, ⟨519, (lk_eq 519).symm.trans okt_02.1⟩, by decide +kernel, rfl⟩
theorem ok_mm_byteAt : ai_okM mm_byteAt := ⟨kc_mm_byteAt, ⟨1174, (lk_eq 1174).symm.trans okt_02.2.1⟩, by decide +kernel, rfl⟩
theorem ok_mm_token : ai_okM mm_token := ⟨kc_mm_token, ⟨1170, (lk_eq 1170).symm.trans okt_02.2.2.1⟩, by decide +kernel, rfl⟩
theorem ok_mm_isNamed : ai_okM mm_isNamed := ⟨kc_mm_isNamed, ⟨1190, (lk_eq 1190).symm.trans okt_02.2.2.2.1⟩, by decide +kernel, rfl⟩
theorem ok_mm_wordNow : ai_okM mm_wordNow := ⟨kc_mm_wordNow, ⟨1186, (lk_eq 1186).symm.trans okt_02.2.2.2.2.1⟩, by decide +kernel, rfl⟩
theorem ok_mm_manyOf : ai_okM mm_manyOf := ⟨kc_mm_manyOf, ⟨1193, (lk_eq 1193).symm.trans okt_02.2.2.2.2.2.1⟩, by decide +kernel, rfl⟩
theorem ok_mm_takesItem : ai_okM mm_takesItem := ⟨kc_mm_takesItem, ⟨1182, (lk_eq 1182).symm.trans okt_02.2.2.2.2.2.2.1⟩, by decide +kernel, rfl⟩
theorem ok_mm_done : ai_okM mm_done := ⟨kc_mm_done, ⟨1197, (lk_eq 1197).symm.trans okt_02.2.2.2.2.2.2.2.1⟩, by decide +kernel, rfl⟩
theorem ok_mm_copy : ai_okM mm_copy := ⟨kc_mm_copy, ⟨1201, (lk_eq 1201).symm.trans okt_02.2.2.2.2.2.2.2.2.1⟩, by decide +kernel, rfl⟩
theorem ok_mm_read : ai_okM mm_read := ⟨kc_mm_read, ⟨1166, (lk_eq 1166).symm.trans okt_02.2.2.2.2.2.2.2.2.2.1⟩, by decide +kernel, rfl⟩
theorem ok_msea_goOn : ai_okM msea_goOn := ⟨kc_msea_goOn, ⟨640, (lk_eq 640).symm.trans okt_02.2.2.2.2.2.2.2.2.2.2.1⟩, by decide +kernel, rfl⟩
theorem ok_mf_hours : ai_okM mf_hours := ⟨kc_mf_hours, ⟨636, (lk_eq 636).symm.trans okt_02.2.2.2.2.2.2.2.2.2.2.2.1⟩, by decide +kernel, rfl⟩
theorem ok_mm_hours : ai_okM mm_hours := ⟨kc_mm_hours, ⟨1205, (lk_eq 1205).symm.trans okt_02.2.2.2.2.2.2.2.2.2.2.2.2.1⟩, by decide +kernel, rfl⟩
theorem ok_msea_goBack : ai_okM msea_goBack := ⟨kc_msea_goBack, ⟨648, (lk_eq 648).symm.trans okt_02.2.2.2.2.2.2.2.2.2.2.2.2.2.1⟩, by decide +kernel, rfl⟩
theorem ok_mf_undo : ai_okM mf_undo := ⟨kc_mf_undo, ⟨644, (lk_eq 644).symm.trans okt_02.2.2.2.2.2.2.2.2.2.2.2.2.2.2.1⟩, by decide +kernel, rfl⟩
theorem ok_mm_undo : ai_okM mm_undo := ⟨kc_mm_undo, ⟨1209, (lk_eq 1209).symm.trans okt_02.2.2.2.2.2.2.2.2.2.2.2.2.2.2.2.1⟩, by decide +kernel, rfl⟩
theorem ok_mfall_weightOf : ai_okM mfall_weightOf := ⟨kc_mfall_weightOf, ⟨667, (lk_eq 667).symm.trans okt_02.2.2.2.2.2.2.2.2.2.2.2.2.2.2.2.2.1⟩, by decide +kernel, rfl⟩
theorem ok_mfall_roomOf : ai_okM mfall_roomOf := ⟨kc_mfall_roomOf, ⟨673, (lk_eq 673).symm.trans okt_02.2.2.2.2.2.2.2.2.2.2.2.2.2.2.2.2.2.1⟩, by decide +kernel, rfl⟩
theorem ok_mfall_forceOf : ai_okM mfall_forceOf := ⟨kc_mfall_forceOf, ⟨676, (lk_eq 676).symm.trans okt_02.2.2.2.2.2.2.2.2.2.2.2.2.2.2.2.2.2.2.1⟩, by decide +kernel, rfl⟩
theorem ok_mfall_shape : ai_okM mfall_shape := ⟨kc_mfall_shape, ⟨664, (lk_eq 664).symm.trans okt_02.2.2.2.2.2.2.2.2.2.2.2.2.2.2.2.2.2.2.2.1⟩, by decide +kernel, rfl⟩
theorem ok_mf_shapeWithBallast : ai_okM mf_shapeWithBallast := ⟨kc_mf_shapeWithBallast, ⟨660, (lk_eq 660).symm.trans okt_02.2.2.2.2.2.2.2.2.2.2.2.2.2.2.2.2.2.2.2.2.1⟩, by decide +kernel, rfl⟩
theorem ok_mf_shapeNow : ai_okM mf_shapeNow := ⟨kc_mf_shapeNow, ⟨656, (lk_eq 656).symm.trans okt_02.2.2.2.2.2.2.2.2.2.2.2.2.2.2.2.2.2.2.2.2.2.1⟩, by decide +kernel, rfl⟩
theorem ok_mf_of : ai_okM mf_of := ⟨kc_mf_of, ⟨652, (lk_eq 652).symm.trans okt_02.2.2.2.2.2.2.2.2.2.2.2.2.2.2.2.2.2.2.2.2.2.2.1⟩, by decide +kernel, rfl⟩
theorem ok_mm_lay : ai_okM mm_lay := ⟨kc_mm_lay, ⟨1217, (lk_eq 1217).symm.trans okt_02.2.2.2.2.2.2.2.2.2.2.2.2.2.2.2.2.2.2.2.2.2.2.2.1⟩, by decide +kernel, rfl⟩
theorem ok_mm_lesser : ai_okM mm_lesser := ⟨kc_mm_lesser, ⟨1224, (lk_eq 1224).symm.trans okt_02.2.2.2.2.2.2.2.2.2.2.2.2.2.2.2.2.2.2.2.2.2.2.2.2.1⟩, by decide +kernel, rfl⟩
theorem ok_mm_weighs : ai_okM mm_weighs := ⟨kc_mm_weighs, ⟨1221, (lk_eq 1221).symm.trans okt_02.2.2.2.2.2.2.2.2.2.2.2.2.2.2.2.2.2.2.2.2.2.2.2.2.2.1⟩, by decide +kernel, rfl⟩
theorem ok_mm_room : ai_okM mm_room := ⟨kc_mm_room, ⟨1228, (lk_eq 1228).symm.trans okt_02.2.2.2.2.2.2.2.2.2.2.2.2.2.2.2.2.2.2.2.2.2.2.2.2.2.2.1⟩, by decide +kernel, rfl⟩
theorem ok_mm_of : ai_okM mm_of := ⟨kc_mm_of, ⟨1213, (lk_eq 1213).symm.trans okt_02.2.2.2.2.2.2.2.2.2.2.2.2.2.2.2.2.2.2.2.2.2.2.2.2.2.2.2.1⟩, by decide +kernel, rfl⟩
theorem ok_msea_thickAt : ai_okM msea_thickAt := ⟨kc_msea_thickAt, ⟨685, (lk_eq 685).symm.trans okt_02.2.2.2.2.2.2.2.2.2.2.2.2.2.2.2.2.2.2.2.2.2.2.2.2.2.2.2.2.1⟩, by decide +kernel, rfl⟩
theorem ok_mf_deep : ai_okM mf_deep := ⟨kc_mf_deep, ⟨680, (lk_eq 680).symm.trans okt_02.2.2.2.2.2.2.2.2.2.2.2.2.2.2.2.2.2.2.2.2.2.2.2.2.2.2.2.2.2.1⟩, by decide +kernel, rfl⟩
theorem ok_mm_isCell : ai_okM mm_isCell := ⟨kc_mm_isCell, ⟨1236, (lk_eq 1236).symm.trans okt_02.2.2.2.2.2.2.2.2.2.2.2.2.2.2.2.2.2.2.2.2.2.2.2.2.2.2.2.2.2.2.1⟩, by decide +kernel, rfl⟩
theorem ok_mm_thickIn : ai_okM mm_thickIn := ⟨kc_mm_thickIn, ⟨1240, (lk_eq 1240).symm.trans okt_02.2.2.2.2.2.2.2.2.2.2.2.2.2.2.2.2.2.2.2.2.2.2.2.2.2.2.2.2.2.2.2.1⟩, by decide +kernel, rfl⟩
theorem ok_mm_deep : ai_okM mm_deep := ⟨kc_mm_deep, ⟨1232, (lk_eq 1232).symm.trans okt_02.2.2.2.2.2.2.2.2.2.2.2.2.2.2.2.2.2.2.2.2.2.2.2.2.2.2.2.2.2.2.2.2.1⟩, by decide +kernel, rfl⟩
theorem ok_mfall_forget : ai_okM mfall_forget := ⟨kc_mfall_forget, ⟨704, (lk_eq 704).symm.trans okt_02.2.2.2.2.2.2.2.2.2.2.2.2.2.2.2.2.2.2.2.2.2.2.2.2.2.2.2.2.2.2.2.2.2.1⟩, by decide +kernel, rfl⟩
theorem ok_mfall_getsThrough : ai_okM mfall_getsThrough := ⟨kc_mfall_getsThrough, ⟨710, (lk_eq 710).symm.trans okt_02.2.2.2.2.2.2.2.2.2.2.2.2.2.2.2.2.2.2.2.2.2.2.2.2.2.2.2.2.2.2.2.2.2.2.1⟩, by decide +kernel, rfl⟩
theorem ok_mfall_letGo : ai_okM mfall_letGo := ⟨kc_mfall_letGo, ⟨700, (lk_eq 700).symm.trans okt_02.2.2.2.2.2.2.2.2.2.2.2.2.2.2.2.2.2.2.2.2.2.2.2.2.2.2.2.2.2.2.2.2.2.2.2⟩, by decide +kernel, rfl⟩
theorem kc_mf_letGoNow : ai_okC mf_letGoNow = true := fzc_ok mf_letGoNow (by decide +kernel)
theorem kc_mf_rests : ai_okC mf_rests = true := fzc_ok mf_rests (by decide +kernel)
theorem kc_mm_breaks : ai_okC mm_breaks = true := fzc_ok mm_breaks (by decide +kernel)
theorem kc_mm_comesDown : ai_okC mm_comesDown = true := fzc_ok mm_comesDown (by decide +kernel)
theorem kc_mm_rests : ai_okC mm_rests = true := fzc_ok mm_rests (by decide +kernel)
theorem kc_mf_takesBallast : ai_okC mf_takesBallast = true := fzc_ok mf_takesBallast (by decide +kernel)
theorem kc_mf_letGoWithBallast : ai_okC mf_letGoWithBallast = true := fzc_ok mf_letGoWithBallast (by decide +kernel)
theorem kc_mf_leastBallast : ai_okC mf_leastBallast = true := fzc_ok mf_leastBallast (by decide +kernel)
theorem kc_mf_sink : ai_okC mf_sink = true := fzc_ok mf_sink (by decide +kernel)
theorem kc_mm_isLoaded : ai_okC mm_isLoaded = true := fzc_ok mm_isLoaded (by decide +kernel)
theorem kc_mm_leastFor : ai_okC mm_leastFor = true := fzc_ok mm_leastFor (by decide +kernel)
theorem kc_mm_sink : ai_okC mm_sink = true := fzc_ok mm_sink (by decide +kernel)
theorem kc_mf_holds : ai_okC mf_holds = true := fzc_ok mf_holds (by decide +kernel)
theorem kc_mm_holds : ai_okC mm_holds = true := fzc_ok mm_holds (by decide +kernel)
theorem kc_mf_bestHour : ai_okC mf_bestHour = true := fzc_ok mf_bestHour (by decide +kernel)
theorem kc_mm_bestHour : ai_okC mm_bestHour = true := fzc_ok mm_bestHour (by decide +kernel)
theorem kc_mway_numberOf : ai_okC mway_numberOf = true := fzc_ok mway_numberOf (by decide +kernel)
theorem kc_mway_join : ai_okC mway_join = true := fzc_ok mway_join (by decide +kernel)
theorem kc_mway_goByLifts : ai_okC mway_goByLifts = true := fzc_ok mway_goByLifts (by decide +kernel)
theorem kc_mway_goBeside : ai_okC mway_goBeside = true := fzc_ok mway_goBeside (by decide +kernel)
theorem kc_mway_soonestWay : ai_okC mway_soonestWay = true := fzc_ok mway_soonestWay (by decide +kernel)
theorem kc_mf_soonest : ai_okC mf_soonest = true := fzc_ok mf_soonest (by decide +kernel)
theorem kc_mm_comesTo : ai_okC mm_comesTo = true := fzc_ok mm_comesTo (by decide +kernel)
theorem kc_mm_isThick : ai_okC mm_isThick = true := fzc_ok mm_isThick (by decide +kernel)
theorem kc_mm_soonest : ai_okC mm_soonest = true := fzc_ok mm_soonest (by decide +kernel)
theorem kc_msea_ceilingOf : ai_okC msea_ceilingOf = true := fzc_ok msea_ceilingOf (by decide +kernel)
theorem kc_msea_duesOf : ai_okC msea_duesOf = true := fzc_ok msea_duesOf (by decide +kernel)
theorem kc_mf_net : ai_okC mf_net = true := fzc_ok mf_net (by decide +kernel)
theorem kc_mm_ceilingOf : ai_okC mm_ceilingOf = true := fzc_ok mm_ceilingOf (by decide +kernel)
theorem kc_mm_duesOf : ai_okC mm_duesOf = true := fzc_ok mm_duesOf (by decide +kernel)
theorem kc_mm_net : ai_okC mm_net = true := fzc_ok mm_net (by decide +kernel)
set_option maxRecDepth 100000 in
theorem okt_03 : lk 696 = some (Jvm.Cond.code (ai_y mf_letGoNow) (ai_cc mf_letGoNow) (ai_mL mf_letGoNow) (ai_rt mf_letGoNow)) ∧ lk 692 = some (Jvm.Cond.code (ai_y mf_rests) (ai_cc mf_rests) (ai_mL mf_rests) (ai_rt mf_rests)) ∧ lk 1252 = some (Jvm.Cond.code (ai_y mm_breaks) (ai_cc mm_breaks) (ai_mL mm_breaks) (ai_rt mm_breaks)) ∧ lk 1248 = some (Jvm.Cond.code (ai_y mm_comesDown) (ai_cc mm_comesDown) (ai_mL mm_comesDown) (ai_rt mm_comesDown)) ∧ lk 1244 = some (Jvm.Cond.code (ai_y mm_rests) (ai_cc mm_rests) (ai_mL mm_rests) (ai_rt mm_rests)) ∧ lk 718 = some (Jvm.Cond.code (ai_y mf_takesBallast) (ai_cc mf_takesBallast) (ai_mL mf_takesBallast) (ai_rt mf_takesBallast)) ∧ lk 726 = some (Jvm.Cond.code (ai_y mf_letGoWithBallast) (ai_cc mf_letGoWithBallast) (ai_mL mf_letGoWithBallast) (ai_rt mf_letGoWithBallast)) ∧ lk 722 = some (Jvm.Cond.code (ai_y mf_leastBallast) (ai_cc mf_leastBallast) (ai_mL mf_leastBallast) (ai_rt mf_leastBallast)) ∧ lk 714 = some (Jvm.Cond.code (ai_y mf_sink) (ai_cc mf_sink) (ai_mL mf_sink) (ai_rt mf_sink)) ∧ lk 1260 = some (Jvm.Cond.code (ai_y mm_isLoaded) (ai_cc mm_isLoaded) (ai_mL mm_isLoaded) (ai_rt mm_isLoaded)) ∧ lk 1265 = some (Jvm.Cond.code (ai_y mm_leastFor) (ai_cc mm_leastFor) (ai_mL mm_leastFor) (ai_rt mm_leastFor)) ∧ lk 1256 = some (Jvm.Cond.code (ai_y mm_sink) (ai_cc mm_sink) (ai_mL mm_sink) (ai_rt mm_sink)) ∧ lk 730 = some (Jvm.Cond.code (ai_y mf_holds) (ai_cc mf_holds) (ai_mL mf_holds) (ai_rt mf_holds)) ∧ lk 1269 = some (Jvm.Cond.code (ai_y mm_holds) (ai_cc mm_holds) (ai_mL mm_holds) (ai_rt mm_holds)) ∧ lk 734 = some (Jvm.Cond.code (ai_y mf_bestHour) (ai_cc mf_bestHour) (ai_mL mf_bestHour) (ai_rt mf_bestHour)) ∧ lk 1273 = some (Jvm.Cond.code (ai_y mm_bestHour) (ai_cc mm_bestHour) (ai_mL mm_bestHour) (ai_rt mm_bestHour)) ∧ lk 748 = some (Jvm.Cond.code (ai_y mway_numberOf) (ai_cc mway_numberOf) (ai_mL mway_numberOf) (ai_rt mway_numberOf)) ∧ lk 756 = some (Jvm.Cond.code (ai_y mway_join) (ai_cc mway_join) (ai_mL mway_join) (ai_rt mway_join)) ∧ lk 752 = some (Jvm.Cond.code (ai_y mway_goByLifts) (ai_cc mway_goByLifts) (ai_mL mway_goByLifts) (ai_rt mway_goByLifts)) ∧ lk 761 = some (Jvm.Cond.code (ai_y mway_goBeside) (ai_cc mway_goBeside) (ai_mL mway_goBeside) (ai_rt mway_goBeside)) ∧ lk 743 = some (Jvm.Cond.code (ai_y mway_soonestWay) (ai_cc mway_soonestWay) (ai_mL mway_soonestWay) (ai_rt mway_soonestWay)) ∧ lk 738 = some (Jvm.Cond.code (ai_y mf_soonest) (ai_cc mf_soonest) (ai_mL mf_soonest) (ai_rt mf_soonest)) ∧ lk 1282 = some (Jvm.Cond.code (ai_y mm_comesTo) (ai_cc mm_comesTo) (ai_mL mm_comesTo) (ai_rt mm_comesTo)) ∧ lk 1286 = some (Jvm.Cond.code (ai_y mm_isThick) (ai_cc mm_isThick) (ai_mL mm_isThick) (ai_rt mm_isThick)) ∧ lk 1278 = some (Jvm.Cond.code (ai_y mm_soonest) (ai_cc mm_soonest) (ai_mL mm_soonest) (ai_rt mm_soonest)) ∧ lk 770 = some (Jvm.Cond.code (ai_y msea_ceilingOf) (ai_cc msea_ceilingOf) (ai_mL msea_ceilingOf) (ai_rt msea_ceilingOf)) ∧ lk 774 = some (Jvm.Cond.code (ai_y msea_duesOf) (ai_cc msea_duesOf) (ai_mL msea_duesOf) (ai_rt msea_duesOf)) ∧ lk 766 = some (Jvm.Cond.code (ai_y mf_net) (ai_cc mf_net) (ai_mL mf_net) (ai_rt mf_net)) ∧ lk 1294 = some (Jvm.Cond.code (ai_y mm_ceilingOf) (ai_cc mm_ceilingOf) (ai_mL mm_ceilingOf) (ai_rt mm_ceilingOf)) ∧ lk 1298 = some (Jvm.Cond.code (ai_y mm_duesOf) (ai_cc mm_duesOf) (ai_mL mm_duesOf) (ai_rt mm_duesOf)) ∧ lk 1290 = some (Jvm.Cond.code (ai_y mm_net) (ai_cc mm_net) (ai_mL mm_net) (ai_rt mm_net)) := ⟨rfl, rfl, rfl, rfl, rfl, rfl, rfl, rfl, rfl, rfl, rfl, rfl, rfl, rfl, rfl, rfl, rfl, rfl, rfl, rfl, rfl, rfl, rfl, rfl, rfl, rfl, rfl, rfl, rfl, rfl, rfl⟩
theorem ok_mf_letGoNow : ai_okM mf_letGoNow := ⟨kc_mf_letGoNow, ⟨696, (lk_eq 696).symm.trans okt_03.1⟩, by decide +kernel, rfl⟩
theorem ok_mf_rests : ai_okM mf_rests := ⟨kc_mf_rests, ⟨692, (lk_eq 692).symm.trans okt_03.2.1⟩, by decide +kernel, rfl⟩
theorem ok_mm_breaks : ai_okM mm_breaks := ⟨kc_mm_breaks, ⟨1252, (lk_eq 1252).symm.trans okt_03.2.2.1⟩, by decide +kernel, rfl⟩
theorem ok_mm_comesDown : ai_okM mm_comesDown := ⟨kc_mm_comesDown, ⟨1248, (lk_eq 1248).symm.trans okt_03.2.2.2.1⟩, by decide +kernel, rfl⟩
theorem ok_mm_rests : ai_okM mm_rests := ⟨kc_mm_rests, ⟨1244, (lk_eq 1244).symm.trans okt_03.2.2.2.2.1⟩, by decide +kernel, rfl⟩
theorem ok_mf_takesBallast : ai_okM mf_takesBallast := ⟨kc_mf_takesBallast, ⟨718, (lk_eq 718).symm.trans okt_03.2.2.2.2.2.1⟩, by decide +kernel, rfl⟩
theorem ok_mf_letGoWithBallast : ai_okM mf_letGoWithBallast := ⟨kc_mf_letGoWithBallast, ⟨726, (lk_eq 726).symm.trans okt_03.2.2.2.2.2.2.1⟩, by decide +kernel, rfl⟩
theorem ok_mf_leastBallast : ai_okM mf_leastBallast := ⟨kc_mf_leastBallast, ⟨722, (lk_eq 722).symm.trans okt_03.2.2.2.2.2.2.2.1⟩, by decide +kernel, rfl⟩
theorem ok_mf_sink : ai_okM mf_sink := ⟨kc_mf_sink, ⟨714, (lk_eq 714).symm.trans okt_03.2.2.2.2.2.2.2.2.1⟩, by decide +kernel, rfl⟩
theorem ok_mm_isLoaded : ai_okM mm_isLoaded := ⟨kc_mm_isLoaded, ⟨1260, (lk_eq 1260).symm.trans okt_03.2.2.2.2.2.2.2.2.2.1⟩, by decide +kernel, rfl⟩
theorem ok_mm_leastFor : ai_okM mm_leastFor := ⟨kc_mm_leastFor, ⟨1265, (lk_eq 1265).symm.trans okt_03.2.2.2.2.2.2.2.2.2.2.1⟩, by decide +kernel, rfl⟩
theorem ok_mm_sink : ai_okM mm_sink := ⟨kc_mm_sink, ⟨1256, (lk_eq 1256).symm.trans okt_03.2.2.2.2.2.2.2.2.2.2.2.1⟩, by decide +kernel, rfl⟩
theorem ok_mf_holds : ai_okM mf_holds := ⟨kc_mf_holds, ⟨730, (lk_eq 730).symm.trans okt_03.2.2.2.2.2.2.2.2.2.2.2.2.1⟩, by decide +kernel, rfl⟩
theorem ok_mm_holds : ai_okM mm_holds := ⟨kc_mm_holds, ⟨1269, (lk_eq 1269).symm.trans okt_03.2.2.2.2.2.2.2.2.2.2.2.2.2.1⟩, by decide +kernel, rfl⟩
theorem ok_mf_bestHour : ai_okM mf_bestHour := ⟨kc_mf_bestHour, ⟨734, (lk_eq 734).symm.trans okt_03.2.2.2.2.2.2.2.2.2.2.2.2.2.2.1⟩, by decide +kernel, rfl⟩
theorem ok_mm_bestHour : ai_okM mm_bestHour := ⟨kc_mm_bestHour, ⟨1273, (lk_eq 1273).symm.trans okt_03.2.2.2.2.2.2.2.2.2.2.2.2.2.2.2.1⟩, by decide +kernel, rfl⟩
theorem ok_mway_numberOf : ai_okM mway_numberOf := ⟨kc_mway_numberOf, ⟨748, (lk_eq 748).symm.trans okt_03.2.2.2.2.2.2.2.2.2.2.2.2.2.2.2.2.1⟩, by decide +kernel, rfl⟩
theorem ok_mway_join : ai_okM mway_join := ⟨kc_mway_join, ⟨756, (lk_eq 756).symm.trans okt_03.2.2.2.2.2.2.2.2.2.2.2.2.2.2.2.2.2.1⟩, by decide +kernel, rfl⟩
theorem ok_mway_goByLifts : ai_okM mway_goByLifts := ⟨kc_mway_goByLifts, ⟨752, (lk_eq 752).symm.trans okt_03.2.2.2.2.2.2.2.2.2.2.2.2.2.2.2.2.2.2.1⟩, by decide +kernel, rfl⟩
theorem ok_mway_goBeside : ai_okM mway_goBeside := ⟨kc_mway_goBeside, ⟨761, (lk_eq 761).symm.trans okt_03.2.2.2.2.2.2.2.2.2.2.2.2.2.2.2.2.2.2.2.1⟩, by decide +kernel, rfl⟩
theorem ok_mway_soonestWay : ai_okM mway_soonestWay := ⟨kc_mway_soonestWay, ⟨743, (lk_eq 743).symm.trans okt_03.2.2.2.2.2.2.2.2.2.2.2.2.2.2.2.2.2.2.2.2.1⟩, by decide +kernel, rfl⟩
theorem ok_mf_soonest : ai_okM mf_soonest := ⟨kc_mf_soonest, ⟨738, (lk_eq 738).symm.trans okt_03.2.2.2.2.2.2.2.2.2.2.2.2.2.2.2.2.2.2.2.2.2.1⟩, by decide +kernel, rfl⟩
theorem ok_mm_comesTo : ai_okM mm_comesTo := ⟨kc_mm_comesTo, ⟨1282, (lk_eq 1282).symm.trans okt_03.2.2.2.2.2.2.2.2.2.2.2.2.2.2.2.2.2.2.2.2.2.2.1⟩, by decide +kernel, rfl⟩
theorem ok_mm_isThick : ai_okM mm_isThick := ⟨kc_mm_isThick, ⟨1286, (lk_eq 1286).symm.trans okt_03.2.2.2.2.2.2.2.2.2.2.2.2.2.2.2.2.2.2.2.2.2.2.2.1⟩, by decide +kernel, rfl⟩
theorem ok_mm_soonest : ai_okM mm_soonest := ⟨kc_mm_soonest, ⟨1278, (lk_eq 1278).symm.trans okt_03.2.2.2.2.2.2.2.2.2.2.2.2.2.2.2.2.2.2.2.2.2.2.2.2.1⟩, by decide +kernel, rfl⟩
theorem ok_msea_ceilingOf : ai_okM msea_ceilingOf := ⟨kc_msea_ceilingOf, ⟨770, (lk_eq 770).symm.trans okt_03.2.2.2.2.2.2.2.2.2.2.2.2.2.2.2.2.2.2.2.2.2.2.2.2.2.1⟩, by decide +kernel, rfl⟩
theorem ok_msea_duesOf : ai_okM msea_duesOf := ⟨kc_msea_duesOf, ⟨774, (lk_eq 774).symm.trans okt_03.2.2.2.2.2.2.2.2.2.2.2.2.2.2.2.2.2.2.2.2.2.2.2.2.2.2.1⟩, by decide +kernel, rfl⟩
theorem ok_mf_net : ai_okM mf_net := ⟨kc_mf_net, ⟨766, (lk_eq 766).symm.trans okt_03.2.2.2.2.2.2.2.2.2.2.2.2.2.2.2.2.2.2.2.2.2.2.2.2.2.2.2.1⟩, by decide +kernel, rfl⟩
theorem ok_mm_ceilingOf : ai_okM mm_ceilingOf := ⟨kc_mm_ceilingOf, ⟨1294, (lk_eq 1294).symm.trans okt_03.2.2.2.2.2.2.2.2.2.2.2.2.2.2.2.2.2.2.2.2.2.2.2.2.2.2.2.2.1⟩, by decide +kernel, rfl⟩
theorem ok_mm_duesOf : ai_okM mm_duesOf := ⟨kc_mm_duesOf, ⟨1298, (lk_eq 1298).symm.trans okt_03.2.2.2.2.2.2.2.2.2.2.2.2.2.2.2.2.2.2.2.2.2.2.2.2.2.2.2.2.2.1⟩, by decide +kernel, rfl⟩
theorem ok_mm_net : ai_okM mm_net := ⟨kc_mm_net, ⟨1290, (lk_eq 1290).symm.trans okt_03.2.2.2.2.2.2.2.2.2.2.2.2.2.2.2.2.2.2.2.2.2.2.2.2.2.2.2.2.2.2⟩, by decide +kernel, rfl⟩
