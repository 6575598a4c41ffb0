theorem kc_mf_isSpill : ai_okC mf_isSpill = true := fzc_ok mf_isSpill (by decide +kernel)
theorem kc_mspr_start : ai_okC mspr_start = true := fzc_ok mspr_start (by decide +kernel)
theorem kc_mspr_goOn : ai_okC mspr_goOn = true := fzc_ok mspr_goOn (by decide +kernel)
theorem kc_mf_spill : ai_okC mf_spill = true := fzc_ok mf_spill (by decide +kernel)
theorem kc_mm_laySpill : ai_okC mm_laySpill = true := fzc_ok mm_laySpill (by decide +kernel)
theorem kc_mm_spills : ai_okC mm_spills = true := fzc_ok mm_spills (by decide +kernel)
theorem kc_mm_spill : ai_okC mm_spill = true := fzc_ok mm_spill (by decide +kernel)
theorem kc_mint_bitCount : ai_okC mint_bitCount = true := fzc_ok mint_bitCount (by decide +kernel)
theorem kc_mspr_isIn : ai_okC mspr_isIn = true := fzc_ok mspr_isIn (by decide +kernel)
theorem kc_mf_keepsOut : ai_okC mf_keepsOut = true := fzc_ok mf_keepsOut (by decide +kernel)
theorem kc_mf_keepOut : ai_okC mf_keepOut = true := fzc_ok mf_keepOut (by decide +kernel)
theorem kc_mm_ones : ai_okC mm_ones = true := fzc_ok mm_ones (by decide +kernel)
theorem kc_mm_keepsOut : ai_okC mm_keepsOut = true := fzc_ok mm_keepsOut (by decide +kernel)
theorem kc_mm_keepOut : ai_okC mm_keepOut = true := fzc_ok mm_keepOut (by decide +kernel)
theorem kc_msea_allThick : ai_okC msea_allThick = true := fzc_ok msea_allThick (by decide +kernel)
theorem kc_mf_shaken : ai_okC mf_shaken = true := fzc_ok mf_shaken (by decide +kernel)
theorem kc_mm_shaken : ai_okC mm_shaken = true := fzc_ok mm_shaken (by decide +kernel)
theorem kc_mf_lies : ai_okC mf_lies = true := fzc_ok mf_lies (by decide +kernel)
theorem kc_mm_lies : ai_okC mm_lies = true := fzc_ok mm_lies (by decide +kernel)
theorem kc_mfall_driftFrom : ai_okC mfall_driftFrom = true := fzc_ok mfall_driftFrom (by decide +kernel)
theorem kc_mf_wentIn : ai_okC mf_wentIn = true := fzc_ok mf_wentIn (by decide +kernel)
theorem kc_mm_driftsTo : ai_okC mm_driftsTo = true := fzc_ok mm_driftsTo (by decide +kernel)
theorem kc_mm_wentIn : ai_okC mm_wentIn = true := fzc_ok mm_wentIn (by decide +kernel)
theorem kc_mf_areFish : ai_okC mf_areFish = true := fzc_ok mf_areFish (by decide +kernel)
theorem kc_mf_fillDowns : ai_okC mf_fillDowns = true := fzc_ok mf_fillDowns (by decide +kernel)
theorem kc_mf_caught : ai_okC mf_caught = true := fzc_ok mf_caught (by decide +kernel)
set_option maxRecDepth 100000 in
theorem okt_04 : lk 783 = some (Jvm.Cond.code (ai_y mf_isSpill) (ai_cc mf_isSpill) (ai_mL mf_isSpill) (ai_rt mf_isSpill)) ∧ lk 787 = some (Jvm.Cond.code (ai_y mspr_start) (ai_cc mspr_start) (ai_mL mspr_start) (ai_rt mspr_start)) ∧ lk 792 = some (Jvm.Cond.code (ai_y mspr_goOn) (ai_cc mspr_goOn) (ai_mL mspr_goOn) (ai_rt mspr_goOn)) ∧ lk 779 = some (Jvm.Cond.code (ai_y mf_spill) (ai_cc mf_spill) (ai_mL mf_spill) (ai_rt mf_spill)) ∧ lk 1308 = some (Jvm.Cond.code (ai_y mm_laySpill) (ai_cc mm_laySpill) (ai_mL mm_laySpill) (ai_rt mm_laySpill)) ∧ lk 1312 = some (Jvm.Cond.code (ai_y mm_spills) (ai_cc mm_spills) (ai_mL mm_spills) (ai_rt mm_spills)) ∧ lk 1302 = some (Jvm.Cond.code (ai_y mm_spill) (ai_cc mm_spill) (ai_mL mm_spill) (ai_rt mm_spill)) ∧ lk 799 = some (Jvm.Cond.code (ai_y mint_bitCount) (ai_cc mint_bitCount) (ai_mL mint_bitCount) (ai_rt mint_bitCount)) ∧ lk 810 = some (Jvm.Cond.code (ai_y mspr_isIn) (ai_cc mspr_isIn) (ai_mL mspr_isIn) (ai_rt mspr_isIn)) ∧ lk 806 = some (Jvm.Cond.code (ai_y mf_keepsOut) (ai_cc mf_keepsOut) (ai_mL mf_keepsOut) (ai_rt mf_keepsOut)) ∧ lk 796 = some (Jvm.Cond.code (ai_y mf_keepOut) (ai_cc mf_keepOut) (ai_mL mf_keepOut) (ai_rt mf_keepOut)) ∧ lk 1319 = some (Jvm.Cond.code (ai_y mm_ones) (ai_cc mm_ones) (ai_mL mm_ones) (ai_rt mm_ones)) ∧ lk 1323 = some (Jvm.Cond.code (ai_y mm_keepsOut) (ai_cc mm_keepsOut) (ai_mL mm_keepsOut) (ai_rt mm_keepsOut)) ∧ lk 1316 = some (Jvm.Cond.code (ai_y mm_keepOut) (ai_cc mm_keepOut) (ai_mL mm_keepOut) (ai_rt mm_keepOut)) ∧ lk 818 = some (Jvm.Cond.code (ai_y msea_allThick) (ai_cc msea_allThick) (ai_mL msea_allThick) (ai_rt msea_allThick)) ∧ lk 814 = some (Jvm.Cond.code (ai_y mf_shaken) (ai_cc mf_shaken) (ai_mL mf_shaken) (ai_rt mf_shaken)) ∧ lk 1327 = some (Jvm.Cond.code (ai_y mm_shaken) (ai_cc mm_shaken) (ai_mL mm_shaken) (ai_rt mm_shaken)) ∧ lk 822 = some (Jvm.Cond.code (ai_y mf_lies) (ai_cc mf_lies) (ai_mL mf_lies) (ai_rt mf_lies)) ∧ lk 1331 = some (Jvm.Cond.code (ai_y mm_lies) (ai_cc mm_lies) (ai_mL mm_lies) (ai_rt mm_lies)) ∧ lk 830 = some (Jvm.Cond.code (ai_y mfall_driftFrom) (ai_cc mfall_driftFrom) (ai_mL mfall_driftFrom) (ai_rt mfall_driftFrom)) ∧ lk 826 = some (Jvm.Cond.code (ai_y mf_wentIn) (ai_cc mf_wentIn) (ai_mL mf_wentIn) (ai_rt mf_wentIn)) ∧ lk 1339 = some (Jvm.Cond.code (ai_y mm_driftsTo) (ai_cc mm_driftsTo) (ai_mL mm_driftsTo) (ai_rt mm_driftsTo)) ∧ lk 1335 = some (Jvm.Cond.code (ai_y mm_wentIn) (ai_cc mm_wentIn) (ai_mL mm_wentIn) (ai_rt mm_wentIn)) ∧ lk 839 = some (Jvm.Cond.code (ai_y mf_areFish) (ai_cc mf_areFish) (ai_mL mf_areFish) (ai_rt mf_areFish)) ∧ lk 843 = some (Jvm.Cond.code (ai_y mf_fillDowns) (ai_cc mf_fillDowns) (ai_mL mf_fillDowns) (ai_rt mf_fillDowns)) ∧ lk 847 = some (Jvm.Cond.code (ai_y mf_caught) (ai_cc mf_caught) (ai_mL mf_caught) (ai_rt mf_caught)) := ⟨rfl, rfl, rfl, rfl, rfl, rfl, rfl, rfl, rfl, rfl, rfl, rfl, rfl, rfl, rfl, rfl, rfl, rfl, rfl, rfl, rfl, rfl, rfl, rfl, rfl, rfl⟩
theorem ok_mf_isSpill : ai_okM mf_isSpill := ⟨kc_mf_isSpill, ⟨783, (lk_eq 783).symm.trans okt_04.1⟩, by decide +kernel, rfl⟩
theorem ok_mspr_start : ai_okM mspr_start := ⟨kc_mspr_start, ⟨787, (lk_eq 787).symm.trans okt_04.2.1⟩, by decide +kernel, rfl⟩
theorem ok_mspr_goOn : ai_okM mspr_goOn := ⟨kc_mspr_goOn, ⟨792, (lk_eq 792).symm.trans okt_04.2.2.1⟩, by decide +kernel, rfl⟩
theorem ok_mf_spill : ai_okM mf_spill := ⟨kc_mf_spill, ⟨779, (lk_eq 779).symm.trans okt_04.2.2.2.1⟩, by decide +kernel, rfl⟩
theorem ok_mm_laySpill : ai_okM mm_laySpill := ⟨kc_mm_laySpill, ⟨1308, (lk_eq 1308).symm.trans okt_04.2.2.2.2.1⟩, by decide +kernel, rfl⟩
theorem ok_mm_spills : ai_okM mm_spills := ⟨kc_mm_spills, ⟨1312, (lk_eq 1312).symm.trans okt_04.2.2.2.2.2.1⟩, by decide +kernel, rfl⟩
theorem ok_mm_spill : ai_okM mm_spill := ⟨kc_mm_spill, ⟨1302, (lk_eq 1302).symm.trans okt_04.2.2.2.2.2.2.1⟩, by decide +kernel, rfl⟩
theorem ok_mint_bitCount : ai_okM mint_bitCount := ⟨kc_mint_bitCount, ⟨799, (lk_eq 799).symm.trans okt_04.2.2.2.2.2.2.2.1⟩, by decide +kernel, rfl⟩
theorem ok_mspr_isIn : ai_okM mspr_isIn := ⟨kc_mspr_isIn, ⟨810, (lk_eq 810).symm.trans okt_04.2.2.2.2.2.2.2.2.1⟩, by decide +kernel, rfl⟩
theorem ok_mf_keepsOut : ai_okM mf_keepsOut := ⟨kc_mf_keepsOut, ⟨806, (lk_eq 806).symm.trans okt_04.2.2.2.2.2.2.2.2.2.1⟩, by decide +kernel, rfl⟩
theorem ok_mf_keepOut : ai_okM mf_keepOut := ⟨kc_mf_keepOut, ⟨796, (lk_eq 796).symm.trans okt_04.2.2.2.2.2.2.2.2.2.2.1⟩, by decide +kernel, rfl⟩
theorem ok_mm_ones : ai_okM mm_ones := ⟨kc_mm_ones, ⟨1319, (lk_eq 1319).symm.trans okt_04.2.2.2.2.2.2.2.2.2.2.2.1⟩, by decide +kernel, rfl⟩
theorem ok_mm_keepsOut : ai_okM mm_keepsOut := ⟨kc_mm_keepsOut, ⟨1323, (lk_eq 1323).symm.trans okt_04.2.2.2.2.2.2.2.2.2.2.2.2.1⟩, by decide +kernel, rfl⟩
theorem ok_mm_keepOut : ai_okM mm_keepOut := ⟨kc_mm_keepOut, ⟨1316, (lk_eq 1316).symm.trans okt_04.2.2.2.2.2.2.2.2.2.2.2.2.2.1⟩, by decide +kernel, rfl⟩
theorem ok_msea_allThick : ai_okM msea_allThick := ⟨kc_msea_allThick, ⟨818, (lk_eq 818).symm.trans okt_04.2.2.2.2.2.2.2.2.2.2.2.2.2.2.1⟩, by decide +kernel, rfl⟩
theorem ok_mf_shaken : ai_okM mf_shaken := ⟨kc_mf_shaken, ⟨814, (lk_eq 814).symm.trans okt_04.2.2.2.2.2.2.2.2.2.2.2.2.2.2.2.1⟩, by decide +kernel, rfl⟩
theorem ok_mm_shaken : ai_okM mm_shaken := ⟨kc_mm_shaken, ⟨1327, (lk_eq 1327).symm.trans okt_04.2.2.2.2.2.2.2.2.2.2.2.2.2.2.2.2.1⟩, by decide +kernel, rfl⟩
theorem ok_mf_lies : ai_okM mf_lies := ⟨kc_mf_lies, ⟨822, (lk_eq 822).symm.trans okt_04.2.2.2.2.2.2.2.2.2.2.2.2.2.2.2.2.2.1⟩, by decide +kernel, rfl⟩
theorem ok_mm_lies : ai_okM mm_lies := ⟨kc_mm_lies, ⟨1331, (lk_eq 1331).symm.trans okt_04.2.2.2.2.2.2.2.2.2.2.2.2.2.2.2.2.2.2.1⟩, by decide +kernel, rfl⟩
theorem ok_mfall_driftFrom : ai_okM mfall_driftFrom := ⟨kc_mfall_driftFrom, ⟨830, (lk_eq 830).symm.trans okt_04.2.2.2.2.2.2.2.2.2.2.2.2.2.2.2.2.2.2.2.1⟩, by decide +kernel, rfl⟩
theorem ok_mf_wentIn : ai_okM mf_wentIn := ⟨kc_mf_wentIn, ⟨826, (lk_eq 826).symm.trans okt_04.2.2.2.2.2.2.2.2.2.2.2.2.2.2.2.2.2.2.2.2.1⟩, by decide +kernel, rfl⟩
theorem ok_mm_driftsTo : ai_okM mm_driftsTo := ⟨kc_mm_driftsTo, ⟨1339, (lk_eq 1339).symm.trans okt_04.2.2.2.2.2.2.2.2.2.2.2.2.2.2.2.2.2.2.2.2.2.1⟩, by decide +kernel, rfl⟩
theorem ok_mm_wentIn : ai_okM mm_wentIn := ⟨kc_mm_wentIn, ⟨1335, (lk_eq 1335).symm.trans okt_04.2.2.2.2.2.2.2.2.2.2.2.2.2.2.2.2.2.2.2.2.2.2.1⟩, by decide +kernel, rfl⟩
theorem ok_mf_areFish : ai_okM mf_areFish := ⟨kc_mf_areFish, ⟨839, (lk_eq 839).symm.trans okt_04.2.2.2.2.2.2.2.2.2.2.2.2.2.2.2.2.2.2.2.2.2.2.2.1⟩, by decide +kernel, rfl⟩
theorem ok_mf_fillDowns : ai_okM mf_fillDowns := ⟨kc_mf_fillDowns, ⟨843, (lk_eq 843).symm.trans okt_04.2.2.2.2.2.2.2.2.2.2.2.2.2.2.2.2.2.2.2.2.2.2.2.2.1⟩, by decide +kernel, rfl⟩
theorem ok_mf_caught : ai_okM mf_caught := ⟨kc_mf_caught, ⟨847, (lk_eq 847).symm.trans okt_04.2.2.2.2.2.2.2.2.2.2.2.2.2.2.2.2.2.2.2.2.2.2.2.2.2⟩, by decide +kernel, rfl⟩
theorem kc_mf_nets : ai_okC mf_nets = true := fzc_ok mf_nets (by decide +kernel)
theorem kc_mm_nets : ai_okC mm_nets = true := fzc_ok mm_nets (by decide +kernel)
theorem kc_msea_sweetInAll : ai_okC msea_sweetInAll = true := fzc_ok msea_sweetInAll (by decide +kernel)
theorem kc_mf_tapped : ai_okC mf_tapped = true := fzc_ok mf_tapped (by decide +kernel)
theorem kc_mf_isBestTap : ai_okC mf_isBestTap = true := fzc_ok mf_isBestTap (by decide +kernel)
theorem kc_mf_tap : ai_okC mf_tap = true := fzc_ok mf_tap (by decide +kernel)
theorem kc_mm_tapped : ai_okC mm_tapped = true := fzc_ok mm_tapped (by decide +kernel)
theorem kc_mm_tap : ai_okC mm_tap = true := fzc_ok mm_tap (by decide +kernel)
theorem kc_msea_fitsDrops : ai_okC msea_fitsDrops = true := fzc_ok msea_fitsDrops (by decide +kernel)
theorem kc_mf_nextToTry : ai_okC mf_nextToTry = true := fzc_ok mf_nextToTry (by decide +kernel)
theorem kc_mf_known : ai_okC mf_known = true := fzc_ok mf_known (by decide +kernel)
theorem kc_mm_fits : ai_okC mm_fits = true := fzc_ok mm_fits (by decide +kernel)
theorem kc_mm_known : ai_okC mm_known = true := fzc_ok mm_known (by decide +kernel)
theorem kc_mf_chanceOf : ai_okC mf_chanceOf = true := fzc_ok mf_chanceOf (by decide +kernel)
theorem kc_mf_putFraction : ai_okC mf_putFraction = true := fzc_ok mf_putFraction (by decide +kernel)
theorem kc_mf_storm : ai_okC mf_storm = true := fzc_ok mf_storm (by decide +kernel)
theorem kc_mm_tells : ai_okC mm_tells = true := fzc_ok mm_tells (by decide +kernel)
theorem kc_mm_storm : ai_okC mm_storm = true := fzc_ok mm_storm (by decide +kernel)
theorem kc_mf_part : ai_okC mf_part = true := fzc_ok mf_part (by decide +kernel)
theorem kc_mm_part : ai_okC mm_part = true := fzc_ok mm_part (by decide +kernel)
theorem kc_mf_imageAt : ai_okC mf_imageAt = true := fzc_ok mf_imageAt (by decide +kernel)
theorem kc_mf_image : ai_okC mf_image = true := fzc_ok mf_image (by decide +kernel)
theorem kc_mm_image : ai_okC mm_image = true := fzc_ok mm_image (by decide +kernel)
theorem kc_mf_from : ai_okC mf_from = true := fzc_ok mf_from (by decide +kernel)
theorem kc_mm_from : ai_okC mm_from = true := fzc_ok mm_from (by decide +kernel)
theorem kc_mf_status : ai_okC mf_status = true := fzc_ok mf_status (by decide +kernel)
set_option maxRecDepth 100000 in
theorem okt_05 : lk 835 = some (Jvm.Cond.code (ai_y mf_nets) (ai_cc mf_nets) (ai_mL mf_nets) (ai_rt mf_nets)) ∧ lk 1343 = some (Jvm.Cond.code (ai_y mm_nets) (ai_cc mm_nets) (ai_mL mm_nets) (ai_rt mm_nets)) ∧ lk 855 = some (Jvm.Cond.code (ai_y msea_sweetInAll) (ai_cc msea_sweetInAll) (ai_mL msea_sweetInAll) (ai_rt msea_sweetInAll)) ∧ lk 861 = some (Jvm.Cond.code (ai_y mf_tapped) (ai_cc mf_tapped) (ai_mL mf_tapped) (ai_rt mf_tapped)) ∧ lk 858 = some (Jvm.Cond.code (ai_y mf_isBestTap) (ai_cc mf_isBestTap) (ai_mL mf_isBestTap) (ai_rt mf_isBestTap)) ∧ lk 851 = some (Jvm.Cond.code (ai_y mf_tap) (ai_cc mf_tap) (ai_mL mf_tap) (ai_rt mf_tap)) ∧ lk 1351 = some (Jvm.Cond.code (ai_y mm_tapped) (ai_cc mm_tapped) (ai_mL mm_tapped) (ai_rt mm_tapped)) ∧ lk 1347 = some (Jvm.Cond.code (ai_y mm_tap) (ai_cc mm_tap) (ai_mL mm_tap) (ai_rt mm_tap)) ∧ lk 870 = some (Jvm.Cond.code (ai_y msea_fitsDrops) (ai_cc msea_fitsDrops) (ai_mL msea_fitsDrops) (ai_rt msea_fitsDrops)) ∧ lk 874 = some (Jvm.Cond.code (ai_y mf_nextToTry) (ai_cc mf_nextToTry) (ai_mL mf_nextToTry) (ai_rt mf_nextToTry)) ∧ lk 866 = some (Jvm.Cond.code (ai_y mf_known) (ai_cc mf_known) (ai_mL mf_known) (ai_rt mf_known)) ∧ lk 1359 = some (Jvm.Cond.code (ai_y mm_fits) (ai_cc mm_fits) (ai_mL mm_fits) (ai_rt mm_fits)) ∧ lk 1355 = some (Jvm.Cond.code (ai_y mm_known) (ai_cc mm_known) (ai_mL mm_known) (ai_rt mm_known)) ∧ lk 882 = some (Jvm.Cond.code (ai_y mf_chanceOf) (ai_cc mf_chanceOf) (ai_mL mf_chanceOf) (ai_rt mf_chanceOf)) ∧ lk 886 = some (Jvm.Cond.code (ai_y mf_putFraction) (ai_cc mf_putFraction) (ai_mL mf_putFraction) (ai_rt mf_putFraction)) ∧ lk 878 = some (Jvm.Cond.code (ai_y mf_storm) (ai_cc mf_storm) (ai_mL mf_storm) (ai_rt mf_storm)) ∧ lk 1368 = some (Jvm.Cond.code (ai_y mm_tells) (ai_cc mm_tells) (ai_mL mm_tells) (ai_rt mm_tells)) ∧ lk 1363 = some (Jvm.Cond.code (ai_y mm_storm) (ai_cc mm_storm) (ai_mL mm_storm) (ai_rt mm_storm)) ∧ lk 890 = some (Jvm.Cond.code (ai_y mf_part) (ai_cc mf_part) (ai_mL mf_part) (ai_rt mf_part)) ∧ lk 1372 = some (Jvm.Cond.code (ai_y mm_part) (ai_cc mm_part) (ai_mL mm_part) (ai_rt mm_part)) ∧ lk 898 = some (Jvm.Cond.code (ai_y mf_imageAt) (ai_cc mf_imageAt) (ai_mL mf_imageAt) (ai_rt mf_imageAt)) ∧ lk 894 = some (Jvm.Cond.code (ai_y mf_image) (ai_cc mf_image) (ai_mL mf_image) (ai_rt mf_image)) ∧ lk 1376 = some (Jvm.Cond.code (ai_y mm_image) (ai_cc mm_image) (ai_mL mm_image) (ai_rt mm_image)) ∧ lk 902 = some (Jvm.Cond.code (ai_y mf_from) (ai_cc mf_from) (ai_mL mf_from) (ai_rt mf_from)) ∧ lk 1380 = some (Jvm.Cond.code (ai_y mm_from) (ai_cc mm_from) (ai_mL mm_from) (ai_rt mm_from)) ∧ lk 906 = some (Jvm.Cond.code (ai_y mf_status) (ai_cc mf_status) (ai_mL mf_status) (ai_rt mf_status)) := ⟨rfl, rfl, rfl, rfl, rfl, rfl, rfl, rfl, rfl, rfl, rfl, rfl, rfl, rfl, rfl, rfl, rfl, rfl, rfl, rfl, rfl, rfl, rfl, rfl, rfl, rfl⟩
theorem ok_mf_nets : ai_okM mf_nets := ⟨kc_mf_nets, ⟨835, (lk_eq 835).symm.trans okt_05.1⟩, by decide +kernel, rfl⟩
theorem ok_mm_nets : ai_okM mm_nets := ⟨kc_mm_nets, ⟨1343, (lk_eq 1343).symm.trans okt_05.2.1⟩, by decide +kernel, rfl⟩
theorem ok_msea_sweetInAll : ai_okM msea_sweetInAll := ⟨kc_msea_sweetInAll, ⟨855, (lk_eq 855).symm.trans okt_05.2.2.1⟩, by decide +kernel, rfl⟩
theorem ok_mf_tapped : ai_okM mf_tapped := ⟨kc_mf_tapped, ⟨861, (lk_eq 861).symm.trans okt_05.2.2.2.1⟩, by decide +kernel, rfl⟩
theorem ok_mf_isBestTap : ai_okM mf_isBestTap := ⟨kc_mf_isBestTap, ⟨858, (lk_eq 858).symm.trans okt_05.2.2.2.2.1⟩, by decide +kernel, rfl⟩
theorem ok_mf_tap : ai_okM mf_tap := ⟨kc_mf_tap, ⟨851, (lk_eq 851).symm.trans okt_05.2.2.2.2.2.1⟩, by decide +kernel, rfl⟩
theorem ok_mm_tapped : ai_okM mm_tapped := ⟨kc_mm_tapped, ⟨1351, (lk_eq 1351).symm.trans okt_05.2.2.2.2.2.2.1⟩, by decide +kernel, rfl⟩
theorem ok_mm_tap : ai_okM mm_tap := ⟨kc_mm_tap, ⟨1347, (lk_eq 1347).symm.trans okt_05.2.2.2.2.2.2.2.1⟩, by decide +kernel, rfl⟩
theorem ok_msea_fitsDrops : ai_okM msea_fitsDrops := ⟨kc_msea_fitsDrops, ⟨870, (lk_eq 870).symm.trans okt_05.2.2.2.2.2.2.2.2.1⟩, by decide +kernel, rfl⟩
theorem ok_mf_nextToTry : ai_okM mf_nextToTry := ⟨kc_mf_nextToTry, ⟨874, (lk_eq 874).symm.trans okt_05.2.2.2.2.2.2.2.2.2.1⟩, by decide +kernel, rfl⟩
theorem ok_mf_known : ai_okM mf_known := ⟨kc_mf_known, ⟨866, (lk_eq 866).symm.trans okt_05.2.2.2.2.2.2.2.2.2.2.1⟩, by decide +kernel, rfl⟩
theorem ok_mm_fits : ai_okM mm_fits := ⟨kc_mm_fits, ⟨1359, (lk_eq 1359).symm.trans okt_05.2.2.2.2.2.2.2.2.2.2.2.1⟩, by decide +kernel, rfl⟩
theorem ok_mm_known : ai_okM mm_known := ⟨kc_mm_known, ⟨1355, (lk_eq 1355).symm.trans okt_05.2.2.2.2.2.2.2.2.2.2.2.2.1⟩, by decide +kernel, rfl⟩
theorem ok_mf_chanceOf : ai_okM mf_chanceOf := ⟨kc_mf_chanceOf, ⟨882, (lk_eq 882).symm.trans okt_05.2.2.2.2.2.2.2.2.2.2.2.2.2.1⟩, by decide +kernel, rfl⟩
theorem ok_mf_putFraction : ai_okM mf_putFraction := ⟨kc_mf_putFraction, ⟨886, (lk_eq 886).symm.trans okt_05.2.2.2.2.2.2.2.2.2.2.2.2.2.2.1⟩, by decide +kernel, rfl⟩
theorem ok_mf_storm : ai_okM mf_storm := ⟨kc_mf_storm, ⟨878, (lk_eq 878).symm.trans okt_05.2.2.2.2.2.2.2.2.2.2.2.2.2.2.2.1⟩, by decide +kernel, rfl⟩
theorem ok_mm_tells : ai_okM mm_tells := ⟨kc_mm_tells, ⟨1368, (lk_eq 1368).symm.trans okt_05.2.2.2.2.2.2.2.2.2.2.2.2.2.2.2.2.1⟩, by decide +kernel, rfl⟩
theorem ok_mm_storm : ai_okM mm_storm := ⟨kc_mm_storm, ⟨1363, (lk_eq 1363).symm.trans okt_05.2.2.2.2.2.2.2.2.2.2.2.2.2.2.2.2.2.1⟩, by decide +kernel, rfl⟩
theorem ok_mf_part : ai_okM mf_part := ⟨kc_mf_part, ⟨890, (lk_eq 890).symm.trans okt_05.2.2.2.2.2.2.2.2.2.2.2.2.2.2.2.2.2.2.1⟩, by decide +kernel, rfl⟩
theorem ok_mm_part : ai_okM mm_part := ⟨kc_mm_part, ⟨1372, (lk_eq 1372).symm.trans okt_05.2.2.2.2.2.2.2.2.2.2.2.2.2.2.2.2.2.2.2.1⟩, by decide +kernel, rfl⟩
theorem ok_mf_imageAt : ai_okM mf_imageAt := ⟨kc_mf_imageAt, ⟨898, (lk_eq 898).symm.trans okt_05.2.2.2.2.2.2.2.2.2.2.2.2.2.2.2.2.2.2.2.2.1⟩, by decide +kernel, rfl⟩
theorem ok_mf_image : ai_okM mf_image := ⟨kc_mf_image, ⟨894, (lk_eq 894).symm.trans okt_05.2.2.2.2.2.2.2.2.2.2.2.2.2.2.2.2.2.2.2.2.2.1⟩, by decide +kernel, rfl⟩
theorem ok_mm_image : ai_okM mm_image := ⟨kc_mm_image, ⟨1376, (lk_eq 1376).symm.trans okt_05.2.2.2.2.2.2.2.2.2.2.2.2.2.2.2.2.2.2.2.2.2.2.1⟩, by decide +kernel, rfl⟩
theorem ok_mf_from : ai_okM mf_from := ⟨kc_mf_from, ⟨902, (lk_eq 902).symm.trans okt_05.2.2.2.2.2.2.2.2.2.2.2.2.2.2.2.2.2.2.2.2.2.2.2.1⟩, by decide +kernel, rfl⟩
theorem ok_mm_from : ai_okM mm_from := ⟨kc_mm_from, ⟨1380, (lk_eq 1380).symm.trans okt_05.2.2.2.2.2.2.2.2.2.2.2.2.2.2.2.2.2.2.2.2.2.2.2.2.1⟩, by decide +kernel, rfl⟩
theorem ok_mf_status : ai_okM mf_status := ⟨kc_mf_status, ⟨906, (lk_eq 906).symm.trans okt_05.2.2.2.2.2.2.2.2.2.2.2.2.2.2.2.2.2.2.2.2.2.2.2.2.2⟩, by decide +kernel, rfl⟩
theorem kc_mm_status : ai_okC mm_status = true := fzc_ok mm_status (by decide +kernel)
theorem kc_msea_countOf : ai_okC msea_countOf = true := fzc_ok msea_countOf (by decide +kernel)
theorem kc_mf_count : ai_okC mf_count = true := fzc_ok mf_count (by decide +kernel)
theorem kc_mm_countOf : ai_okC mm_countOf = true := fzc_ok mm_countOf (by decide +kernel)
theorem kc_mm_count : ai_okC mm_count = true := fzc_ok mm_count (by decide +kernel)
theorem kc_msea_digestWaters : ai_okC msea_digestWaters = true := fzc_ok msea_digestWaters (by decide +kernel)
theorem kc_msea_digestRows : ai_okC msea_digestRows = true := fzc_ok msea_digestRows (by decide +kernel)
theorem kc_mf_digest : ai_okC mf_digest = true := fzc_ok mf_digest (by decide +kernel)
theorem kc_mm_mix : ai_okC mm_mix = true := fzc_ok mm_mix (by decide +kernel)
theorem kc_mm_mixSea : ai_okC mm_mixSea = true := fzc_ok mm_mixSea (by decide +kernel)
theorem kc_mm_digest : ai_okC mm_digest = true := fzc_ok mm_digest (by decide +kernel)
set_option maxRecDepth 100000 in
theorem okt_06 : lk 1384 = some (Jvm.Cond.code (ai_y mm_status) (ai_cc mm_status) (ai_mL mm_status) (ai_rt mm_status)) ∧ lk 914 = some (Jvm.Cond.code (ai_y msea_countOf) (ai_cc msea_countOf) (ai_mL msea_countOf) (ai_rt msea_countOf)) ∧ lk 910 = some (Jvm.Cond.code (ai_y mf_count) (ai_cc mf_count) (ai_mL mf_count) (ai_rt mf_count)) ∧ lk 1393 = some (Jvm.Cond.code (ai_y mm_countOf) (ai_cc mm_countOf) (ai_mL mm_countOf) (ai_rt mm_countOf)) ∧ lk 1388 = some (Jvm.Cond.code (ai_y mm_count) (ai_cc mm_count) (ai_mL mm_count) (ai_rt mm_count)) ∧ lk 924 = some (Jvm.Cond.code (ai_y msea_digestWaters) (ai_cc msea_digestWaters) (ai_mL msea_digestWaters) (ai_rt msea_digestWaters)) ∧ lk 929 = some (Jvm.Cond.code (ai_y msea_digestRows) (ai_cc msea_digestRows) (ai_mL msea_digestRows) (ai_rt msea_digestRows)) ∧ lk 918 = some (Jvm.Cond.code (ai_y mf_digest) (ai_cc mf_digest) (ai_mL mf_digest) (ai_rt mf_digest)) ∧ lk 1402 = some (Jvm.Cond.code (ai_y mm_mix) (ai_cc mm_mix) (ai_mL mm_mix) (ai_rt mm_mix)) ∧ lk 1407 = some (Jvm.Cond.code (ai_y mm_mixSea) (ai_cc mm_mixSea) (ai_mL mm_mixSea) (ai_rt mm_mixSea)) ∧ lk 1397 = some (Jvm.Cond.code (ai_y mm_digest) (ai_cc mm_digest) (ai_mL mm_digest) (ai_rt mm_digest)) := ⟨rfl, rfl, rfl, rfl, rfl, rfl, rfl, rfl, rfl, rfl, rfl⟩
theorem ok_mm_status : ai_okM mm_status := ⟨kc_mm_status, ⟨1384, (lk_eq 1384).symm.trans okt_06.1⟩, by decide +kernel, rfl⟩
theorem ok_msea_countOf : ai_okM msea_countOf := ⟨kc_msea_countOf, ⟨914, (lk_eq 914).symm.trans okt_06.2.1⟩, by decide +kernel, rfl⟩
theorem ok_mf_count : ai_okM mf_count := ⟨kc_mf_count, ⟨910, (lk_eq 910).symm.trans okt_06.2.2.1⟩, by decide +kernel, rfl⟩
theorem ok_mm_countOf : ai_okM mm_countOf := ⟨kc_mm_countOf, ⟨1393, (lk_eq 1393).symm.trans okt_06.2.2.2.1⟩, by decide +kernel, rfl⟩
theorem ok_mm_count : ai_okM mm_count := ⟨kc_mm_count, ⟨1388, (lk_eq 1388).symm.trans okt_06.2.2.2.2.1⟩, by decide +kernel, rfl⟩
theorem ok_msea_digestWaters : ai_okM msea_digestWaters := ⟨kc_msea_digestWaters, ⟨924, (lk_eq 924).symm.trans okt_06.2.2.2.2.2.1⟩, by decide +kernel, rfl⟩
theorem ok_msea_digestRows : ai_okM msea_digestRows := ⟨kc_msea_digestRows, ⟨929, (lk_eq 929).symm.trans okt_06.2.2.2.2.2.2.1⟩, by decide +kernel, rfl⟩
theorem ok_mf_digest : ai_okM mf_digest := ⟨kc_mf_digest, ⟨918, (lk_eq 918).symm.trans okt_06.2.2.2.2.2.2.2.1⟩, by decide +kernel, rfl⟩
theorem ok_mm_mix : ai_okM mm_mix := ⟨kc_mm_mix, ⟨1402, (lk_eq 1402).symm.trans okt_06.2.2.2.2.2.2.2.2.1⟩, by decide +kernel, rfl⟩
theorem ok_mm_mixSea : ai_okM mm_mixSea := ⟨kc_mm_mixSea, ⟨1407, (lk_eq 1407).symm.trans okt_06.2.2.2.2.2.2.2.2.2.1⟩, by decide +kernel, rfl⟩
theorem ok_mm_digest : ai_okM mm_digest := ⟨kc_mm_digest, ⟨1397, (lk_eq 1397).symm.trans okt_06.2.2.2.2.2.2.2.2.2.2⟩, by decide +kernel, rfl⟩
set_option maxRecDepth 100000 in
theorem kc_mlaw : ai_okC mlaw = true := fzc_ok mlaw (by decide +kernel)
