theorem in_1_6 (x : Int32) : Fm_in x.toInt64 1 6 = some (if 1 ≤ x ∧ x ≤ 6 then 1 else 0) := Fm_in_eq x 1 6 (by decide) (by decide)
theorem in_1_99 (x : Int32) : Fm_in x.toInt64 1 99 = some (if 1 ≤ x ∧ x ≤ 99 then 1 else 0) := Fm_in_eq x 1 99 (by decide) (by decide)
theorem in_0_9 (x : Int32) : Fm_in x.toInt64 0 9 = some (if 0 ≤ x ∧ x ≤ 9 then 1 else 0) := Fm_in_eq x 0 9 (by decide) (by decide)
theorem in_0_2 (x : Int32) : Fm_in x.toInt64 0 2 = some (if 0 ≤ x ∧ x ≤ 2 then 1 else 0) := Fm_in_eq x 0 2 (by decide) (by decide)
theorem in_0_99 (x : Int32) : Fm_in x.toInt64 0 99 = some (if 0 ≤ x ∧ x ≤ 99 then 1 else 0) := Fm_in_eq x 0 99 (by decide) (by decide)
theorem in_0_5 (x : Int32) : Fm_in x.toInt64 0 5 = some (if 0 ≤ x ∧ x ≤ 5 then 1 else 0) := Fm_in_eq x 0 5 (by decide) (by decide)
theorem in_m2_2 (x : Int32) : Fm_in x.toInt64 (-2) 2 = some (if (-2) ≤ x ∧ x ≤ 2 then 1 else 0) := Fm_in_eq x (-2) 2 (by decide) (by decide)
theorem in_m1_1 (x : Int32) : Fm_in x.toInt64 (-1) 1 = some (if (-1) ≤ x ∧ x ≤ 1 then 1 else 0) := Fm_in_eq x (-1) 1 (by decide) (by decide)
theorem in_1_9 (x : Int32) : Fm_in x.toInt64 1 9 = some (if 1 ≤ x ∧ x ≤ 9 then 1 else 0) := Fm_in_eq x 1 9 (by decide) (by decide)
theorem in_0_3 (x : Int32) : Fm_in x.toInt64 0 3 = some (if 0 ≤ x ∧ x ≤ 3 then 1 else 0) := Fm_in_eq x 0 3 (by decide) (by decide)
theorem in_0_127 (x : Int32) : Fm_in x.toInt64 0 127 = some (if 0 ≤ x ∧ x ≤ 127 then 1 else 0) := Fm_in_eq x 0 127 (by decide) (by decide)
theorem in_0_8 (x : Int32) : Fm_in x.toInt64 0 8 = some (if 0 ≤ x ∧ x ≤ 8 then 1 else 0) := Fm_in_eq x 0 8 (by decide) (by decide)
theorem in_0_1 (x : Int32) : Fm_in x.toInt64 0 1 = some (if 0 ≤ x ∧ x ≤ 1 then 1 else 0) := Fm_in_eq x 0 1 (by decide) (by decide)
theorem in_0_4 (x : Int32) : Fm_in x.toInt64 0 4 = some (if 0 ≤ x ∧ x ≤ 4 then 1 else 0) := Fm_in_eq x 0 4 (by decide) (by decide)
theorem in_0_999 (x : Int32) : Fm_in x.toInt64 0 999 = some (if 0 ≤ x ∧ x ≤ 999 then 1 else 0) := Fm_in_eq x 0 999 (by decide) (by decide)
theorem in_0_40 (x : Int32) : Fm_in x.toInt64 0 40 = some (if 0 ≤ x ∧ x ≤ 40 then 1 else 0) := Fm_in_eq x 0 40 (by decide) (by decide)
theorem one_ne : ((1 : Int32) = 0) = False := by decide
theorem wN : ai_ix (a_m_w wm0) 0 = some 4 := by decide +kernel
theorem wN2 : ai_ix (a_m_w wm0) (0 + 0) = some 4 := by decide +kernel
theorem wT : ai_ix (a_m_w wm0) 2 = some 0 := by decide +kernel
theorem wW : ai_ix (a_m_w wm0) 4 = some 0 := by decide +kernel
theorem in_dam (x : Int32) : Fm_in x.toInt64 0 ((4 - 2 : Int32)).toInt64 = some (if 0 ≤ x ∧ x ≤ 2 then 1 else 0) := Fm_in_eq x 0 2 (by decide) (by decide)
theorem in_tow (x : Int32) : Fm_in x.toInt64 0 ((0 - 1 : Int32)).toInt64 = some (if 0 ≤ x ∧ x ≤ -1 then 1 else 0) := Fm_in_eq x 0 (-1) (by decide) (by decide)
theorem in_fis (x : Int32) : Fm_in x.toInt64 0 (((1 : Int32) <<< ((0 : Int32) &&& 31)) - 1).toInt64 = some (if 0 ≤ x ∧ x ≤ 0 then 1 else 0) := Fm_in_eq x 0 0 (by decide) (by decide)
theorem in_cel (x : Int32) : Fm_in x.toInt64 0 (((1 : Int32) <<< ((4 : Int32) &&& 31)) - 1).toInt64 = some (if 0 ≤ x ∧ x ≤ 15 then 1 else 0) := Fm_in_eq x 0 15 (by decide) (by decide)
theorem c2 : a_s1_cells wx0 - 2 = 2 := by decide
theorem tw0 : a_s1_towns wx0 - 1 = -1 := by decide
theorem fi0 : ((1 : Int32) <<< ((a_s1things_count wx0) &&& 31)) - 1 = 0 := by decide
theorem ce0 : ((1 : Int32) <<< ((a_s1_cells wx0) &&& 31)) - 1 = 15 := by decide
set_option maxHeartbeats 4000000 in
set_option maxRecDepth 100000 in
theorem Qb_0_0 (a1 : Int32) (h0 : ¬ (1 ≤ a1 ∧ a1 ≤ 6)) : eqv (Ff_sea_0 4200 a1 wx0) (Fm_sea_89 4200 a1 wm0) = true := by
  obtain ⟨w1, hw1⟩ := fcnt0
  obtain ⟨m1, hm1⟩ := mmet0
  obtain ⟨m2, hm2⟩ := mbad0
  obtain ⟨m3, hm3⟩ := mbadAs0 (-10)
  obtain ⟨m4, hm4⟩ := mbadAs0 (-1000)
  obtain ⟨m5, hm5⟩ := mbadAs0 (-1)
  simp only [Ff_sea_0, Fsea_startAnew_1, Fm_sea_89, Fm_seaTo_89, Ff_isLayer_eq, Ff_within_eq, hasCell0, Fm_isLayer_eq, isCell0, isCellOf0, in_1_6, in_1_99, in_0_9, in_0_2, in_0_99, in_0_5, in_m2_2, in_m1_1, in_1_9, in_0_3, in_0_127, in_0_8, in_0_1, in_0_4, in_0_999, in_0_40, bd_some, eq_self, if_true, if_false, one_ne, Ff_bad_0, wN, wN2, wT, wW, in_dam, in_tow, in_fis, in_cel, c2, tw0, fi0, ce0, hasThing0, isThing0, if_neg h0, hw1, hm1, hm2, hm3, hm4, hm5]
  exact eqv_some _ _ _
set_option maxHeartbeats 4000000 in
set_option maxRecDepth 100000 in
theorem Qb_1_1 (a1 a2 : Int32) (h0 : 0 ≤ a1 ∧ a1 ≤ 3) (h1 : ¬ (1 ≤ a2 ∧ a2 ≤ 99)) : eqv (Ff_water_0 a1 a2 wx0) (Fm_water_89 a1 a2 wm0) = true := by
  obtain ⟨w1, hw1⟩ := fcnt0
  obtain ⟨m1, hm1⟩ := mmet0
  obtain ⟨m2, hm2⟩ := mbad0
  obtain ⟨m3, hm3⟩ := mbadAs0 (-10)
  obtain ⟨m4, hm4⟩ := mbadAs0 (-1000)
  obtain ⟨m5, hm5⟩ := mbadAs0 (-1)
  simp only [Ff_water_0, Fsea_putDensity_1, Fm_water_89, Fm_waterTo_89, Ff_isLayer_eq, Ff_within_eq, hasCell0, Fm_isLayer_eq, isCell0, isCellOf0, in_1_6, in_1_99, in_0_9, in_0_2, in_0_99, in_0_5, in_m2_2, in_m1_1, in_1_9, in_0_3, in_0_127, in_0_8, in_0_1, in_0_4, in_0_999, in_0_40, bd_some, eq_self, if_true, if_false, one_ne, Ff_bad_0, wN, wN2, wT, wW, in_dam, in_tow, in_fis, in_cel, c2, tw0, fi0, ce0, hasThing0, isThing0, if_pos h0, if_neg h1, hw1, hm1, hm2, hm3, hm4, hm5]
  exact eqv_some _ _ _
set_option maxHeartbeats 4000000 in
set_option maxRecDepth 100000 in
theorem Qb_1_0 (a1 a2 : Int32) (h0 : ¬ (0 ≤ a1 ∧ a1 ≤ 3)) : eqv (Ff_water_0 a1 a2 wx0) (Fm_water_89 a1 a2 wm0) = true := by
  obtain ⟨w1, hw1⟩ := fcnt0
  obtain ⟨m1, hm1⟩ := mmet0
  obtain ⟨m2, hm2⟩ := mbad0
  obtain ⟨m3, hm3⟩ := mbadAs0 (-10)
  obtain ⟨m4, hm4⟩ := mbadAs0 (-1000)
  obtain ⟨m5, hm5⟩ := mbadAs0 (-1)
  simp only [Ff_water_0, Fsea_putDensity_1, Fm_water_89, Fm_waterTo_89, Ff_isLayer_eq, Ff_within_eq, hasCell0, Fm_isLayer_eq, isCell0, isCellOf0, in_1_6, in_1_99, in_0_9, in_0_2, in_0_99, in_0_5, in_m2_2, in_m1_1, in_1_9, in_0_3, in_0_127, in_0_8, in_0_1, in_0_4, in_0_999, in_0_40, bd_some, eq_self, if_true, if_false, one_ne, Ff_bad_0, wN, wN2, wT, wW, in_dam, in_tow, in_fis, in_cel, c2, tw0, fi0, ce0, hasThing0, isThing0, if_neg h0, hw1, hm1, hm2, hm3, hm4, hm5]
  exact eqv_some _ _ _
set_option maxHeartbeats 4000000 in
set_option maxRecDepth 100000 in
theorem Qb_2_2 (a1 a2 a3 : Int32) (h0 : 0 ≤ a1 ∧ a1 ≤ 3) (h1 : 0 ≤ a2 ∧ a2 ≤ 3) (h2 : ¬ (0 ≤ a3 ∧ a3 ≤ 9)) : eqv (Ff_thick_0 a1 a2 a3 wx0) (Fm_thick_89 a1 a2 a3 wm0) = true := by
  obtain ⟨w1, hw1⟩ := fcnt0
  obtain ⟨m1, hm1⟩ := mmet0
  obtain ⟨m2, hm2⟩ := mbad0
  obtain ⟨m3, hm3⟩ := mbadAs0 (-10)
  obtain ⟨m4, hm4⟩ := mbadAs0 (-1000)
  obtain ⟨m5, hm5⟩ := mbadAs0 (-1)
  simp only [Ff_thick_0, Fsea_putThick_1, Fm_thick_89, Fm_thickTo_89, Ff_isLayer_eq, Ff_within_eq, hasCell0, Fm_isLayer_eq, isCell0, isCellOf0, in_1_6, in_1_99, in_0_9, in_0_2, in_0_99, in_0_5, in_m2_2, in_m1_1, in_1_9, in_0_3, in_0_127, in_0_8, in_0_1, in_0_4, in_0_999, in_0_40, bd_some, eq_self, if_true, if_false, one_ne, Ff_bad_0, wN, wN2, wT, wW, in_dam, in_tow, in_fis, in_cel, c2, tw0, fi0, ce0, hasThing0, isThing0, if_pos h0, if_pos h1, if_neg h2, hw1, hm1, hm2, hm3, hm4, hm5]
  exact eqv_some _ _ _
set_option maxHeartbeats 4000000 in
set_option maxRecDepth 100000 in
theorem Qb_2_1 (a1 a2 a3 : Int32) (h0 : 0 ≤ a1 ∧ a1 ≤ 3) (h1 : ¬ (0 ≤ a2 ∧ a2 ≤ 3)) : eqv (Ff_thick_0 a1 a2 a3 wx0) (Fm_thick_89 a1 a2 a3 wm0) = true := by
  obtain ⟨w1, hw1⟩ := fcnt0
  obtain ⟨m1, hm1⟩ := mmet0
  obtain ⟨m2, hm2⟩ := mbad0
  obtain ⟨m3, hm3⟩ := mbadAs0 (-10)
  obtain ⟨m4, hm4⟩ := mbadAs0 (-1000)
  obtain ⟨m5, hm5⟩ := mbadAs0 (-1)
  simp only [Ff_thick_0, Fsea_putThick_1, Fm_thick_89, Fm_thickTo_89, Ff_isLayer_eq, Ff_within_eq, hasCell0, Fm_isLayer_eq, isCell0, isCellOf0, in_1_6, in_1_99, in_0_9, in_0_2, in_0_99, in_0_5, in_m2_2, in_m1_1, in_1_9, in_0_3, in_0_127, in_0_8, in_0_1, in_0_4, in_0_999, in_0_40, bd_some, eq_self, if_true, if_false, one_ne, Ff_bad_0, wN, wN2, wT, wW, in_dam, in_tow, in_fis, in_cel, c2, tw0, fi0, ce0, hasThing0, isThing0, if_pos h0, if_neg h1, hw1, hm1, hm2, hm3, hm4, hm5]
  exact eqv_some _ _ _
set_option maxHeartbeats 4000000 in
set_option maxRecDepth 100000 in
theorem Qb_2_0 (a1 a2 a3 : Int32) (h0 : ¬ (0 ≤ a1 ∧ a1 ≤ 3)) : eqv (Ff_thick_0 a1 a2 a3 wx0) (Fm_thick_89 a1 a2 a3 wm0) = true := by
  obtain ⟨w1, hw1⟩ := fcnt0
  obtain ⟨m1, hm1⟩ := mmet0
  obtain ⟨m2, hm2⟩ := mbad0
  obtain ⟨m3, hm3⟩ := mbadAs0 (-10)
  obtain ⟨m4, hm4⟩ := mbadAs0 (-1000)
  obtain ⟨m5, hm5⟩ := mbadAs0 (-1)
  simp only [Ff_thick_0, Fsea_putThick_1, Fm_thick_89, Fm_thickTo_89, Ff_isLayer_eq, Ff_within_eq, hasCell0, Fm_isLayer_eq, isCell0, isCellOf0, in_1_6, in_1_99, in_0_9, in_0_2, in_0_99, in_0_5, in_m2_2, in_m1_1, in_1_9, in_0_3, in_0_127, in_0_8, in_0_1, in_0_4, in_0_999, in_0_40, bd_some, eq_self, if_true, if_false, one_ne, Ff_bad_0, wN, wN2, wT, wW, in_dam, in_tow, in_fis, in_cel, c2, tw0, fi0, ce0, hasThing0, isThing0, if_neg h0, hw1, hm1, hm2, hm3, hm4, hm5]
  exact eqv_some _ _ _
set_option maxHeartbeats 4000000 in
set_option maxRecDepth 100000 in
theorem Qb_3_1 (a1 a2 : Int32) (h0 : 0 ≤ a1 ∧ a1 ≤ 2) (h1 : ¬ (0 ≤ a2 ∧ a2 ≤ 99)) : eqv (Ff_skin_0 a1 a2 wx0) (Fm_skin_89 a1 a2 wm0) = true := by
  obtain ⟨w1, hw1⟩ := fcnt0
  obtain ⟨m1, hm1⟩ := mmet0
  obtain ⟨m2, hm2⟩ := mbad0
  obtain ⟨m3, hm3⟩ := mbadAs0 (-10)
  obtain ⟨m4, hm4⟩ := mbadAs0 (-1000)
  obtain ⟨m5, hm5⟩ := mbadAs0 (-1)
  simp only [Ff_skin_0, Fsea_putSkin_1, Fm_skin_89, Fm_skinTo_89, Ff_isLayer_eq, Ff_within_eq, hasCell0, Fm_isLayer_eq, isCell0, isCellOf0, in_1_6, in_1_99, in_0_9, in_0_2, in_0_99, in_0_5, in_m2_2, in_m1_1, in_1_9, in_0_3, in_0_127, in_0_8, in_0_1, in_0_4, in_0_999, in_0_40, bd_some, eq_self, if_true, if_false, one_ne, Ff_bad_0, wN, wN2, wT, wW, in_dam, in_tow, in_fis, in_cel, c2, tw0, fi0, ce0, hasThing0, isThing0, if_pos h0, if_neg h1, hw1, hm1, hm2, hm3, hm4, hm5]
  exact eqv_some _ _ _
set_option maxHeartbeats 4000000 in
set_option maxRecDepth 100000 in
theorem Qb_3_0 (a1 a2 : Int32) (h0 : ¬ (0 ≤ a1 ∧ a1 ≤ 2)) : eqv (Ff_skin_0 a1 a2 wx0) (Fm_skin_89 a1 a2 wm0) = true := by
  obtain ⟨w1, hw1⟩ := fcnt0
  obtain ⟨m1, hm1⟩ := mmet0
  obtain ⟨m2, hm2⟩ := mbad0
  obtain ⟨m3, hm3⟩ := mbadAs0 (-10)
  obtain ⟨m4, hm4⟩ := mbadAs0 (-1000)
  obtain ⟨m5, hm5⟩ := mbadAs0 (-1)
  simp only [Ff_skin_0, Fsea_putSkin_1, Fm_skin_89, Fm_skinTo_89, Ff_isLayer_eq, Ff_within_eq, hasCell0, Fm_isLayer_eq, isCell0, isCellOf0, in_1_6, in_1_99, in_0_9, in_0_2, in_0_99, in_0_5, in_m2_2, in_m1_1, in_1_9, in_0_3, in_0_127, in_0_8, in_0_1, in_0_4, in_0_999, in_0_40, bd_some, eq_self, if_true, if_false, one_ne, Ff_bad_0, wN, wN2, wT, wW, in_dam, in_tow, in_fis, in_cel, c2, tw0, fi0, ce0, hasThing0, isThing0, if_neg h0, hw1, hm1, hm2, hm3, hm4, hm5]
  exact eqv_some _ _ _
set_option maxHeartbeats 4000000 in
set_option maxRecDepth 100000 in
theorem Qb_4_2 (a1 a2 a3 : Int32) (h0 : 0 ≤ a1 ∧ a1 ≤ 3) (h1 : 0 ≤ a2 ∧ a2 ≤ 5) (h2 : ¬ ((-2) ≤ a3 ∧ a3 ≤ 2)) : eqv (Ff_tide_0 a1 a2 a3 wx0) (Fm_tide_89 a1 a2 a3 wm0) = true := by
  obtain ⟨w1, hw1⟩ := fcnt0
  obtain ⟨m1, hm1⟩ := mmet0
  obtain ⟨m2, hm2⟩ := mbad0
  obtain ⟨m3, hm3⟩ := mbadAs0 (-10)
  obtain ⟨m4, hm4⟩ := mbadAs0 (-1000)
  obtain ⟨m5, hm5⟩ := mbadAs0 (-1)
  simp only [Ff_tide_0, Fm_tide_89, Ff_isLayer_eq, Ff_within_eq, hasCell0, Fm_isLayer_eq, isCell0, isCellOf0, in_1_6, in_1_99, in_0_9, in_0_2, in_0_99, in_0_5, in_m2_2, in_m1_1, in_1_9, in_0_3, in_0_127, in_0_8, in_0_1, in_0_4, in_0_999, in_0_40, bd_some, eq_self, if_true, if_false, one_ne, Ff_bad_0, wN, wN2, wT, wW, in_dam, in_tow, in_fis, in_cel, c2, tw0, fi0, ce0, hasThing0, isThing0, if_pos h0, if_pos h1, if_neg h2, hw1, hm1, hm2, hm3, hm4, hm5]
  exact eqv_some _ _ _
set_option maxHeartbeats 4000000 in
set_option maxRecDepth 100000 in
theorem Qb_4_1 (a1 a2 a3 : Int32) (h0 : 0 ≤ a1 ∧ a1 ≤ 3) (h1 : ¬ (0 ≤ a2 ∧ a2 ≤ 5)) : eqv (Ff_tide_0 a1 a2 a3 wx0) (Fm_tide_89 a1 a2 a3 wm0) = true := by
  obtain ⟨w1, hw1⟩ := fcnt0
  obtain ⟨m1, hm1⟩ := mmet0
  obtain ⟨m2, hm2⟩ := mbad0
  obtain ⟨m3, hm3⟩ := mbadAs0 (-10)
  obtain ⟨m4, hm4⟩ := mbadAs0 (-1000)
  obtain ⟨m5, hm5⟩ := mbadAs0 (-1)
  simp only [Ff_tide_0, Fm_tide_89, Ff_isLayer_eq, Ff_within_eq, hasCell0, Fm_isLayer_eq, isCell0, isCellOf0, in_1_6, in_1_99, in_0_9, in_0_2, in_0_99, in_0_5, in_m2_2, in_m1_1, in_1_9, in_0_3, in_0_127, in_0_8, in_0_1, in_0_4, in_0_999, in_0_40, bd_some, eq_self, if_true, if_false, one_ne, Ff_bad_0, wN, wN2, wT, wW, in_dam, in_tow, in_fis, in_cel, c2, tw0, fi0, ce0, hasThing0, isThing0, if_pos h0, if_neg h1, hw1, hm1, hm2, hm3, hm4, hm5]
  exact eqv_some _ _ _
set_option maxHeartbeats 4000000 in
set_option maxRecDepth 100000 in
theorem Qb_4_0 (a1 a2 a3 : Int32) (h0 : ¬ (0 ≤ a1 ∧ a1 ≤ 3)) : eqv (Ff_tide_0 a1 a2 a3 wx0) (Fm_tide_89 a1 a2 a3 wm0) = true := by
  obtain ⟨w1, hw1⟩ := fcnt0
  obtain ⟨m1, hm1⟩ := mmet0
  obtain ⟨m2, hm2⟩ := mbad0
  obtain ⟨m3, hm3⟩ := mbadAs0 (-10)
  obtain ⟨m4, hm4⟩ := mbadAs0 (-1000)
  obtain ⟨m5, hm5⟩ := mbadAs0 (-1)
  simp only [Ff_tide_0, Fm_tide_89, Ff_isLayer_eq, Ff_within_eq, hasCell0, Fm_isLayer_eq, isCell0, isCellOf0, in_1_6, in_1_99, in_0_9, in_0_2, in_0_99, in_0_5, in_m2_2, in_m1_1, in_1_9, in_0_3, in_0_127, in_0_8, in_0_1, in_0_4, in_0_999, in_0_40, bd_some, eq_self, if_true, if_false, one_ne, Ff_bad_0, wN, wN2, wT, wW, in_dam, in_tow, in_fis, in_cel, c2, tw0, fi0, ce0, hasThing0, isThing0, if_neg h0, hw1, hm1, hm2, hm3, hm4, hm5]
  exact eqv_some _ _ _
set_option maxHeartbeats 4000000 in
set_option maxRecDepth 100000 in
theorem Qb_5_1 (a1 a2 : Int32) (h0 : 0 ≤ a1 ∧ a1 ≤ 3) (h1 : ¬ ((-1) ≤ a2 ∧ a2 ≤ 1)) : eqv (Ff_current_0 a1 a2 wx0) (Fm_current_89 a1 a2 wm0) = true := by
  obtain ⟨w1, hw1⟩ := fcnt0
  obtain ⟨m1, hm1⟩ := mmet0
  obtain ⟨m2, hm2⟩ := mbad0
  obtain ⟨m3, hm3⟩ := mbadAs0 (-10)
  obtain ⟨m4, hm4⟩ := mbadAs0 (-1000)
  obtain ⟨m5, hm5⟩ := mbadAs0 (-1)
  simp only [Ff_current_0, Fm_current_89, Ff_isLayer_eq, Ff_within_eq, hasCell0, Fm_isLayer_eq, isCell0, isCellOf0, in_1_6, in_1_99, in_0_9, in_0_2, in_0_99, in_0_5, in_m2_2, in_m1_1, in_1_9, in_0_3, in_0_127, in_0_8, in_0_1, in_0_4, in_0_999, in_0_40, bd_some, eq_self, if_true, if_false, one_ne, Ff_bad_0, wN, wN2, wT, wW, in_dam, in_tow, in_fis, in_cel, c2, tw0, fi0, ce0, hasThing0, isThing0, if_pos h0, if_neg h1, hw1, hm1, hm2, hm3, hm4, hm5]
  exact eqv_some _ _ _
set_option maxHeartbeats 4000000 in
set_option maxRecDepth 100000 in
theorem Qb_5_0 (a1 a2 : Int32) (h0 : ¬ (0 ≤ a1 ∧ a1 ≤ 3)) : eqv (Ff_current_0 a1 a2 wx0) (Fm_current_89 a1 a2 wm0) = true := by
  obtain ⟨w1, hw1⟩ := fcnt0
  obtain ⟨m1, hm1⟩ := mmet0
  obtain ⟨m2, hm2⟩ := mbad0
  obtain ⟨m3, hm3⟩ := mbadAs0 (-10)
  obtain ⟨m4, hm4⟩ := mbadAs0 (-1000)
  obtain ⟨m5, hm5⟩ := mbadAs0 (-1)
  simp only [Ff_current_0, Fm_current_89, Ff_isLayer_eq, Ff_within_eq, hasCell0, Fm_isLayer_eq, isCell0, isCellOf0, in_1_6, in_1_99, in_0_9, in_0_2, in_0_99, in_0_5, in_m2_2, in_m1_1, in_1_9, in_0_3, in_0_127, in_0_8, in_0_1, in_0_4, in_0_999, in_0_40, bd_some, eq_self, if_true, if_false, one_ne, Ff_bad_0, wN, wN2, wT, wW, in_dam, in_tow, in_fis, in_cel, c2, tw0, fi0, ce0, hasThing0, isThing0, if_neg h0, hw1, hm1, hm2, hm3, hm4, hm5]
  exact eqv_some _ _ _
set_option maxHeartbeats 4000000 in
set_option maxRecDepth 100000 in
theorem Qb_6_2 (a1 a2 a3 : Int32) (h0 : 0 ≤ a1 ∧ a1 ≤ 5) (h1 : 1 ≤ a2 ∧ a2 ≤ 99) (h2 : ¬ (1 ≤ a3 ∧ a3 ≤ 9)) : eqv (Ff_thing_0 a1 a2 a3 wx0) (Fm_thing_89 a1 a2 a3 wm0) = true := by
  obtain ⟨w1, hw1⟩ := fcnt0
  obtain ⟨m1, hm1⟩ := mmet0
  obtain ⟨m2, hm2⟩ := mbad0
  obtain ⟨m3, hm3⟩ := mbadAs0 (-10)
  obtain ⟨m4, hm4⟩ := mbadAs0 (-1000)
  obtain ⟨m5, hm5⟩ := mbadAs0 (-1)
  simp only [Ff_thing_0, Fthg_add_7, Fm_thing_89, Fm_thingTo_89, Ff_isLayer_eq, Ff_within_eq, hasCell0, Fm_isLayer_eq, isCell0, isCellOf0, in_1_6, in_1_99, in_0_9, in_0_2, in_0_99, in_0_5, in_m2_2, in_m1_1, in_1_9, in_0_3, in_0_127, in_0_8, in_0_1, in_0_4, in_0_999, in_0_40, bd_some, eq_self, if_true, if_false, one_ne, Ff_bad_0, wN, wN2, wT, wW, in_dam, in_tow, in_fis, in_cel, c2, tw0, fi0, ce0, hasThing0, isThing0, if_pos h0, if_pos h1, if_neg h2, hw1, hm1, hm2, hm3, hm4, hm5]
  exact eqv_some _ _ _
set_option maxHeartbeats 4000000 in
set_option maxRecDepth 100000 in
theorem Qb_6_1 (a1 a2 a3 : Int32) (h0 : 0 ≤ a1 ∧ a1 ≤ 5) (h1 : ¬ (1 ≤ a2 ∧ a2 ≤ 99)) : eqv (Ff_thing_0 a1 a2 a3 wx0) (Fm_thing_89 a1 a2 a3 wm0) = true := by
  obtain ⟨w1, hw1⟩ := fcnt0
  obtain ⟨m1, hm1⟩ := mmet0
  obtain ⟨m2, hm2⟩ := mbad0
  obtain ⟨m3, hm3⟩ := mbadAs0 (-10)
  obtain ⟨m4, hm4⟩ := mbadAs0 (-1000)
  obtain ⟨m5, hm5⟩ := mbadAs0 (-1)
  simp only [Ff_thing_0, Fthg_add_7, Fm_thing_89, Fm_thingTo_89, Ff_isLayer_eq, Ff_within_eq, hasCell0, Fm_isLayer_eq, isCell0, isCellOf0, in_1_6, in_1_99, in_0_9, in_0_2, in_0_99, in_0_5, in_m2_2, in_m1_1, in_1_9, in_0_3, in_0_127, in_0_8, in_0_1, in_0_4, in_0_999, in_0_40, bd_some, eq_self, if_true, if_false, one_ne, Ff_bad_0, wN, wN2, wT, wW, in_dam, in_tow, in_fis, in_cel, c2, tw0, fi0, ce0, hasThing0, isThing0, if_pos h0, if_neg h1, hw1, hm1, hm2, hm3, hm4, hm5]
  exact eqv_some _ _ _
set_option maxHeartbeats 4000000 in
set_option maxRecDepth 100000 in
theorem Qb_6_0 (a1 a2 a3 : Int32) (h0 : ¬ (0 ≤ a1 ∧ a1 ≤ 5)) : eqv (Ff_thing_0 a1 a2 a3 wx0) (Fm_thing_89 a1 a2 a3 wm0) = true := by
  obtain ⟨w1, hw1⟩ := fcnt0
  obtain ⟨m1, hm1⟩ := mmet0
  obtain ⟨m2, hm2⟩ := mbad0
  obtain ⟨m3, hm3⟩ := mbadAs0 (-10)
  obtain ⟨m4, hm4⟩ := mbadAs0 (-1000)
  obtain ⟨m5, hm5⟩ := mbadAs0 (-1)
  simp only [Ff_thing_0, Fthg_add_7, Fm_thing_89, Fm_thingTo_89, Ff_isLayer_eq, Ff_within_eq, hasCell0, Fm_isLayer_eq, isCell0, isCellOf0, in_1_6, in_1_99, in_0_9, in_0_2, in_0_99, in_0_5, in_m2_2, in_m1_1, in_1_9, in_0_3, in_0_127, in_0_8, in_0_1, in_0_4, in_0_999, in_0_40, bd_some, eq_self, if_true, if_false, one_ne, Ff_bad_0, wN, wN2, wT, wW, in_dam, in_tow, in_fis, in_cel, c2, tw0, fi0, ce0, hasThing0, isThing0, if_neg h0, hw1, hm1, hm2, hm3, hm4, hm5]
  exact eqv_some _ _ _
set_option maxHeartbeats 4000000 in
set_option maxRecDepth 100000 in
theorem Qs_7 (a1 a2 : Int32)  : eqv (Ff_ballast_0 a1 a2 wx0) (Fm_ballast_89 a1 a2 wm0) = true := by
  obtain ⟨w1, hw1⟩ := fcnt0
  obtain ⟨m1, hm1⟩ := mmet0
  obtain ⟨m2, hm2⟩ := mbad0
  obtain ⟨m3, hm3⟩ := mbadAs0 (-10)
  obtain ⟨m4, hm4⟩ := mbadAs0 (-1000)
  obtain ⟨m5, hm5⟩ := mbadAs0 (-1)
  simp only [Ff_ballast_0, Fm_ballast_89, Ff_isLayer_eq, Ff_within_eq, hasCell0, Fm_isLayer_eq, isCell0, isCellOf0, in_1_6, in_1_99, in_0_9, in_0_2, in_0_99, in_0_5, in_m2_2, in_m1_1, in_1_9, in_0_3, in_0_127, in_0_8, in_0_1, in_0_4, in_0_999, in_0_40, bd_some, eq_self, if_true, if_false, one_ne, Ff_bad_0, wN, wN2, wT, wW, in_dam, in_tow, in_fis, in_cel, c2, tw0, fi0, ce0, hasThing0, isThing0, hw1, hm1, hm2, hm3, hm4, hm5]
  exact eqv_some _ _ _
set_option maxHeartbeats 4000000 in
set_option maxRecDepth 100000 in
theorem Qb_10t_0 (a1 : Int32) (h0 : ¬ (0 ≤ a1 ∧ a1 ≤ 2)) : eqv (Ff_dam_0 a1 0 wx0) (Fm_dam_89 a1 0 wm0) = true := by
  obtain ⟨w1, hw1⟩ := fcnt0
  obtain ⟨m1, hm1⟩ := mmet0
  obtain ⟨m2, hm2⟩ := mbad0
  obtain ⟨m3, hm3⟩ := mbadAs0 (-10)
  obtain ⟨m4, hm4⟩ := mbadAs0 (-1000)
  obtain ⟨m5, hm5⟩ := mbadAs0 (-1)
  simp only [Ff_dam_0, Fsea_putDam_1, Fm_dam_89, Fm_damTo_89, Ff_isLayer_eq, Ff_within_eq, hasCell0, Fm_isLayer_eq, isCell0, isCellOf0, in_1_6, in_1_99, in_0_9, in_0_2, in_0_99, in_0_5, in_m2_2, in_m1_1, in_1_9, in_0_3, in_0_127, in_0_8, in_0_1, in_0_4, in_0_999, in_0_40, bd_some, eq_self, if_true, if_false, one_ne, Ff_bad_0, wN, wN2, wT, wW, in_dam, in_tow, in_fis, in_cel, c2, tw0, fi0, ce0, hasThing0, isThing0, if_neg h0, hw1, hm1, hm2, hm3, hm4, hm5]
  exact eqv_some _ _ _
set_option maxHeartbeats 4000000 in
set_option maxRecDepth 100000 in
theorem Qb_10f_0 (a1 : Int32) (h0 : ¬ (0 ≤ a1 ∧ a1 ≤ 2)) : eqv (Ff_dam_0 a1 1 wx0) (Fm_dam_89 a1 1 wm0) = true := by
  obtain ⟨w1, hw1⟩ := fcnt0
  obtain ⟨m1, hm1⟩ := mmet0
  obtain ⟨m2, hm2⟩ := mbad0
  obtain ⟨m3, hm3⟩ := mbadAs0 (-10)
  obtain ⟨m4, hm4⟩ := mbadAs0 (-1000)
  obtain ⟨m5, hm5⟩ := mbadAs0 (-1)
  simp only [Ff_dam_0, Fsea_putDam_1, Fm_dam_89, Fm_damTo_89, Ff_isLayer_eq, Ff_within_eq, hasCell0, Fm_isLayer_eq, isCell0, isCellOf0, in_1_6, in_1_99, in_0_9, in_0_2, in_0_99, in_0_5, in_m2_2, in_m1_1, in_1_9, in_0_3, in_0_127, in_0_8, in_0_1, in_0_4, in_0_999, in_0_40, bd_some, eq_self, if_true, if_false, one_ne, Ff_bad_0, wN, wN2, wT, wW, in_dam, in_tow, in_fis, in_cel, c2, tw0, fi0, ce0, hasThing0, isThing0, if_neg h0, hw1, hm1, hm2, hm3, hm4, hm5]
  exact eqv_some _ _ _
set_option maxHeartbeats 4000000 in
set_option maxRecDepth 100000 in
theorem Qb_11t_0 (a1 : Int32) (h0 : ¬ (0 ≤ a1 ∧ a1 ≤ 3)) : eqv (Ff_drop_0 a1 0 wx0) (Fm_drop_89 a1 0 wm0) = true := by
  obtain ⟨w1, hw1⟩ := fcnt0
  obtain ⟨m1, hm1⟩ := mmet0
  obtain ⟨m2, hm2⟩ := mbad0
  obtain ⟨m3, hm3⟩ := mbadAs0 (-10)
  obtain ⟨m4, hm4⟩ := mbadAs0 (-1000)
  obtain ⟨m5, hm5⟩ := mbadAs0 (-1)
  simp only [Ff_drop_0, Fsea_addDrop_1, Fm_drop_89, Ff_isLayer_eq, Ff_within_eq, hasCell0, Fm_isLayer_eq, isCell0, isCellOf0, in_1_6, in_1_99, in_0_9, in_0_2, in_0_99, in_0_5, in_m2_2, in_m1_1, in_1_9, in_0_3, in_0_127, in_0_8, in_0_1, in_0_4, in_0_999, in_0_40, bd_some, eq_self, if_true, if_false, one_ne, Ff_bad_0, wN, wN2, wT, wW, in_dam, in_tow, in_fis, in_cel, c2, tw0, fi0, ce0, hasThing0, isThing0, if_neg h0, hw1, hm1, hm2, hm3, hm4, hm5]
  exact eqv_some _ _ _
set_option maxHeartbeats 4000000 in
set_option maxRecDepth 100000 in
theorem Qb_11f_0 (a1 : Int32) (h0 : ¬ (0 ≤ a1 ∧ a1 ≤ 3)) : eqv (Ff_drop_0 a1 1 wx0) (Fm_drop_89 a1 1 wm0) = true := by
  obtain ⟨w1, hw1⟩ := fcnt0
  obtain ⟨m1, hm1⟩ := mmet0
  obtain ⟨m2, hm2⟩ := mbad0
  obtain ⟨m3, hm3⟩ := mbadAs0 (-10)
  obtain ⟨m4, hm4⟩ := mbadAs0 (-1000)
  obtain ⟨m5, hm5⟩ := mbadAs0 (-1)
  simp only [Ff_drop_0, Fsea_addDrop_1, Fm_drop_89, Ff_isLayer_eq, Ff_within_eq, hasCell0, Fm_isLayer_eq, isCell0, isCellOf0, in_1_6, in_1_99, in_0_9, in_0_2, in_0_99, in_0_5, in_m2_2, in_m1_1, in_1_9, in_0_3, in_0_127, in_0_8, in_0_1, in_0_4, in_0_999, in_0_40, bd_some, eq_self, if_true, if_false, one_ne, Ff_bad_0, wN, wN2, wT, wW, in_dam, in_tow, in_fis, in_cel, c2, tw0, fi0, ce0, hasThing0, isThing0, if_neg h0, hw1, hm1, hm2, hm3, hm4, hm5]
  exact eqv_some _ _ _
set_option maxHeartbeats 4000000 in
set_option maxRecDepth 100000 in
theorem Qb_12_0 (a1 : Int32) (h0 : ¬ (0 ≤ a1 ∧ a1 ≤ 3)) : eqv (Ff_clean_0 a1 wx0) (Fm_clean_89 a1 wm0) = true := by
  obtain ⟨w1, hw1⟩ := fcnt0
  obtain ⟨m1, hm1⟩ := mmet0
  obtain ⟨m2, hm2⟩ := mbad0
  obtain ⟨m3, hm3⟩ := mbadAs0 (-10)
  obtain ⟨m4, hm4⟩ := mbadAs0 (-1000)
  obtain ⟨m5, hm5⟩ := mbadAs0 (-1)
  simp only [Ff_clean_0, Fsea_empty_1, Fm_clean_89, Ff_isLayer_eq, Ff_within_eq, hasCell0, Fm_isLayer_eq, isCell0, isCellOf0, in_1_6, in_1_99, in_0_9, in_0_2, in_0_99, in_0_5, in_m2_2, in_m1_1, in_1_9, in_0_3, in_0_127, in_0_8, in_0_1, in_0_4, in_0_999, in_0_40, bd_some, eq_self, if_true, if_false, one_ne, Ff_bad_0, wN, wN2, wT, wW, in_dam, in_tow, in_fis, in_cel, c2, tw0, fi0, ce0, hasThing0, isThing0, if_neg h0, hw1, hm1, hm2, hm3, hm4, hm5]
  exact eqv_some _ _ _
set_option maxHeartbeats 4000000 in
set_option maxRecDepth 100000 in
theorem Qb_13_0 (a1 : Int32) (h0 : ¬ (0 ≤ a1 ∧ a1 ≤ 127)) : eqv (Ff_type_0 a1 wx0) (Fm_type_89 a1 wm0) = true := by
  obtain ⟨w1, hw1⟩ := fcnt0
  obtain ⟨m1, hm1⟩ := mmet0
  obtain ⟨m2, hm2⟩ := mbad0
  obtain ⟨m3, hm3⟩ := mbadAs0 (-10)
  obtain ⟨m4, hm4⟩ := mbadAs0 (-1000)
  obtain ⟨m5, hm5⟩ := mbadAs0 (-1)
  simp only [Ff_type_0, Ftxt_add_78, Fm_type_89, Ff_isLayer_eq, Ff_within_eq, hasCell0, Fm_isLayer_eq, isCell0, isCellOf0, in_1_6, in_1_99, in_0_9, in_0_2, in_0_99, in_0_5, in_m2_2, in_m1_1, in_1_9, in_0_3, in_0_127, in_0_8, in_0_1, in_0_4, in_0_999, in_0_40, bd_some, eq_self, if_true, if_false, one_ne, Ff_bad_0, wN, wN2, wT, wW, in_dam, in_tow, in_fis, in_cel, c2, tw0, fi0, ce0, hasThing0, isThing0, if_neg h0, hw1, hm1, hm2, hm3, hm4, hm5]
  exact eqv_some _ _ _
set_option maxHeartbeats 4000000 in
set_option maxRecDepth 100000 in
theorem Qb_16_0 (a1 : Int32) (h0 : ¬ (1 ≤ a1 ∧ a1 ≤ 99)) : eqv (Ff_hours_0 a1 wx0) (Fm_hours_89 4200 a1 wm0) = true := by
  obtain ⟨w1, hw1⟩ := fcnt0
  obtain ⟨m1, hm1⟩ := mmet0
  obtain ⟨m2, hm2⟩ := mbad0
  obtain ⟨m3, hm3⟩ := mbadAs0 (-10)
  obtain ⟨m4, hm4⟩ := mbadAs0 (-1000)
  obtain ⟨m5, hm5⟩ := mbadAs0 (-1)
  simp only [Ff_hours_0, Fsea_goOn_1, Fm_hours_89, Ff_isLayer_eq, Ff_within_eq, hasCell0, Fm_isLayer_eq, isCell0, isCellOf0, in_1_6, in_1_99, in_0_9, in_0_2, in_0_99, in_0_5, in_m2_2, in_m1_1, in_1_9, in_0_3, in_0_127, in_0_8, in_0_1, in_0_4, in_0_999, in_0_40, bd_some, eq_self, if_true, if_false, one_ne, Ff_bad_0, wN, wN2, wT, wW, in_dam, in_tow, in_fis, in_cel, c2, tw0, fi0, ce0, hasThing0, isThing0, if_neg h0, hw1, hm1, hm2, hm3, hm4, hm5]
  exact eqv_some _ _ _
set_option maxHeartbeats 4000000 in
set_option maxRecDepth 100000 in
theorem Qs_18 (a1 a2 : Int32)  : eqv (Ff_of_0 a1 a2 wx0) (Fm_of_89 a1 a2 wm0) = true := by
  obtain ⟨w1, hw1⟩ := fcnt0
  obtain ⟨m1, hm1⟩ := mmet0
  obtain ⟨m2, hm2⟩ := mbad0
  obtain ⟨m3, hm3⟩ := mbadAs0 (-10)
  obtain ⟨m4, hm4⟩ := mbadAs0 (-1000)
  obtain ⟨m5, hm5⟩ := mbadAs0 (-1)
  simp only [Ff_of_0, Fm_of_89, Ff_isLayer_eq, Ff_within_eq, hasCell0, Fm_isLayer_eq, isCell0, isCellOf0, in_1_6, in_1_99, in_0_9, in_0_2, in_0_99, in_0_5, in_m2_2, in_m1_1, in_1_9, in_0_3, in_0_127, in_0_8, in_0_1, in_0_4, in_0_999, in_0_40, bd_some, eq_self, if_true, if_false, one_ne, Ff_bad_0, wN, wN2, wT, wW, in_dam, in_tow, in_fis, in_cel, c2, tw0, fi0, ce0, hasThing0, isThing0, hw1, hm1, hm2, hm3, hm4, hm5]
  exact eqv_some _ _ _
set_option maxHeartbeats 4000000 in
set_option maxRecDepth 100000 in
theorem Qb_19_1 (a1 a2 : Int32) (h0 : 0 ≤ a1 ∧ a1 ≤ 3) (h1 : ¬ (0 ≤ a2 ∧ a2 ≤ 3)) : eqv (Ff_deep_0 a1 a2 wx0) (Fm_deep_89 a1 a2 wm0) = true := by
  obtain ⟨w1, hw1⟩ := fcnt0
  obtain ⟨m1, hm1⟩ := mmet0
  obtain ⟨m2, hm2⟩ := mbad0
  obtain ⟨m3, hm3⟩ := mbadAs0 (-10)
  obtain ⟨m4, hm4⟩ := mbadAs0 (-1000)
  obtain ⟨m5, hm5⟩ := mbadAs0 (-1)
  simp only [Ff_deep_0, Fm_deep_89, Ff_isLayer_eq, Ff_within_eq, hasCell0, Fm_isLayer_eq, isCell0, isCellOf0, in_1_6, in_1_99, in_0_9, in_0_2, in_0_99, in_0_5, in_m2_2, in_m1_1, in_1_9, in_0_3, in_0_127, in_0_8, in_0_1, in_0_4, in_0_999, in_0_40, bd_some, eq_self, if_true, if_false, one_ne, Ff_bad_0, wN, wN2, wT, wW, in_dam, in_tow, in_fis, in_cel, c2, tw0, fi0, ce0, hasThing0, isThing0, if_pos h0, if_neg h1, hw1, hm1, hm2, hm3, hm4, hm5]
  exact eqv_some _ _ _
set_option maxHeartbeats 4000000 in
set_option maxRecDepth 100000 in
theorem Qb_19_0 (a1 a2 : Int32) (h0 : ¬ (0 ≤ a1 ∧ a1 ≤ 3)) : eqv (Ff_deep_0 a1 a2 wx0) (Fm_deep_89 a1 a2 wm0) = true := by
  obtain ⟨w1, hw1⟩ := fcnt0
  obtain ⟨m1, hm1⟩ := mmet0
  obtain ⟨m2, hm2⟩ := mbad0
  obtain ⟨m3, hm3⟩ := mbadAs0 (-10)
  obtain ⟨m4, hm4⟩ := mbadAs0 (-1000)
  obtain ⟨m5, hm5⟩ := mbadAs0 (-1)
  simp only [Ff_deep_0, Fm_deep_89, Ff_isLayer_eq, Ff_within_eq, hasCell0, Fm_isLayer_eq, isCell0, isCellOf0, in_1_6, in_1_99, in_0_9, in_0_2, in_0_99, in_0_5, in_m2_2, in_m1_1, in_1_9, in_0_3, in_0_127, in_0_8, in_0_1, in_0_4, in_0_999, in_0_40, bd_some, eq_self, if_true, if_false, one_ne, Ff_bad_0, wN, wN2, wT, wW, in_dam, in_tow, in_fis, in_cel, c2, tw0, fi0, ce0, hasThing0, isThing0, if_neg h0, hw1, hm1, hm2, hm3, hm4, hm5]
  exact eqv_some _ _ _
set_option maxHeartbeats 4000000 in
set_option maxRecDepth 100000 in
theorem Qs_20 (a1 a2 a3 : Int32)  : eqv (Ff_rests_0 4200 a1 a2 a3 wx0) (Fm_rests_89 4200 a1 a2 a3 wm0) = true := by
  obtain ⟨w1, hw1⟩ := fcnt0
  obtain ⟨m1, hm1⟩ := mmet0
  obtain ⟨m2, hm2⟩ := mbad0
  obtain ⟨m3, hm3⟩ := mbadAs0 (-10)
  obtain ⟨m4, hm4⟩ := mbadAs0 (-1000)
  obtain ⟨m5, hm5⟩ := mbadAs0 (-1)
  simp only [Ff_rests_0, Fm_rests_89, Ff_isLayer_eq, Ff_within_eq, hasCell0, Fm_isLayer_eq, isCell0, isCellOf0, in_1_6, in_1_99, in_0_9, in_0_2, in_0_99, in_0_5, in_m2_2, in_m1_1, in_1_9, in_0_3, in_0_127, in_0_8, in_0_1, in_0_4, in_0_999, in_0_40, bd_some, eq_self, if_true, if_false, one_ne, Ff_bad_0, wN, wN2, wT, wW, in_dam, in_tow, in_fis, in_cel, c2, tw0, fi0, ce0, hasThing0, isThing0, hw1, hm1, hm2, hm3, hm4, hm5]
  exact eqv_some _ _ _
set_option maxHeartbeats 4000000 in
set_option maxRecDepth 100000 in
theorem Qs_21 (a1 a2 a3 : Int32)  : eqv (Ff_sink_0 4200 a1 a2 a3 wx0) (Fm_sink_89 4200 a1 a2 a3 wm0) = true := by
  obtain ⟨w1, hw1⟩ := fcnt0
  obtain ⟨m1, hm1⟩ := mmet0
  obtain ⟨m2, hm2⟩ := mbad0
  obtain ⟨m3, hm3⟩ := mbadAs0 (-10)
  obtain ⟨m4, hm4⟩ := mbadAs0 (-1000)
  obtain ⟨m5, hm5⟩ := mbadAs0 (-1)
  simp only [Ff_sink_0, Ff_takesBallast_0, Fm_sink_89, Fm_isLoaded_89, Ff_isLayer_eq, Ff_within_eq, hasCell0, Fm_isLayer_eq, isCell0, isCellOf0, in_1_6, in_1_99, in_0_9, in_0_2, in_0_99, in_0_5, in_m2_2, in_m1_1, in_1_9, in_0_3, in_0_127, in_0_8, in_0_1, in_0_4, in_0_999, in_0_40, bd_some, eq_self, if_true, if_false, one_ne, Ff_bad_0, wN, wN2, wT, wW, in_dam, in_tow, in_fis, in_cel, c2, tw0, fi0, ce0, hasThing0, isThing0, hw1, hm1, hm2, hm3, hm4, hm5]
  exact eqv_some _ _ _
set_option maxHeartbeats 4000000 in
set_option maxRecDepth 100000 in
theorem Qs_22 (a1 a2 : Int32)  : eqv (Ff_holds_0 4200 a1 a2 wx0) (Fm_holds_89 4200 a1 a2 wm0) = true := by
  obtain ⟨w1, hw1⟩ := fcnt0
  obtain ⟨m1, hm1⟩ := mmet0
  obtain ⟨m2, hm2⟩ := mbad0
  obtain ⟨m3, hm3⟩ := mbadAs0 (-10)
  obtain ⟨m4, hm4⟩ := mbadAs0 (-1000)
  obtain ⟨m5, hm5⟩ := mbadAs0 (-1)
  simp only [Ff_holds_0, Ff_takesBallast_0, Fm_holds_89, Fm_isLoaded_89, Ff_isLayer_eq, Ff_within_eq, hasCell0, Fm_isLayer_eq, isCell0, isCellOf0, in_1_6, in_1_99, in_0_9, in_0_2, in_0_99, in_0_5, in_m2_2, in_m1_1, in_1_9, in_0_3, in_0_127, in_0_8, in_0_1, in_0_4, in_0_999, in_0_40, bd_some, eq_self, if_true, if_false, one_ne, Ff_bad_0, wN, wN2, wT, wW, in_dam, in_tow, in_fis, in_cel, c2, tw0, fi0, ce0, hasThing0, isThing0, hw1, hm1, hm2, hm3, hm4, hm5]
  exact eqv_some _ _ _
set_option maxHeartbeats 4000000 in
set_option maxRecDepth 100000 in
theorem Qs_23 (a1 a2 a3 : Int32)  : eqv (Ff_bestHour_0 4200 a1 a2 a3 wx0) (Fm_bestHour_89 4200 a1 a2 a3 wm0) = true := by
  obtain ⟨w1, hw1⟩ := fcnt0
  obtain ⟨m1, hm1⟩ := mmet0
  obtain ⟨m2, hm2⟩ := mbad0
  obtain ⟨m3, hm3⟩ := mbadAs0 (-10)
  obtain ⟨m4, hm4⟩ := mbadAs0 (-1000)
  obtain ⟨m5, hm5⟩ := mbadAs0 (-1)
  simp only [Ff_bestHour_0, Ff_takesBallast_0, Fm_bestHour_89, Fm_isLoaded_89, Ff_isLayer_eq, Ff_within_eq, hasCell0, Fm_isLayer_eq, isCell0, isCellOf0, in_1_6, in_1_99, in_0_9, in_0_2, in_0_99, in_0_5, in_m2_2, in_m1_1, in_1_9, in_0_3, in_0_127, in_0_8, in_0_1, in_0_4, in_0_999, in_0_40, bd_some, eq_self, if_true, if_false, one_ne, Ff_bad_0, wN, wN2, wT, wW, in_dam, in_tow, in_fis, in_cel, c2, tw0, fi0, ce0, hasThing0, isThing0, hw1, hm1, hm2, hm3, hm4, hm5]
  exact eqv_some _ _ _
set_option maxHeartbeats 4000000 in
set_option maxRecDepth 100000 in
theorem Qs_25 (a1 : Int32)  : eqv (Ff_net_0 4200 a1 wx0) (Fm_net_89 4200 a1 wm0) = true := by
  obtain ⟨w1, hw1⟩ := fcnt0
  obtain ⟨m1, hm1⟩ := mmet0
  obtain ⟨m2, hm2⟩ := mbad0
  obtain ⟨m3, hm3⟩ := mbadAs0 (-10)
  obtain ⟨m4, hm4⟩ := mbadAs0 (-1000)
  obtain ⟨m5, hm5⟩ := mbadAs0 (-1)
  simp only [Ff_net_0, Fm_net_89, Ff_isLayer_eq, Ff_within_eq, hasCell0, Fm_isLayer_eq, isCell0, isCellOf0, in_1_6, in_1_99, in_0_9, in_0_2, in_0_99, in_0_5, in_m2_2, in_m1_1, in_1_9, in_0_3, in_0_127, in_0_8, in_0_1, in_0_4, in_0_999, in_0_40, bd_some, eq_self, if_true, if_false, one_ne, Ff_bad_0, wN, wN2, wT, wW, in_dam, in_tow, in_fis, in_cel, c2, tw0, fi0, ce0, hasThing0, isThing0, if_neg (no_m1 a1), hw1, hm1, hm2, hm3, hm4, hm5]
  exact eqv_some _ _ _
set_option maxHeartbeats 4000000 in
set_option maxRecDepth 100000 in
theorem Qb_28_2 (a1 a2 a3 : Int32) (h0 : 0 ≤ a1 ∧ a1 ≤ 99) (h1 : 0 ≤ a2 ∧ a2 ≤ 3) (h2 : ¬ (0 ≤ a3 ∧ a3 ≤ 1)) : eqv (Ff_shaken_0 4200 a1 a2 a3 wx0) (Fm_shaken_89 4200 a1 a2 a3 wm0) = true := by
  obtain ⟨w1, hw1⟩ := fcnt0
  obtain ⟨m1, hm1⟩ := mmet0
  obtain ⟨m2, hm2⟩ := mbad0
  obtain ⟨m3, hm3⟩ := mbadAs0 (-10)
  obtain ⟨m4, hm4⟩ := mbadAs0 (-1000)
  obtain ⟨m5, hm5⟩ := mbadAs0 (-1)
  simp only [Ff_shaken_0, Fm_shaken_89, Ff_isLayer_eq, Ff_within_eq, hasCell0, Fm_isLayer_eq, isCell0, isCellOf0, in_1_6, in_1_99, in_0_9, in_0_2, in_0_99, in_0_5, in_m2_2, in_m1_1, in_1_9, in_0_3, in_0_127, in_0_8, in_0_1, in_0_4, in_0_999, in_0_40, bd_some, eq_self, if_true, if_false, one_ne, Ff_bad_0, wN, wN2, wT, wW, in_dam, in_tow, in_fis, in_cel, c2, tw0, fi0, ce0, hasThing0, isThing0, if_pos h0, if_pos h1, if_neg h2, hw1, hm1, hm2, hm3, hm4, hm5]
  exact eqv_some _ _ _
set_option maxHeartbeats 4000000 in
set_option maxRecDepth 100000 in
theorem Qb_28_1 (a1 a2 a3 : Int32) (h0 : 0 ≤ a1 ∧ a1 ≤ 99) (h1 : ¬ (0 ≤ a2 ∧ a2 ≤ 3)) : eqv (Ff_shaken_0 4200 a1 a2 a3 wx0) (Fm_shaken_89 4200 a1 a2 a3 wm0) = true := by
  obtain ⟨w1, hw1⟩ := fcnt0
  obtain ⟨m1, hm1⟩ := mmet0
  obtain ⟨m2, hm2⟩ := mbad0
  obtain ⟨m3, hm3⟩ := mbadAs0 (-10)
  obtain ⟨m4, hm4⟩ := mbadAs0 (-1000)
  obtain ⟨m5, hm5⟩ := mbadAs0 (-1)
  simp only [Ff_shaken_0, Fm_shaken_89, Ff_isLayer_eq, Ff_within_eq, hasCell0, Fm_isLayer_eq, isCell0, isCellOf0, in_1_6, in_1_99, in_0_9, in_0_2, in_0_99, in_0_5, in_m2_2, in_m1_1, in_1_9, in_0_3, in_0_127, in_0_8, in_0_1, in_0_4, in_0_999, in_0_40, bd_some, eq_self, if_true, if_false, one_ne, Ff_bad_0, wN, wN2, wT, wW, in_dam, in_tow, in_fis, in_cel, c2, tw0, fi0, ce0, hasThing0, isThing0, if_pos h0, if_neg h1, hw1, hm1, hm2, hm3, hm4, hm5]
  exact eqv_some _ _ _
set_option maxHeartbeats 4000000 in
set_option maxRecDepth 100000 in
theorem Qb_28_0 (a1 a2 a3 : Int32) (h0 : ¬ (0 ≤ a1 ∧ a1 ≤ 99)) : eqv (Ff_shaken_0 4200 a1 a2 a3 wx0) (Fm_shaken_89 4200 a1 a2 a3 wm0) = true := by
  obtain ⟨w1, hw1⟩ := fcnt0
  obtain ⟨m1, hm1⟩ := mmet0
  obtain ⟨m2, hm2⟩ := mbad0
  obtain ⟨m3, hm3⟩ := mbadAs0 (-10)
  obtain ⟨m4, hm4⟩ := mbadAs0 (-1000)
  obtain ⟨m5, hm5⟩ := mbadAs0 (-1)
  simp only [Ff_shaken_0, Fm_shaken_89, Ff_isLayer_eq, Ff_within_eq, hasCell0, Fm_isLayer_eq, isCell0, isCellOf0, in_1_6, in_1_99, in_0_9, in_0_2, in_0_99, in_0_5, in_m2_2, in_m1_1, in_1_9, in_0_3, in_0_127, in_0_8, in_0_1, in_0_4, in_0_999, in_0_40, bd_some, eq_self, if_true, if_false, one_ne, Ff_bad_0, wN, wN2, wT, wW, in_dam, in_tow, in_fis, in_cel, c2, tw0, fi0, ce0, hasThing0, isThing0, if_neg h0, hw1, hm1, hm2, hm3, hm4, hm5]
  exact eqv_some _ _ _
set_option maxHeartbeats 4000000 in
set_option maxRecDepth 100000 in
theorem Qs_30 (a1 a2 : Int32)  : eqv (Ff_wentIn_0 4200 a1 a2 wx0) (Fm_wentIn_89 4200 a1 a2 wm0) = true := by
  obtain ⟨w1, hw1⟩ := fcnt0
  obtain ⟨m1, hm1⟩ := mmet0
  obtain ⟨m2, hm2⟩ := mbad0
  obtain ⟨m3, hm3⟩ := mbadAs0 (-10)
  obtain ⟨m4, hm4⟩ := mbadAs0 (-1000)
  obtain ⟨m5, hm5⟩ := mbadAs0 (-1)
  simp only [Ff_wentIn_0, Fm_wentIn_89, Ff_isLayer_eq, Ff_within_eq, hasCell0, Fm_isLayer_eq, isCell0, isCellOf0, in_1_6, in_1_99, in_0_9, in_0_2, in_0_99, in_0_5, in_m2_2, in_m1_1, in_1_9, in_0_3, in_0_127, in_0_8, in_0_1, in_0_4, in_0_999, in_0_40, bd_some, eq_self, if_true, if_false, one_ne, Ff_bad_0, wN, wN2, wT, wW, in_dam, in_tow, in_fis, in_cel, c2, tw0, fi0, ce0, hasThing0, isThing0, hw1, hm1, hm2, hm3, hm4, hm5]
  exact eqv_some _ _ _
set_option maxHeartbeats 4000000 in
set_option maxRecDepth 100000 in
theorem Qb_32_0 (a1 : Int32) (h0 : ¬ (0 ≤ a1 ∧ a1 ≤ 1)) : eqv (Ff_tap_0 4200 a1 wx0) (Fm_tap_89 4200 a1 wm0) = true := by
  obtain ⟨w1, hw1⟩ := fcnt0
  obtain ⟨m1, hm1⟩ := mmet0
  obtain ⟨m2, hm2⟩ := mbad0
  obtain ⟨m3, hm3⟩ := mbadAs0 (-10)
  obtain ⟨m4, hm4⟩ := mbadAs0 (-1000)
  obtain ⟨m5, hm5⟩ := mbadAs0 (-1)
  simp only [Ff_tap_0, Fm_tap_89, Ff_isLayer_eq, Ff_within_eq, hasCell0, Fm_isLayer_eq, isCell0, isCellOf0, in_1_6, in_1_99, in_0_9, in_0_2, in_0_99, in_0_5, in_m2_2, in_m1_1, in_1_9, in_0_3, in_0_127, in_0_8, in_0_1, in_0_4, in_0_999, in_0_40, bd_some, eq_self, if_true, if_false, one_ne, Ff_bad_0, wN, wN2, wT, wW, in_dam, in_tow, in_fis, in_cel, c2, tw0, fi0, ce0, hasThing0, isThing0, if_neg h0, hw1, hm1, hm2, hm3, hm4, hm5]
  exact eqv_some _ _ _
set_option maxHeartbeats 4000000 in
set_option maxRecDepth 100000 in
theorem Qb_33_1 (a1 a2 : Int32) (h0 : 1 ≤ a1 ∧ a1 ≤ 9) (h1 : ¬ (0 ≤ a2 ∧ a2 ≤ 1)) : eqv (Ff_known_0 4200 a1 a2 wx0) (Fm_known_89 4200 a1 a2 wm0) = true := by
  obtain ⟨w1, hw1⟩ := fcnt0
  obtain ⟨m1, hm1⟩ := mmet0
  obtain ⟨m2, hm2⟩ := mbad0
  obtain ⟨m3, hm3⟩ := mbadAs0 (-10)
  obtain ⟨m4, hm4⟩ := mbadAs0 (-1000)
  obtain ⟨m5, hm5⟩ := mbadAs0 (-1)
  simp only [Ff_known_0, Fm_known_89, Ff_isLayer_eq, Ff_within_eq, hasCell0, Fm_isLayer_eq, isCell0, isCellOf0, in_1_6, in_1_99, in_0_9, in_0_2, in_0_99, in_0_5, in_m2_2, in_m1_1, in_1_9, in_0_3, in_0_127, in_0_8, in_0_1, in_0_4, in_0_999, in_0_40, bd_some, eq_self, if_true, if_false, one_ne, Ff_bad_0, wN, wN2, wT, wW, in_dam, in_tow, in_fis, in_cel, c2, tw0, fi0, ce0, hasThing0, isThing0, if_pos h0, if_neg h1, hw1, hm1, hm2, hm3, hm4, hm5]
  exact eqv_some _ _ _
set_option maxHeartbeats 4000000 in
set_option maxRecDepth 100000 in
theorem Qb_33_0 (a1 a2 : Int32) (h0 : ¬ (1 ≤ a1 ∧ a1 ≤ 9)) : eqv (Ff_known_0 4200 a1 a2 wx0) (Fm_known_89 4200 a1 a2 wm0) = true := by
  obtain ⟨w1, hw1⟩ := fcnt0
  obtain ⟨m1, hm1⟩ := mmet0
  obtain ⟨m2, hm2⟩ := mbad0
  obtain ⟨m3, hm3⟩ := mbadAs0 (-10)
  obtain ⟨m4, hm4⟩ := mbadAs0 (-1000)
  obtain ⟨m5, hm5⟩ := mbadAs0 (-1)
  simp only [Ff_known_0, Fm_known_89, Ff_isLayer_eq, Ff_within_eq, hasCell0, Fm_isLayer_eq, isCell0, isCellOf0, in_1_6, in_1_99, in_0_9, in_0_2, in_0_99, in_0_5, in_m2_2, in_m1_1, in_1_9, in_0_3, in_0_127, in_0_8, in_0_1, in_0_4, in_0_999, in_0_40, bd_some, eq_self, if_true, if_false, one_ne, Ff_bad_0, wN, wN2, wT, wW, in_dam, in_tow, in_fis, in_cel, c2, tw0, fi0, ce0, hasThing0, isThing0, if_neg h0, hw1, hm1, hm2, hm3, hm4, hm5]
  exact eqv_some _ _ _
set_option maxHeartbeats 4000000 in
set_option maxRecDepth 100000 in
theorem Qs_34 (a1 a2 a3 a4 : Int32)  : eqv (Ff_storm_0 4200 a1 a2 a3 a4 wx0) (Fm_storm_89 4200 a1 a2 a3 a4 wm0) = true := by
  obtain ⟨w1, hw1⟩ := fcnt0
  obtain ⟨m1, hm1⟩ := mmet0
  obtain ⟨m2, hm2⟩ := mbad0
  obtain ⟨m3, hm3⟩ := mbadAs0 (-10)
  obtain ⟨m4, hm4⟩ := mbadAs0 (-1000)
  obtain ⟨m5, hm5⟩ := mbadAs0 (-1)
  simp only [Ff_storm_0, Fm_storm_89, Ff_isLayer_eq, Ff_within_eq, hasCell0, Fm_isLayer_eq, isCell0, isCellOf0, in_1_6, in_1_99, in_0_9, in_0_2, in_0_99, in_0_5, in_m2_2, in_m1_1, in_1_9, in_0_3, in_0_127, in_0_8, in_0_1, in_0_4, in_0_999, in_0_40, bd_some, eq_self, if_true, if_false, one_ne, Ff_bad_0, wN, wN2, wT, wW, in_dam, in_tow, in_fis, in_cel, c2, tw0, fi0, ce0, hasThing0, isThing0, hw1, hm1, hm2, hm3, hm4, hm5]
  exact eqv_some _ _ _
set_option maxHeartbeats 4000000 in
set_option maxRecDepth 100000 in
theorem Qb_35_0 (a1 : Int32) (h0 : ¬ (0 ≤ a1 ∧ a1 ≤ 1)) : eqv (Ff_part_0 a1 wx0) (Fm_part_89 a1 wm0) = true := by
  obtain ⟨w1, hw1⟩ := fcnt0
  obtain ⟨m1, hm1⟩ := mmet0
  obtain ⟨m2, hm2⟩ := mbad0
  obtain ⟨m3, hm3⟩ := mbadAs0 (-10)
  obtain ⟨m4, hm4⟩ := mbadAs0 (-1000)
  obtain ⟨m5, hm5⟩ := mbadAs0 (-1)
  have n0 : ¬ a1 = 0 := fun z => h0 (by rw [z]; decide)
  have n1 : ¬ a1 = 1 := fun z => h0 (by rw [z]; decide)
  simp only [Ff_part_0, Fm_part_89, Ff_isLayer_eq, Ff_within_eq, hasCell0, Fm_isLayer_eq, isCell0, isCellOf0, in_1_6, in_1_99, in_0_9, in_0_2, in_0_99, in_0_5, in_m2_2, in_m1_1, in_1_9, in_0_3, in_0_127, in_0_8, in_0_1, in_0_4, in_0_999, in_0_40, bd_some, eq_self, if_true, if_false, one_ne, Ff_bad_0, wN, wN2, wT, wW, in_dam, in_tow, in_fis, in_cel, c2, tw0, fi0, ce0, hasThing0, isThing0, if_neg h0, if_neg n0, if_neg n1, hw1, hm1, hm2, hm3, hm4, hm5]
  exact eqv_some _ _ _
set_option maxHeartbeats 4000000 in
set_option maxRecDepth 100000 in
theorem Qb_36_0 (a1 : Int32) (h0 : ¬ (0 ≤ a1 ∧ a1 ≤ 1)) : eqv (Ff_image_0 a1 wx0) (Fm_image_89 4200 a1 wm0) = true := by
  obtain ⟨w1, hw1⟩ := fcnt0
  obtain ⟨m1, hm1⟩ := mmet0
  obtain ⟨m2, hm2⟩ := mbad0
  obtain ⟨m3, hm3⟩ := mbadAs0 (-10)
  obtain ⟨m4, hm4⟩ := mbadAs0 (-1000)
  obtain ⟨m5, hm5⟩ := mbadAs0 (-1)
  simp only [Ff_image_0, Fm_image_89, Ff_isLayer_eq, Ff_within_eq, hasCell0, Fm_isLayer_eq, isCell0, isCellOf0, in_1_6, in_1_99, in_0_9, in_0_2, in_0_99, in_0_5, in_m2_2, in_m1_1, in_1_9, in_0_3, in_0_127, in_0_8, in_0_1, in_0_4, in_0_999, in_0_40, bd_some, eq_self, if_true, if_false, one_ne, Ff_bad_0, wN, wN2, wT, wW, in_dam, in_tow, in_fis, in_cel, c2, tw0, fi0, ce0, hasThing0, isThing0, if_neg h0, hw1, hm1, hm2, hm3, hm4, hm5]
  exact eqv_some _ _ _
set_option maxHeartbeats 4000000 in
set_option maxRecDepth 100000 in
theorem Qb_37_0 (a1 : Int32) (h0 : ¬ (0 ≤ a1 ∧ a1 ≤ 1)) : eqv (Ff_from_0 a1 wx0) (Fm_from_89 4200 a1 wm0) = true := by
  obtain ⟨w1, hw1⟩ := fcnt0
  obtain ⟨m1, hm1⟩ := mmet0
  obtain ⟨m2, hm2⟩ := mbad0
  obtain ⟨m3, hm3⟩ := mbadAs0 (-10)
  obtain ⟨m4, hm4⟩ := mbadAs0 (-1000)
  obtain ⟨m5, hm5⟩ := mbadAs0 (-1)
  simp only [Ff_from_0, Fm_from_89, Ff_isLayer_eq, Ff_within_eq, hasCell0, Fm_isLayer_eq, isCell0, isCellOf0, in_1_6, in_1_99, in_0_9, in_0_2, in_0_99, in_0_5, in_m2_2, in_m1_1, in_1_9, in_0_3, in_0_127, in_0_8, in_0_1, in_0_4, in_0_999, in_0_40, bd_some, eq_self, if_true, if_false, one_ne, Ff_bad_0, wN, wN2, wT, wW, in_dam, in_tow, in_fis, in_cel, c2, tw0, fi0, ce0, hasThing0, isThing0, if_neg h0, hw1, hm1, hm2, hm3, hm4, hm5]
  exact eqv_some _ _ _
set_option maxHeartbeats 4000000 in
set_option maxRecDepth 100000 in
theorem Qb_38_0 (a1 : Int32) (h0 : ¬ (0 ≤ a1 ∧ a1 ≤ 2)) : eqv (Ff_status_0 a1 wx0) (Fm_status_89 a1 wm0) = true := by
  obtain ⟨w1, hw1⟩ := fcnt0
  obtain ⟨m1, hm1⟩ := mmet0
  obtain ⟨m2, hm2⟩ := mbad0
  obtain ⟨m3, hm3⟩ := mbadAs0 (-10)
  obtain ⟨m4, hm4⟩ := mbadAs0 (-1000)
  obtain ⟨m5, hm5⟩ := mbadAs0 (-1)
  have n0 : ¬ a1 = 0 := fun z => h0 (by rw [z]; decide)
  have n1 : ¬ a1 = 1 := fun z => h0 (by rw [z]; decide)
  have n2 : ¬ a1 = 2 := fun z => h0 (by rw [z]; decide)
  simp only [Ff_status_0, Fm_status_89, Ff_isLayer_eq, Ff_within_eq, hasCell0, Fm_isLayer_eq, isCell0, isCellOf0, in_1_6, in_1_99, in_0_9, in_0_2, in_0_99, in_0_5, in_m2_2, in_m1_1, in_1_9, in_0_3, in_0_127, in_0_8, in_0_1, in_0_4, in_0_999, in_0_40, bd_some, eq_self, if_true, if_false, one_ne, Ff_bad_0, wN, wN2, wT, wW, in_dam, in_tow, in_fis, in_cel, c2, tw0, fi0, ce0, hasThing0, isThing0, if_neg h0, if_neg n0, if_neg n1, if_neg n2, hw1, hm1, hm2, hm3, hm4, hm5]
  exact eqv_some _ _ _
set_option maxHeartbeats 4000000 in
set_option maxRecDepth 100000 in
theorem Qb_39_0 (a1 : Int32) (h0 : ¬ (0 ≤ a1 ∧ a1 ≤ 8)) : eqv (Ff_count_0 a1 wx0) (Fm_count_89 a1 wm0) = true := by
  obtain ⟨w1, hw1⟩ := fcnt0
  obtain ⟨m1, hm1⟩ := mmet0
  obtain ⟨m2, hm2⟩ := mbad0
  obtain ⟨m3, hm3⟩ := mbadAs0 (-10)
  obtain ⟨m4, hm4⟩ := mbadAs0 (-1000)
  obtain ⟨m5, hm5⟩ := mbadAs0 (-1)
  simp only [Ff_count_0, Fm_count_89, Ff_isLayer_eq, Ff_within_eq, hasCell0, Fm_isLayer_eq, isCell0, isCellOf0, in_1_6, in_1_99, in_0_9, in_0_2, in_0_99, in_0_5, in_m2_2, in_m1_1, in_1_9, in_0_3, in_0_127, in_0_8, in_0_1, in_0_4, in_0_999, in_0_40, bd_some, eq_self, if_true, if_false, one_ne, Ff_bad_0, wN, wN2, wT, wW, in_dam, in_tow, in_fis, in_cel, c2, tw0, fi0, ce0, hasThing0, isThing0, if_neg h0, hw1, hm1, hm2, hm3, hm4, hm5]
  exact eqv_some _ _ _
set_option maxHeartbeats 4000000 in
set_option maxRecDepth 100000 in
theorem Qb_8_0 (a1 a2 a3 : Int32) (h0 : ¬ PL a1) : eqv (Ff_lift_0 a1 a2 a3 wx0) (Fm_lift_89 a1 a2 a3 wm0) = true := by
  obtain ⟨w1, hw1⟩ := fcnt0
  obtain ⟨m1, hm1⟩ := mmet0
  obtain ⟨m2, hm2⟩ := mbad0
  obtain ⟨m3, hm3⟩ := mbadAs0 (-10)
  obtain ⟨m4, hm4⟩ := mbadAs0 (-1000)
  obtain ⟨m5, hm5⟩ := mbadAs0 (-1)
  simp only [Ff_lift_0, Fsea_addLift_1, Fm_lift_89, Fm_liftTo_89, Ff_isLayer_eq, Ff_within_eq, hasCell0, Fm_isLayer_eq, isCell0, isCellOf0, in_1_6, in_1_99, in_0_9, in_0_2, in_0_99, in_0_5, in_m2_2, in_m1_1, in_1_9, in_0_3, in_0_127, in_0_8, in_0_1, in_0_4, in_0_999, in_0_40, bd_some, eq_self, if_true, if_false, one_ne, Ff_bad_0, wN, wN2, wT, wW, in_dam, in_tow, in_fis, in_cel, c2, tw0, fi0, ce0, hasThing0, isThing0, hasPlace0 _ h0, isPlace0 _ h0, hw1, hm1, hm2, hm3, hm4, hm5]
  exact eqv_some _ _ _
set_option maxHeartbeats 4000000 in
set_option maxRecDepth 100000 in
theorem Qb_8_1 (a1 a2 a3 : Int32) (h0 : PL a1) (h1 : ¬ PL a2) : eqv (Ff_lift_0 a1 a2 a3 wx0) (Fm_lift_89 a1 a2 a3 wm0) = true := by
  obtain ⟨w1, hw1⟩ := fcnt0
  obtain ⟨m1, hm1⟩ := mmet0
  obtain ⟨m2, hm2⟩ := mbad0
  obtain ⟨m3, hm3⟩ := mbadAs0 (-10)
  obtain ⟨m4, hm4⟩ := mbadAs0 (-1000)
  obtain ⟨m5, hm5⟩ := mbadAs0 (-1)
  simp only [Ff_lift_0, Fsea_addLift_1, Fm_lift_89, Fm_liftTo_89, Ff_isLayer_eq, Ff_within_eq, hasCell0, Fm_isLayer_eq, isCell0, isCellOf0, in_1_6, in_1_99, in_0_9, in_0_2, in_0_99, in_0_5, in_m2_2, in_m1_1, in_1_9, in_0_3, in_0_127, in_0_8, in_0_1, in_0_4, in_0_999, in_0_40, bd_some, eq_self, if_true, if_false, one_ne, Ff_bad_0, wN, wN2, wT, wW, in_dam, in_tow, in_fis, in_cel, c2, tw0, fi0, ce0, hasThing0, isThing0, hasPlace1 _ h0, isPlace1 _ h0, hasPlace0 _ h1, isPlace0 _ h1, hw1, hm1, hm2, hm3, hm4, hm5]
  exact eqv_some _ _ _
set_option maxHeartbeats 4000000 in
set_option maxRecDepth 100000 in
theorem Qb_8_2 (a1 a2 a3 : Int32) (h0 : PL a1) (h1 : PL a2) (h2 : ¬ (1 ≤ a3 ∧ a3 ≤ 9)) (hne : ¬ a1 = a2) : eqv (Ff_lift_0 a1 a2 a3 wx0) (Fm_lift_89 a1 a2 a3 wm0) = true := by
  obtain ⟨w1, hw1⟩ := fcnt0
  obtain ⟨m1, hm1⟩ := mmet0
  obtain ⟨m2, hm2⟩ := mbad0
  obtain ⟨m3, hm3⟩ := mbadAs0 (-10)
  obtain ⟨m4, hm4⟩ := mbadAs0 (-1000)
  obtain ⟨m5, hm5⟩ := mbadAs0 (-1)
  simp only [Ff_lift_0, Fsea_addLift_1, Fm_lift_89, Fm_liftTo_89, Ff_isLayer_eq, Ff_within_eq, hasCell0, Fm_isLayer_eq, isCell0, isCellOf0, in_1_6, in_1_99, in_0_9, in_0_2, in_0_99, in_0_5, in_m2_2, in_m1_1, in_1_9, in_0_3, in_0_127, in_0_8, in_0_1, in_0_4, in_0_999, in_0_40, bd_some, eq_self, if_true, if_false, one_ne, Ff_bad_0, wN, wN2, wT, wW, in_dam, in_tow, in_fis, in_cel, c2, tw0, fi0, ce0, hasThing0, isThing0, hasPlace1 _ h0, isPlace1 _ h0, hasPlace1 _ h1, isPlace1 _ h1, if_neg h2, if_neg hne, hw1, hm1, hm2, hm3, hm4, hm5]
  exact eqv_some _ _ _
set_option maxHeartbeats 4000000 in
set_option maxRecDepth 100000 in
theorem Qb_8_2x (a1 a2 a3 : Int32) (h0 : PL a1) (h1 : PL a2) (hne : a1 = a2) : eqv (Ff_lift_0 a1 a2 a3 wx0) (Fm_lift_89 a1 a2 a3 wm0) = true := by
  obtain ⟨w1, hw1⟩ := fcnt0
  obtain ⟨m1, hm1⟩ := mmet0
  obtain ⟨m2, hm2⟩ := mbad0
  obtain ⟨m3, hm3⟩ := mbadAs0 (-10)
  obtain ⟨m4, hm4⟩ := mbadAs0 (-1000)
  obtain ⟨m5, hm5⟩ := mbadAs0 (-1)
  simp only [Ff_lift_0, Fsea_addLift_1, Fm_lift_89, Fm_liftTo_89, Ff_isLayer_eq, Ff_within_eq, hasCell0, Fm_isLayer_eq, isCell0, isCellOf0, in_1_6, in_1_99, in_0_9, in_0_2, in_0_99, in_0_5, in_m2_2, in_m1_1, in_1_9, in_0_3, in_0_127, in_0_8, in_0_1, in_0_4, in_0_999, in_0_40, bd_some, eq_self, if_true, if_false, one_ne, Ff_bad_0, wN, wN2, wT, wW, in_dam, in_tow, in_fis, in_cel, c2, tw0, fi0, ce0, hasThing0, isThing0, hasPlace1 _ h0, isPlace1 _ h0, hasPlace1 _ h1, isPlace1 _ h1, if_pos hne, hw1, hm1, hm2, hm3, hm4, hm5]
  exact eqv_some _ _ _
set_option maxHeartbeats 4000000 in
set_option maxRecDepth 100000 in
theorem Qb_9_0 (a1 : Int32) (h0 : ¬ PL a1) : eqv (Ff_town_0 4200 a1 wx0) (Fm_town_89 4200 a1 wm0) = true := by
  obtain ⟨w1, hw1⟩ := fcnt0
  obtain ⟨m1, hm1⟩ := mmet0
  obtain ⟨m2, hm2⟩ := mbad0
  obtain ⟨m3, hm3⟩ := mbadAs0 (-10)
  obtain ⟨m4, hm4⟩ := mbadAs0 (-1000)
  obtain ⟨m5, hm5⟩ := mbadAs0 (-1)
  simp only [Ff_town_0, Fsea_addTown_1, Fm_town_89, Fm_townTo_89, Ff_isLayer_eq, Ff_within_eq, hasCell0, Fm_isLayer_eq, isCell0, isCellOf0, in_1_6, in_1_99, in_0_9, in_0_2, in_0_99, in_0_5, in_m2_2, in_m1_1, in_1_9, in_0_3, in_0_127, in_0_8, in_0_1, in_0_4, in_0_999, in_0_40, bd_some, eq_self, if_true, if_false, one_ne, Ff_bad_0, wN, wN2, wT, wW, in_dam, in_tow, in_fis, in_cel, c2, tw0, fi0, ce0, hasThing0, isThing0, hasPlace0 _ h0, isPlace0 _ h0, hw1, hm1, hm2, hm3, hm4, hm5]
  exact eqv_some _ _ _
set_option maxHeartbeats 4000000 in
set_option maxRecDepth 100000 in
theorem Qb_24_0 (a1 a2 : Int32) (h0 : ¬ PL a1) : eqv (Ff_soonest_0 4200 a1 a2 wx0) (Fm_soonest_89 4200 a1 a2 wm0) = true := by
  obtain ⟨w1, hw1⟩ := fcnt0
  obtain ⟨m1, hm1⟩ := mmet0
  obtain ⟨m2, hm2⟩ := mbad0
  obtain ⟨m3, hm3⟩ := mbadAs0 (-10)
  obtain ⟨m4, hm4⟩ := mbadAs0 (-1000)
  obtain ⟨m5, hm5⟩ := mbadAs0 (-1)
  simp only [Ff_soonest_0, Fm_soonest_89, Ff_isLayer_eq, Ff_within_eq, hasCell0, Fm_isLayer_eq, isCell0, isCellOf0, in_1_6, in_1_99, in_0_9, in_0_2, in_0_99, in_0_5, in_m2_2, in_m1_1, in_1_9, in_0_3, in_0_127, in_0_8, in_0_1, in_0_4, in_0_999, in_0_40, bd_some, eq_self, if_true, if_false, one_ne, Ff_bad_0, wN, wN2, wT, wW, in_dam, in_tow, in_fis, in_cel, c2, tw0, fi0, ce0, hasThing0, isThing0, hasPlace0 _ h0, isPlace0 _ h0, hw1, hm1, hm2, hm3, hm4, hm5]
  exact eqv_some _ _ _
set_option maxHeartbeats 4000000 in
set_option maxRecDepth 100000 in
theorem Qb_24_1 (a1 a2 : Int32) (h0 : PL a1) (h1 : ¬ PL a2) : eqv (Ff_soonest_0 4200 a1 a2 wx0) (Fm_soonest_89 4200 a1 a2 wm0) = true := by
  obtain ⟨w1, hw1⟩ := fcnt0
  obtain ⟨m1, hm1⟩ := mmet0
  obtain ⟨m2, hm2⟩ := mbad0
  obtain ⟨m3, hm3⟩ := mbadAs0 (-10)
  obtain ⟨m4, hm4⟩ := mbadAs0 (-1000)
  obtain ⟨m5, hm5⟩ := mbadAs0 (-1)
  simp only [Ff_soonest_0, Fm_soonest_89, Ff_isLayer_eq, Ff_within_eq, hasCell0, Fm_isLayer_eq, isCell0, isCellOf0, in_1_6, in_1_99, in_0_9, in_0_2, in_0_99, in_0_5, in_m2_2, in_m1_1, in_1_9, in_0_3, in_0_127, in_0_8, in_0_1, in_0_4, in_0_999, in_0_40, bd_some, eq_self, if_true, if_false, one_ne, Ff_bad_0, wN, wN2, wT, wW, in_dam, in_tow, in_fis, in_cel, c2, tw0, fi0, ce0, hasThing0, isThing0, hasPlace1 _ h0, isPlace1 _ h0, hasPlace0 _ h1, isPlace0 _ h1, hw1, hm1, hm2, hm3, hm4, hm5]
  exact eqv_some _ _ _
set_option maxHeartbeats 4000000 in
set_option maxRecDepth 100000 in
theorem Qb_31_0 (a1 a2 a3 : Int32) (h0 : ¬ (0 ≤ a1 ∧ a1 ≤ 3)) : eqv (Ff_nets_0 8000 a1 a2 a3 wx0) (Fm_nets_89 8000 a1 a2 a3 wm0) = true := by
  obtain ⟨w1, hw1⟩ := fcnt0
  obtain ⟨m1, hm1⟩ := mmet0
  obtain ⟨m2, hm2⟩ := mbad0
  obtain ⟨m3, hm3⟩ := mbadAs0 (-10)
  obtain ⟨m4, hm4⟩ := mbadAs0 (-1000)
  obtain ⟨m5, hm5⟩ := mbadAs0 (-1)
  simp only [Ff_nets_0, Ff_areFish_0, Fm_nets_89, Ff_isLayer_eq, Ff_within_eq, hasCell0, Fm_isLayer_eq, isCell0, isCellOf0, in_1_6, in_1_99, in_0_9, in_0_2, in_0_99, in_0_5, in_m2_2, in_m1_1, in_1_9, in_0_3, in_0_127, in_0_8, in_0_1, in_0_4, in_0_999, in_0_40, bd_some, eq_self, if_true, if_false, one_ne, Ff_bad_0, wN, wN2, wT, wW, in_dam, in_tow, in_fis, in_cel, c2, tw0, fi0, ce0, hasThing0, isThing0, if_neg h0, hw1, hm1, hm2, hm3, hm4, hm5]
  exact eqv_some _ _ _
set_option maxHeartbeats 4000000 in
set_option maxRecDepth 100000 in
theorem Qb_31_1 (a1 a2 a3 : Int32) (h0 : (0 ≤ a1 ∧ a1 ≤ 3)) (h1 : ¬ (0 ≤ a2 ∧ a2 ≤ 0)) : eqv (Ff_nets_0 8000 a1 a2 a3 wx0) (Fm_nets_89 8000 a1 a2 a3 wm0) = true := by
  obtain ⟨w1, hw1⟩ := fcnt0
  obtain ⟨m1, hm1⟩ := mmet0
  obtain ⟨m2, hm2⟩ := mbad0
  obtain ⟨m3, hm3⟩ := mbadAs0 (-10)
  obtain ⟨m4, hm4⟩ := mbadAs0 (-1000)
  obtain ⟨m5, hm5⟩ := mbadAs0 (-1)
  simp only [Ff_nets_0, Ff_areFish_0, Fm_nets_89, Ff_isLayer_eq, Ff_within_eq, hasCell0, Fm_isLayer_eq, isCell0, isCellOf0, in_1_6, in_1_99, in_0_9, in_0_2, in_0_99, in_0_5, in_m2_2, in_m1_1, in_1_9, in_0_3, in_0_127, in_0_8, in_0_1, in_0_4, in_0_999, in_0_40, bd_some, eq_self, if_true, if_false, one_ne, Ff_bad_0, wN, wN2, wT, wW, in_dam, in_tow, in_fis, in_cel, c2, tw0, fi0, ce0, hasThing0, isThing0, if_pos h0, if_neg h1, hw1, hm1, hm2, hm3, hm4, hm5]
  exact eqv_some _ _ _
set_option maxHeartbeats 4000000 in
set_option maxRecDepth 100000 in
theorem Qb_31_2 (a1 a2 a3 : Int32) (h0 : (0 ≤ a1 ∧ a1 ≤ 3)) (h1 : (0 ≤ a2 ∧ a2 ≤ 0)) (h2 : ¬ (0 ≤ a3 ∧ a3 ≤ 1)) (hf : Ff_areFish_0 8000 a2 wx0 = some (1, wx0)) : eqv (Ff_nets_0 8000 a1 a2 a3 wx0) (Fm_nets_89 8000 a1 a2 a3 wm0) = true := by
  obtain ⟨w1, hw1⟩ := fcnt0
  obtain ⟨m1, hm1⟩ := mmet0
  obtain ⟨m2, hm2⟩ := mbad0
  obtain ⟨m3, hm3⟩ := mbadAs0 (-10)
  obtain ⟨m4, hm4⟩ := mbadAs0 (-1000)
  obtain ⟨m5, hm5⟩ := mbadAs0 (-1)
  simp only [Ff_nets_0, Fm_nets_89, Ff_isLayer_eq, Ff_within_eq, hasCell0, Fm_isLayer_eq, isCell0, isCellOf0, in_1_6, in_1_99, in_0_9, in_0_2, in_0_99, in_0_5, in_m2_2, in_m1_1, in_1_9, in_0_3, in_0_127, in_0_8, in_0_1, in_0_4, in_0_999, in_0_40, bd_some, eq_self, if_true, if_false, one_ne, Ff_bad_0, wN, wN2, wT, wW, in_dam, in_tow, in_fis, in_cel, c2, tw0, fi0, ce0, hasThing0, isThing0, if_pos h0, if_pos h1, if_neg h2, hf, hw1, hm1, hm2, hm3, hm4, hm5]
  exact eqv_some _ _ _
