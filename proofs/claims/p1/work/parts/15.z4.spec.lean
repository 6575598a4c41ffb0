set_option maxHeartbeats 4000000 in
set_option maxRecDepth 100000 in
theorem Qb_26_0 (a1 a2 a3 a4 : Int32) (h0 : ¬ (0 ≤ a1 ∧ a1 ≤ 3)) : eqv (Ff_spill_0 4200 a1 a2 a3 a4 wx0) (Fm_spill_89 4200 a1 a2 a3 a4 wm0) = true := by
  obtain ⟨w1, hw1⟩ := fcnt0
  obtain ⟨m1, hm1⟩ := mmet0
  obtain ⟨m2, hm2⟩ := mbad0
  obtain ⟨m3, hm3⟩ := mbadAs0 (-10)
  obtain ⟨m4, hm4⟩ := mbadAs0 (-1000)
  obtain ⟨m5, hm5⟩ := mbadAs0 (-1)
  simp only [Ff_spill_0, Ff_isSpill_0, Fm_spill_89, Ff_isLayer_eq, Ff_within_eq, hasCell0, Fm_isLayer_eq, isCell0, isCellOf0, in_1_6, in_1_99, in_0_9, in_0_2, in_0_99, in_0_5, in_m2_2, in_m1_1, in_1_9, in_0_3, in_0_127, in_0_8, in_0_1, in_0_4, in_0_999, in_0_40, bd_some, eq_self, if_true, if_false, one_ne, Ff_bad_0, wN, wN2, wT, wW, in_dam, in_tow, in_fis, in_cel, c2, tw0, fi0, ce0, hasThing0, isThing0, if_neg h0, hw1, hm1, hm2, hm3, hm4, hm5]
  exact eqv_some _ _ _
set_option maxHeartbeats 4000000 in
set_option maxRecDepth 100000 in
theorem Qb_26_1 (a1 a2 a3 a4 : Int32) (h0 : (0 ≤ a1 ∧ a1 ≤ 3)) (h1 : ¬ (0 ≤ a2 ∧ a2 ≤ 999)) : eqv (Ff_spill_0 4200 a1 a2 a3 a4 wx0) (Fm_spill_89 4200 a1 a2 a3 a4 wm0) = true := by
  obtain ⟨w1, hw1⟩ := fcnt0
  obtain ⟨m1, hm1⟩ := mmet0
  obtain ⟨m2, hm2⟩ := mbad0
  obtain ⟨m3, hm3⟩ := mbadAs0 (-10)
  obtain ⟨m4, hm4⟩ := mbadAs0 (-1000)
  obtain ⟨m5, hm5⟩ := mbadAs0 (-1)
  simp only [Ff_spill_0, Ff_isSpill_0, Fm_spill_89, Ff_isLayer_eq, Ff_within_eq, hasCell0, Fm_isLayer_eq, isCell0, isCellOf0, in_1_6, in_1_99, in_0_9, in_0_2, in_0_99, in_0_5, in_m2_2, in_m1_1, in_1_9, in_0_3, in_0_127, in_0_8, in_0_1, in_0_4, in_0_999, in_0_40, bd_some, eq_self, if_true, if_false, one_ne, Ff_bad_0, wN, wN2, wT, wW, in_dam, in_tow, in_fis, in_cel, c2, tw0, fi0, ce0, hasThing0, isThing0, if_pos h0, if_neg h1, hw1, hm1, hm2, hm3, hm4, hm5]
  exact eqv_some _ _ _
set_option maxHeartbeats 4000000 in
set_option maxRecDepth 100000 in
theorem Qb_26_2 (a1 a2 a3 a4 : Int32) (h0 : (0 ≤ a1 ∧ a1 ≤ 3)) (h1 : (0 ≤ a2 ∧ a2 ≤ 999)) (h2 : ¬ (0 ≤ a3 ∧ a3 ≤ 40)) : eqv (Ff_spill_0 4200 a1 a2 a3 a4 wx0) (Fm_spill_89 4200 a1 a2 a3 a4 wm0) = true := by
  obtain ⟨w1, hw1⟩ := fcnt0
  obtain ⟨m1, hm1⟩ := mmet0
  obtain ⟨m2, hm2⟩ := mbad0
  obtain ⟨m3, hm3⟩ := mbadAs0 (-10)
  obtain ⟨m4, hm4⟩ := mbadAs0 (-1000)
  obtain ⟨m5, hm5⟩ := mbadAs0 (-1)
  simp only [Ff_spill_0, Ff_isSpill_0, Fm_spill_89, Ff_isLayer_eq, Ff_within_eq, hasCell0, Fm_isLayer_eq, isCell0, isCellOf0, in_1_6, in_1_99, in_0_9, in_0_2, in_0_99, in_0_5, in_m2_2, in_m1_1, in_1_9, in_0_3, in_0_127, in_0_8, in_0_1, in_0_4, in_0_999, in_0_40, bd_some, eq_self, if_true, if_false, one_ne, Ff_bad_0, wN, wN2, wT, wW, in_dam, in_tow, in_fis, in_cel, c2, tw0, fi0, ce0, hasThing0, isThing0, if_pos h0, if_pos h1, if_neg h2, hw1, hm1, hm2, hm3, hm4, hm5]
  exact eqv_some _ _ _
set_option maxHeartbeats 4000000 in
set_option maxRecDepth 100000 in
theorem Qb_26_3 (a1 a2 a3 a4 : Int32) (h0 : (0 ≤ a1 ∧ a1 ≤ 3)) (h1 : (0 ≤ a2 ∧ a2 ≤ 999)) (h2 : (0 ≤ a3 ∧ a3 ≤ 40)) (h3 : ¬ (0 ≤ a4 ∧ a4 ≤ 3)) : eqv (Ff_spill_0 4200 a1 a2 a3 a4 wx0) (Fm_spill_89 4200 a1 a2 a3 a4 wm0) = true := by
  obtain ⟨w1, hw1⟩ := fcnt0
  obtain ⟨m1, hm1⟩ := mmet0
  obtain ⟨m2, hm2⟩ := mbad0
  obtain ⟨m3, hm3⟩ := mbadAs0 (-10)
  obtain ⟨m4, hm4⟩ := mbadAs0 (-1000)
  obtain ⟨m5, hm5⟩ := mbadAs0 (-1)
  simp only [Ff_spill_0, Ff_isSpill_0, Fm_spill_89, Ff_isLayer_eq, Ff_within_eq, hasCell0, Fm_isLayer_eq, isCell0, isCellOf0, in_1_6, in_1_99, in_0_9, in_0_2, in_0_99, in_0_5, in_m2_2, in_m1_1, in_1_9, in_0_3, in_0_127, in_0_8, in_0_1, in_0_4, in_0_999, in_0_40, bd_some, eq_self, if_true, if_false, one_ne, Ff_bad_0, wN, wN2, wT, wW, in_dam, in_tow, in_fis, in_cel, c2, tw0, fi0, ce0, hasThing0, isThing0, if_pos h0, if_pos h1, if_pos h2, if_neg h3, hw1, hm1, hm2, hm3, hm4, hm5]
  exact eqv_some _ _ _
theorem Qs_26 (a1 a2 a3 a4 : Int32) : eqv (Ff_spill_0 4200 a1 a2 a3 a4 wx0) (Fm_spill_89 4200 a1 a2 a3 a4 wm0) = true := by
  by_cases h0 : 0 ≤ a1 ∧ a1 ≤ 3
  · skip
    by_cases h1 : 0 ≤ a2 ∧ a2 ≤ 999
    · skip
      by_cases h2 : 0 ≤ a3 ∧ a3 ≤ 40
      · skip
        by_cases h3 : 0 ≤ a4 ∧ a4 ≤ 3
        · skip
          exact spill_good a1 a2 a3 a4 h0 h1 h2 h3
        · exact Qb_26_3 a1 a2 a3 a4 h0 h1 h2 h3
      · exact Qb_26_2 a1 a2 a3 a4 h0 h1 h2
    · exact Qb_26_1 a1 a2 a3 a4 h0 h1
  · exact Qb_26_0 a1 a2 a3 a4 h0
set_option maxHeartbeats 4000000 in
set_option maxRecDepth 100000 in
theorem Qb_27_0 (a1 a2 a3 a4 : Int32) (h0 : ¬ (0 ≤ a1 ∧ a1 ≤ 3)) : eqv (Ff_keepOut_0 4200 a1 a2 a3 a4 wx0) (Fm_keepOut_89 4200 a1 a2 a3 a4 wm0) = true := by
  obtain ⟨w1, hw1⟩ := fcnt0
  obtain ⟨m1, hm1⟩ := mmet0
  obtain ⟨m2, hm2⟩ := mbad0
  obtain ⟨m3, hm3⟩ := mbadAs0 (-10)
  obtain ⟨m4, hm4⟩ := mbadAs0 (-1000)
  obtain ⟨m5, hm5⟩ := mbadAs0 (-1)
  simp only [Ff_keepOut_0, Ff_isSpill_0, Fm_keepOut_89, Ff_isLayer_eq, Ff_within_eq, hasCell0, Fm_isLayer_eq, isCell0, isCellOf0, in_1_6, in_1_99, in_0_9, in_0_2, in_0_99, in_0_5, in_m2_2, in_m1_1, in_1_9, in_0_3, in_0_127, in_0_8, in_0_1, in_0_4, in_0_999, in_0_40, bd_some, eq_self, if_true, if_false, one_ne, Ff_bad_0, wN, wN2, wT, wW, in_dam, in_tow, in_fis, in_cel, c2, tw0, fi0, ce0, hasThing0, isThing0, if_neg h0, hw1, hm1, hm2, hm3, hm4, hm5]
  exact eqv_some _ _ _
set_option maxHeartbeats 4000000 in
set_option maxRecDepth 100000 in
theorem Qb_27_1 (a1 a2 a3 a4 : Int32) (h0 : (0 ≤ a1 ∧ a1 ≤ 3)) (h1 : ¬ (0 ≤ a2 ∧ a2 ≤ 999)) : eqv (Ff_keepOut_0 4200 a1 a2 a3 a4 wx0) (Fm_keepOut_89 4200 a1 a2 a3 a4 wm0) = true := by
  obtain ⟨w1, hw1⟩ := fcnt0
  obtain ⟨m1, hm1⟩ := mmet0
  obtain ⟨m2, hm2⟩ := mbad0
  obtain ⟨m3, hm3⟩ := mbadAs0 (-10)
  obtain ⟨m4, hm4⟩ := mbadAs0 (-1000)
  obtain ⟨m5, hm5⟩ := mbadAs0 (-1)
  simp only [Ff_keepOut_0, Ff_isSpill_0, Fm_keepOut_89, Ff_isLayer_eq, Ff_within_eq, hasCell0, Fm_isLayer_eq, isCell0, isCellOf0, in_1_6, in_1_99, in_0_9, in_0_2, in_0_99, in_0_5, in_m2_2, in_m1_1, in_1_9, in_0_3, in_0_127, in_0_8, in_0_1, in_0_4, in_0_999, in_0_40, bd_some, eq_self, if_true, if_false, one_ne, Ff_bad_0, wN, wN2, wT, wW, in_dam, in_tow, in_fis, in_cel, c2, tw0, fi0, ce0, hasThing0, isThing0, if_pos h0, if_neg h1, hw1, hm1, hm2, hm3, hm4, hm5]
  exact eqv_some _ _ _
set_option maxHeartbeats 4000000 in
set_option maxRecDepth 100000 in
theorem Qb_27_2 (a1 a2 a3 a4 : Int32) (h0 : (0 ≤ a1 ∧ a1 ≤ 3)) (h1 : (0 ≤ a2 ∧ a2 ≤ 999)) (h2 : ¬ (0 ≤ a3 ∧ a3 ≤ 40)) : eqv (Ff_keepOut_0 4200 a1 a2 a3 a4 wx0) (Fm_keepOut_89 4200 a1 a2 a3 a4 wm0) = true := by
  obtain ⟨w1, hw1⟩ := fcnt0
  obtain ⟨m1, hm1⟩ := mmet0
  obtain ⟨m2, hm2⟩ := mbad0
  obtain ⟨m3, hm3⟩ := mbadAs0 (-10)
  obtain ⟨m4, hm4⟩ := mbadAs0 (-1000)
  obtain ⟨m5, hm5⟩ := mbadAs0 (-1)
  simp only [Ff_keepOut_0, Ff_isSpill_0, Fm_keepOut_89, Ff_isLayer_eq, Ff_within_eq, hasCell0, Fm_isLayer_eq, isCell0, isCellOf0, in_1_6, in_1_99, in_0_9, in_0_2, in_0_99, in_0_5, in_m2_2, in_m1_1, in_1_9, in_0_3, in_0_127, in_0_8, in_0_1, in_0_4, in_0_999, in_0_40, bd_some, eq_self, if_true, if_false, one_ne, Ff_bad_0, wN, wN2, wT, wW, in_dam, in_tow, in_fis, in_cel, c2, tw0, fi0, ce0, hasThing0, isThing0, if_pos h0, if_pos h1, if_neg h2, hw1, hm1, hm2, hm3, hm4, hm5]
  exact eqv_some _ _ _
set_option maxHeartbeats 4000000 in
set_option maxRecDepth 100000 in
theorem Qb_27_3 (a1 a2 a3 a4 : Int32) (h0 : (0 ≤ a1 ∧ a1 ≤ 3)) (h1 : (0 ≤ a2 ∧ a2 ≤ 999)) (h2 : (0 ≤ a3 ∧ a3 ≤ 40)) (h3 : ¬ (0 ≤ a4 ∧ a4 ≤ 15)) : eqv (Ff_keepOut_0 4200 a1 a2 a3 a4 wx0) (Fm_keepOut_89 4200 a1 a2 a3 a4 wm0) = true := by
  obtain ⟨w1, hw1⟩ := fcnt0
  obtain ⟨m1, hm1⟩ := mmet0
  obtain ⟨m2, hm2⟩ := mbad0
  obtain ⟨m3, hm3⟩ := mbadAs0 (-10)
  obtain ⟨m4, hm4⟩ := mbadAs0 (-1000)
  obtain ⟨m5, hm5⟩ := mbadAs0 (-1)
  simp only [Ff_keepOut_0, Ff_isSpill_0, Fm_keepOut_89, Ff_isLayer_eq, Ff_within_eq, hasCell0, Fm_isLayer_eq, isCell0, isCellOf0, in_1_6, in_1_99, in_0_9, in_0_2, in_0_99, in_0_5, in_m2_2, in_m1_1, in_1_9, in_0_3, in_0_127, in_0_8, in_0_1, in_0_4, in_0_999, in_0_40, bd_some, eq_self, if_true, if_false, one_ne, Ff_bad_0, wN, wN2, wT, wW, in_dam, in_tow, in_fis, in_cel, c2, tw0, fi0, ce0, hasThing0, isThing0, if_pos h0, if_pos h1, if_pos h2, if_neg h3, hw1, hm1, hm2, hm3, hm4, hm5]
  exact eqv_some _ _ _
theorem Qs_27 (a1 a2 a3 a4 : Int32) : eqv (Ff_keepOut_0 4200 a1 a2 a3 a4 wx0) (Fm_keepOut_89 4200 a1 a2 a3 a4 wm0) = true := by
  by_cases h0 : 0 ≤ a1 ∧ a1 ≤ 3
  · skip
    by_cases h1 : 0 ≤ a2 ∧ a2 ≤ 999
    · skip
      by_cases h2 : 0 ≤ a3 ∧ a3 ≤ 40
      · skip
        by_cases h3 : 0 ≤ a4 ∧ a4 ≤ 15
        · skip
          exact keep_good a1 a2 a3 a4 h0 h1 h2 h3
        · exact Qb_27_3 a1 a2 a3 a4 h0 h1 h2 h3
      · exact Qb_27_2 a1 a2 a3 a4 h0 h1 h2
    · exact Qb_27_1 a1 a2 a3 a4 h0 h1
  · exact Qb_27_0 a1 a2 a3 a4 h0
set_option maxHeartbeats 4000000 in
set_option maxRecDepth 100000 in
theorem Qb_29_0 (a1 a2 a3 a4 a5 : Int32) (h0 : ¬ (1 ≤ a1 ∧ a1 ≤ 9)) : eqv (Ff_lies_0 4200 a1 a2 a3 a4 a5 wx0) (Fm_lies_89 4200 a1 a2 a3 a4 a5 wm0) = true := by
  obtain ⟨w1, hw1⟩ := fcnt0
  obtain ⟨m1, hm1⟩ := mmet0
  obtain ⟨m2, hm2⟩ := mbad0
  obtain ⟨m3, hm3⟩ := mbadAs0 (-10)
  obtain ⟨m4, hm4⟩ := mbadAs0 (-1000)
  obtain ⟨m5, hm5⟩ := mbadAs0 (-1)
  simp only [Ff_lies_0, Fm_lies_89, Ff_isLayer_eq, Ff_within_eq, hasCell0, Fm_isLayer_eq, isCell0, isCellOf0, in_1_6, in_1_99, in_0_9, in_0_2, in_0_99, in_0_5, in_m2_2, in_m1_1, in_1_9, in_0_3, in_0_127, in_0_8, in_0_1, in_0_4, in_0_999, in_0_40, bd_some, eq_self, if_true, if_false, one_ne, Ff_bad_0, wN, wN2, wT, wW, in_dam, in_tow, in_fis, in_cel, c2, tw0, fi0, ce0, hasThing0, isThing0, if_neg h0, hw1, hm1, hm2, hm3, hm4, hm5]
  exact eqv_some _ _ _
set_option maxHeartbeats 4000000 in
set_option maxRecDepth 100000 in
theorem Qb_29_1 (a1 a2 a3 a4 a5 : Int32) (h0 : (1 ≤ a1 ∧ a1 ≤ 9)) (h1 : ¬ (0 ≤ a2 ∧ a2 ≤ 3)) : eqv (Ff_lies_0 4200 a1 a2 a3 a4 a5 wx0) (Fm_lies_89 4200 a1 a2 a3 a4 a5 wm0) = true := by
  obtain ⟨w1, hw1⟩ := fcnt0
  obtain ⟨m1, hm1⟩ := mmet0
  obtain ⟨m2, hm2⟩ := mbad0
  obtain ⟨m3, hm3⟩ := mbadAs0 (-10)
  obtain ⟨m4, hm4⟩ := mbadAs0 (-1000)
  obtain ⟨m5, hm5⟩ := mbadAs0 (-1)
  simp only [Ff_lies_0, Fm_lies_89, Ff_isLayer_eq, Ff_within_eq, hasCell0, Fm_isLayer_eq, isCell0, isCellOf0, in_1_6, in_1_99, in_0_9, in_0_2, in_0_99, in_0_5, in_m2_2, in_m1_1, in_1_9, in_0_3, in_0_127, in_0_8, in_0_1, in_0_4, in_0_999, in_0_40, bd_some, eq_self, if_true, if_false, one_ne, Ff_bad_0, wN, wN2, wT, wW, in_dam, in_tow, in_fis, in_cel, c2, tw0, fi0, ce0, hasThing0, isThing0, if_pos h0, if_neg h1, hw1, hm1, hm2, hm3, hm4, hm5]
  exact eqv_some _ _ _
set_option maxHeartbeats 4000000 in
set_option maxRecDepth 100000 in
theorem Qb_29_2 (a1 a2 a3 a4 a5 : Int32) (h0 : (1 ≤ a1 ∧ a1 ≤ 9)) (h1 : (0 ≤ a2 ∧ a2 ≤ 3)) (h2 : ¬ (0 ≤ a3 ∧ a3 ≤ 4)) : eqv (Ff_lies_0 4200 a1 a2 a3 a4 a5 wx0) (Fm_lies_89 4200 a1 a2 a3 a4 a5 wm0) = true := by
  obtain ⟨w1, hw1⟩ := fcnt0
  obtain ⟨m1, hm1⟩ := mmet0
  obtain ⟨m2, hm2⟩ := mbad0
  obtain ⟨m3, hm3⟩ := mbadAs0 (-10)
  obtain ⟨m4, hm4⟩ := mbadAs0 (-1000)
  obtain ⟨m5, hm5⟩ := mbadAs0 (-1)
  simp only [Ff_lies_0, Fm_lies_89, Ff_isLayer_eq, Ff_within_eq, hasCell0, Fm_isLayer_eq, isCell0, isCellOf0, in_1_6, in_1_99, in_0_9, in_0_2, in_0_99, in_0_5, in_m2_2, in_m1_1, in_1_9, in_0_3, in_0_127, in_0_8, in_0_1, in_0_4, in_0_999, in_0_40, bd_some, eq_self, if_true, if_false, one_ne, Ff_bad_0, wN, wN2, wT, wW, in_dam, in_tow, in_fis, in_cel, c2, tw0, fi0, ce0, hasThing0, isThing0, if_pos h0, if_pos h1, if_neg h2, hw1, hm1, hm2, hm3, hm4, hm5]
  exact eqv_some _ _ _
set_option maxHeartbeats 4000000 in
set_option maxRecDepth 100000 in
theorem Qb_29_3 (a1 a2 a3 a4 a5 : Int32) (h0 : (1 ≤ a1 ∧ a1 ≤ 9)) (h1 : (0 ≤ a2 ∧ a2 ≤ 3)) (h2 : (0 ≤ a3 ∧ a3 ≤ 4)) (h3 : ¬ (0 ≤ a4 ∧ a4 ≤ 999)) : eqv (Ff_lies_0 4200 a1 a2 a3 a4 a5 wx0) (Fm_lies_89 4200 a1 a2 a3 a4 a5 wm0) = true := by
  obtain ⟨w1, hw1⟩ := fcnt0
  obtain ⟨m1, hm1⟩ := mmet0
  obtain ⟨m2, hm2⟩ := mbad0
  obtain ⟨m3, hm3⟩ := mbadAs0 (-10)
  obtain ⟨m4, hm4⟩ := mbadAs0 (-1000)
  obtain ⟨m5, hm5⟩ := mbadAs0 (-1)
  simp only [Ff_lies_0, Fm_lies_89, Ff_isLayer_eq, Ff_within_eq, hasCell0, Fm_isLayer_eq, isCell0, isCellOf0, in_1_6, in_1_99, in_0_9, in_0_2, in_0_99, in_0_5, in_m2_2, in_m1_1, in_1_9, in_0_3, in_0_127, in_0_8, in_0_1, in_0_4, in_0_999, in_0_40, bd_some, eq_self, if_true, if_false, one_ne, Ff_bad_0, wN, wN2, wT, wW, in_dam, in_tow, in_fis, in_cel, c2, tw0, fi0, ce0, hasThing0, isThing0, if_pos h0, if_pos h1, if_pos h2, if_neg h3, hw1, hm1, hm2, hm3, hm4, hm5]
  exact eqv_some _ _ _
set_option maxHeartbeats 4000000 in
set_option maxRecDepth 100000 in
theorem Qb_29_4 (a1 a2 a3 a4 a5 : Int32) (h0 : (1 ≤ a1 ∧ a1 ≤ 9)) (h1 : (0 ≤ a2 ∧ a2 ≤ 3)) (h2 : (0 ≤ a3 ∧ a3 ≤ 4)) (h3 : (0 ≤ a4 ∧ a4 ≤ 999)) (h4 : ¬ (0 ≤ a5 ∧ a5 ≤ 2)) : eqv (Ff_lies_0 4200 a1 a2 a3 a4 a5 wx0) (Fm_lies_89 4200 a1 a2 a3 a4 a5 wm0) = true := by
  obtain ⟨w1, hw1⟩ := fcnt0
  obtain ⟨m1, hm1⟩ := mmet0
  obtain ⟨m2, hm2⟩ := mbad0
  obtain ⟨m3, hm3⟩ := mbadAs0 (-10)
  obtain ⟨m4, hm4⟩ := mbadAs0 (-1000)
  obtain ⟨m5, hm5⟩ := mbadAs0 (-1)
  simp only [Ff_lies_0, Fm_lies_89, Ff_isLayer_eq, Ff_within_eq, hasCell0, Fm_isLayer_eq, isCell0, isCellOf0, in_1_6, in_1_99, in_0_9, in_0_2, in_0_99, in_0_5, in_m2_2, in_m1_1, in_1_9, in_0_3, in_0_127, in_0_8, in_0_1, in_0_4, in_0_999, in_0_40, bd_some, eq_self, if_true, if_false, one_ne, Ff_bad_0, wN, wN2, wT, wW, in_dam, in_tow, in_fis, in_cel, c2, tw0, fi0, ce0, hasThing0, isThing0, if_pos h0, if_pos h1, if_pos h2, if_pos h3, if_neg h4, hw1, hm1, hm2, hm3, hm4, hm5]
  exact eqv_some _ _ _
theorem Qs_29 (a1 a2 a3 a4 a5 : Int32) : eqv (Ff_lies_0 4200 a1 a2 a3 a4 a5 wx0) (Fm_lies_89 4200 a1 a2 a3 a4 a5 wm0) = true := by
  by_cases h0 : 1 ≤ a1 ∧ a1 ≤ 9
  · skip
    by_cases h1 : 0 ≤ a2 ∧ a2 ≤ 3
    · skip
      by_cases h2 : 0 ≤ a3 ∧ a3 ≤ 4
      · skip
        by_cases h3 : 0 ≤ a4 ∧ a4 ≤ 999
        · skip
          by_cases h4 : 0 ≤ a5 ∧ a5 ≤ 2
          · skip
            exact lies_good a1 a2 a3 a4 a5 h0 h1 h2 h3 h4
          · exact Qb_29_4 a1 a2 a3 a4 a5 h0 h1 h2 h3 h4
        · exact Qb_29_3 a1 a2 a3 a4 a5 h0 h1 h2 h3
      · exact Qb_29_2 a1 a2 a3 a4 a5 h0 h1 h2
    · exact Qb_29_1 a1 a2 a3 a4 a5 h0 h1
  · exact Qb_29_0 a1 a2 a3 a4 a5 h0
