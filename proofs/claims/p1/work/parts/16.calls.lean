theorem Q_0 (a1 : Int32) : eqv (Ff_sea_0 4200 a1 wx0) (Fm_sea_89 4200 a1 wm0) = true := by
  by_cases h0 : 1 ≤ a1 ∧ a1 ≤ 6
  · skip
    exact List.all_eq_true.mp (en_0) _ (rg32 h0 1 6 (by decide) (by decide))
  · exact Qb_0_0 a1 h0
theorem Q_1 (a1 a2 : Int32) : eqv (Ff_water_0 a1 a2 wx0) (Fm_water_89 a1 a2 wm0) = true := by
  by_cases h0 : 0 ≤ a1 ∧ a1 ≤ 3
  · skip
    by_cases h1 : 1 ≤ a2 ∧ a2 ≤ 99
    · skip
      exact List.all_eq_true.mp (List.all_eq_true.mp (en_1) _ (rg32 h0 0 4 (by decide) (by decide))) _ (rg32 h1 1 99 (by decide) (by decide))
    · exact Qb_1_1 a1 a2 h0 h1
  · exact Qb_1_0 a1 a2 h0
theorem Q_2 (a1 a2 a3 : Int32) : eqv (Ff_thick_0 a1 a2 a3 wx0) (Fm_thick_89 a1 a2 a3 wm0) = true := by
  by_cases h0 : 0 ≤ a1 ∧ a1 ≤ 3
  · skip
    by_cases h1 : 0 ≤ a2 ∧ a2 ≤ 3
    · skip
      by_cases h2 : 0 ≤ a3 ∧ a3 ≤ 9
      · skip
        exact List.all_eq_true.mp (List.all_eq_true.mp (List.all_eq_true.mp (en_2) _ (rg32 h0 0 4 (by decide) (by decide))) _ (rg32 h1 0 4 (by decide) (by decide))) _ (rg32 h2 0 10 (by decide) (by decide))
      · exact Qb_2_2 a1 a2 a3 h0 h1 h2
    · exact Qb_2_1 a1 a2 a3 h0 h1
  · exact Qb_2_0 a1 a2 a3 h0
theorem Q_3 (a1 a2 : Int32) : eqv (Ff_skin_0 a1 a2 wx0) (Fm_skin_89 a1 a2 wm0) = true := by
  by_cases h0 : 0 ≤ a1 ∧ a1 ≤ 2
  · skip
    by_cases h1 : 0 ≤ a2 ∧ a2 ≤ 99
    · skip
      exact List.all_eq_true.mp (List.all_eq_true.mp (en_3) _ (rg32 h0 0 3 (by decide) (by decide))) _ (rg32 h1 0 100 (by decide) (by decide))
    · exact Qb_3_1 a1 a2 h0 h1
  · exact Qb_3_0 a1 a2 h0
theorem Q_4 (a1 a2 a3 : Int32) : eqv (Ff_tide_0 a1 a2 a3 wx0) (Fm_tide_89 a1 a2 a3 wm0) = true := by
  by_cases h0 : 0 ≤ a1 ∧ a1 ≤ 3
  · skip
    by_cases h1 : 0 ≤ a2 ∧ a2 ≤ 5
    · skip
      by_cases h2 : (-2) ≤ a3 ∧ a3 ≤ 2
      · skip
        exact List.all_eq_true.mp (List.all_eq_true.mp (List.all_eq_true.mp (en_4) _ (rg32 h0 0 4 (by decide) (by decide))) _ (rg32 h1 0 6 (by decide) (by decide))) _ (rg32 h2 (-2) 5 (by decide) (by decide))
      · exact Qb_4_2 a1 a2 a3 h0 h1 h2
    · exact Qb_4_1 a1 a2 a3 h0 h1
  · exact Qb_4_0 a1 a2 a3 h0
theorem Q_5 (a1 a2 : Int32) : eqv (Ff_current_0 a1 a2 wx0) (Fm_current_89 a1 a2 wm0) = true := by
  by_cases h0 : 0 ≤ a1 ∧ a1 ≤ 3
  · skip
    by_cases h1 : (-1) ≤ a2 ∧ a2 ≤ 1
    · skip
      exact List.all_eq_true.mp (List.all_eq_true.mp (en_5) _ (rg32 h0 0 4 (by decide) (by decide))) _ (rg32 h1 (-1) 3 (by decide) (by decide))
    · exact Qb_5_1 a1 a2 h0 h1
  · exact Qb_5_0 a1 a2 h0
theorem Q_6 (a1 a2 a3 : Int32) : eqv (Ff_thing_0 a1 a2 a3 wx0) (Fm_thing_89 a1 a2 a3 wm0) = true := by
  by_cases h0 : 0 ≤ a1 ∧ a1 ≤ 5
  · skip
    by_cases h1 : 1 ≤ a2 ∧ a2 ≤ 99
    · skip
      by_cases h2 : 1 ≤ a3 ∧ a3 ≤ 9
      · skip
        exact List.all_eq_true.mp (List.all_eq_true.mp (List.all_eq_true.mp (en_6) _ (rg32 h0 0 6 (by decide) (by decide))) _ (rg32 h1 1 99 (by decide) (by decide))) _ (rg32 h2 1 9 (by decide) (by decide))
      · exact Qb_6_2 a1 a2 a3 h0 h1 h2
    · exact Qb_6_1 a1 a2 a3 h0 h1
  · exact Qb_6_0 a1 a2 a3 h0
theorem Q_7 (a1 a2 : Int32) : eqv (Ff_ballast_0 a1 a2 wx0) (Fm_ballast_89 a1 a2 wm0) = true := Qs_7 a1 a2
theorem Q_8 (a1 a2 a3 : Int32) : eqv (Ff_lift_0 a1 a2 a3 wx0) (Fm_lift_89 a1 a2 a3 wm0) = true := Qs_8 a1 a2 a3
theorem Q_9 (a1 : Int32) : eqv (Ff_town_0 4200 a1 wx0) (Fm_town_89 4200 a1 wm0) = true := Qs_9 a1
theorem Q_10t (a1 : Int32) : eqv (Ff_dam_0 a1 0 wx0) (Fm_dam_89 a1 0 wm0) = true := by
  by_cases h0 : 0 ≤ a1 ∧ a1 ≤ 2
  · skip
    exact List.all_eq_true.mp (en_10t) _ (rg32 h0 0 3 (by decide) (by decide))
  · exact Qb_10t_0 a1 h0
theorem Q_10f (a1 : Int32) : eqv (Ff_dam_0 a1 1 wx0) (Fm_dam_89 a1 1 wm0) = true := by
  by_cases h0 : 0 ≤ a1 ∧ a1 ≤ 2
  · skip
    exact List.all_eq_true.mp (en_10f) _ (rg32 h0 0 3 (by decide) (by decide))
  · exact Qb_10f_0 a1 h0
theorem Q_11t (a1 : Int32) : eqv (Ff_drop_0 a1 0 wx0) (Fm_drop_89 a1 0 wm0) = true := by
  by_cases h0 : 0 ≤ a1 ∧ a1 ≤ 3
  · skip
    exact List.all_eq_true.mp (en_11t) _ (rg32 h0 0 4 (by decide) (by decide))
  · exact Qb_11t_0 a1 h0
theorem Q_11f (a1 : Int32) : eqv (Ff_drop_0 a1 1 wx0) (Fm_drop_89 a1 1 wm0) = true := by
  by_cases h0 : 0 ≤ a1 ∧ a1 ≤ 3
  · skip
    exact List.all_eq_true.mp (en_11f) _ (rg32 h0 0 4 (by decide) (by decide))
  · exact Qb_11f_0 a1 h0
theorem Q_12 (a1 : Int32) : eqv (Ff_clean_0 a1 wx0) (Fm_clean_89 a1 wm0) = true := by
  by_cases h0 : 0 ≤ a1 ∧ a1 ≤ 3
  · skip
    exact List.all_eq_true.mp (en_12) _ (rg32 h0 0 4 (by decide) (by decide))
  · exact Qb_12_0 a1 h0
theorem Q_13 (a1 : Int32) : eqv (Ff_type_0 a1 wx0) (Fm_type_89 a1 wm0) = true := by
  by_cases h0 : 0 ≤ a1 ∧ a1 ≤ 127
  · skip
    exact List.all_eq_true.mp (en_13) _ (rg32 h0 0 128 (by decide) (by decide))
  · exact Qb_13_0 a1 h0
theorem Q_14 : eqv (Ff_clear_0 wx0) (Fm_clear_89 wm0) = true := en_14
theorem Q_15 : eqv (Ff_read_0 4200 wx0) (Fm_read_89 4200 wm0) = true := en_15
theorem Q_16 (a1 : Int32) : eqv (Ff_hours_0 a1 wx0) (Fm_hours_89 4200 a1 wm0) = true := by
  by_cases h0 : 1 ≤ a1 ∧ a1 ≤ 99
  · skip
    exact List.all_eq_true.mp (en_16) _ (rg32 h0 1 99 (by decide) (by decide))
  · exact Qb_16_0 a1 h0
theorem Q_17 : eqv (Ff_undo_0 wx0) (Fm_undo_89 wm0) = true := en_17
theorem Q_18 (a1 a2 : Int32) : eqv (Ff_of_0 a1 a2 wx0) (Fm_of_89 a1 a2 wm0) = true := Qs_18 a1 a2
theorem Q_19 (a1 a2 : Int32) : eqv (Ff_deep_0 a1 a2 wx0) (Fm_deep_89 a1 a2 wm0) = true := by
  by_cases h0 : 0 ≤ a1 ∧ a1 ≤ 3
  · skip
    by_cases h1 : 0 ≤ a2 ∧ a2 ≤ 3
    · skip
      exact List.all_eq_true.mp (List.all_eq_true.mp (en_19) _ (rg32 h0 0 4 (by decide) (by decide))) _ (rg32 h1 0 4 (by decide) (by decide))
    · exact Qb_19_1 a1 a2 h0 h1
  · exact Qb_19_0 a1 a2 h0
theorem Q_20 (a1 a2 a3 : Int32) : eqv (Ff_rests_0 4200 a1 a2 a3 wx0) (Fm_rests_89 4200 a1 a2 a3 wm0) = true := Qs_20 a1 a2 a3
theorem Q_21 (a1 a2 a3 : Int32) : eqv (Ff_sink_0 4200 a1 a2 a3 wx0) (Fm_sink_89 4200 a1 a2 a3 wm0) = true := Qs_21 a1 a2 a3
theorem Q_22 (a1 a2 : Int32) : eqv (Ff_holds_0 4200 a1 a2 wx0) (Fm_holds_89 4200 a1 a2 wm0) = true := Qs_22 a1 a2
theorem Q_23 (a1 a2 a3 : Int32) : eqv (Ff_bestHour_0 4200 a1 a2 a3 wx0) (Fm_bestHour_89 4200 a1 a2 a3 wm0) = true := Qs_23 a1 a2 a3
theorem Q_24 (a1 a2 : Int32) : eqv (Ff_soonest_0 4200 a1 a2 wx0) (Fm_soonest_89 4200 a1 a2 wm0) = true := Qs_24 a1 a2
theorem Q_25 (a1 : Int32) : eqv (Ff_net_0 4200 a1 wx0) (Fm_net_89 4200 a1 wm0) = true := Qs_25 a1
theorem Q_26 (a1 a2 a3 a4 : Int32) : eqv (Ff_spill_0 4200 a1 a2 a3 a4 wx0) (Fm_spill_89 4200 a1 a2 a3 a4 wm0) = true := Qs_26 a1 a2 a3 a4
theorem Q_27 (a1 a2 a3 a4 : Int32) : eqv (Ff_keepOut_0 4200 a1 a2 a3 a4 wx0) (Fm_keepOut_89 4200 a1 a2 a3 a4 wm0) = true := Qs_27 a1 a2 a3 a4
theorem Q_28 (a1 a2 a3 : Int32) : eqv (Ff_shaken_0 4200 a1 a2 a3 wx0) (Fm_shaken_89 4200 a1 a2 a3 wm0) = true := by
  by_cases h0 : 0 ≤ a1 ∧ a1 ≤ 99
  · skip
    by_cases h1 : 0 ≤ a2 ∧ a2 ≤ 3
    · skip
      by_cases h2 : 0 ≤ a3 ∧ a3 ≤ 1
      · skip
        exact List.all_eq_true.mp (List.all_eq_true.mp (List.all_eq_true.mp (en_28) _ (rg32 h0 0 100 (by decide) (by decide))) _ (rg32 h1 0 4 (by decide) (by decide))) _ (rg32 h2 0 2 (by decide) (by decide))
      · exact Qb_28_2 a1 a2 a3 h0 h1 h2
    · exact Qb_28_1 a1 a2 a3 h0 h1
  · exact Qb_28_0 a1 a2 a3 h0
theorem Q_29 (a1 a2 a3 a4 a5 : Int32) : eqv (Ff_lies_0 4200 a1 a2 a3 a4 a5 wx0) (Fm_lies_89 4200 a1 a2 a3 a4 a5 wm0) = true := Qs_29 a1 a2 a3 a4 a5
theorem Q_30 (a1 a2 : Int32) : eqv (Ff_wentIn_0 4200 a1 a2 wx0) (Fm_wentIn_89 4200 a1 a2 wm0) = true := Qs_30 a1 a2
theorem Q_31 (a1 a2 a3 : Int32) : eqv (Ff_nets_0 8000 a1 a2 a3 wx0) (Fm_nets_89 8000 a1 a2 a3 wm0) = true := Qs_31 a1 a2 a3
theorem Q_32 (a1 : Int32) : eqv (Ff_tap_0 4200 a1 wx0) (Fm_tap_89 4200 a1 wm0) = true := by
  by_cases h0 : 0 ≤ a1 ∧ a1 ≤ 1
  · skip
    exact List.all_eq_true.mp (en_32) _ (rg32 h0 0 2 (by decide) (by decide))
  · exact Qb_32_0 a1 h0
theorem Q_33 (a1 a2 : Int32) : eqv (Ff_known_0 4200 a1 a2 wx0) (Fm_known_89 4200 a1 a2 wm0) = true := by
  by_cases h0 : 1 ≤ a1 ∧ a1 ≤ 9
  · skip
    by_cases h1 : 0 ≤ a2 ∧ a2 ≤ 1
    · skip
      exact List.all_eq_true.mp (List.all_eq_true.mp (en_33) _ (rg32 h0 1 9 (by decide) (by decide))) _ (rg32 h1 0 2 (by decide) (by decide))
    · exact Qb_33_1 a1 a2 h0 h1
  · exact Qb_33_0 a1 a2 h0
theorem Q_34 (a1 a2 a3 a4 : Int32) : eqv (Ff_storm_0 4200 a1 a2 a3 a4 wx0) (Fm_storm_89 4200 a1 a2 a3 a4 wm0) = true := Qs_34 a1 a2 a3 a4
theorem Q_35 (a1 : Int32) : eqv (Ff_part_0 a1 wx0) (Fm_part_89 a1 wm0) = true := by
  by_cases h0 : 0 ≤ a1 ∧ a1 ≤ 1
  · skip
    exact List.all_eq_true.mp (en_35) _ (rg32 h0 0 2 (by decide) (by decide))
  · exact Qb_35_0 a1 h0
theorem Q_36 (a1 : Int32) : eqv (Ff_image_0 a1 wx0) (Fm_image_89 4200 a1 wm0) = true := by
  by_cases h0 : 0 ≤ a1 ∧ a1 ≤ 1
  · skip
    exact List.all_eq_true.mp (en_36) _ (rg32 h0 0 2 (by decide) (by decide))
  · exact Qb_36_0 a1 h0
theorem Q_37 (a1 : Int32) : eqv (Ff_from_0 a1 wx0) (Fm_from_89 4200 a1 wm0) = true := by
  by_cases h0 : 0 ≤ a1 ∧ a1 ≤ 1
  · skip
    exact List.all_eq_true.mp (en_37) _ (rg32 h0 0 2 (by decide) (by decide))
  · exact Qb_37_0 a1 h0
theorem Q_38 (a1 : Int32) : eqv (Ff_status_0 a1 wx0) (Fm_status_89 a1 wm0) = true := by
  by_cases h0 : 0 ≤ a1 ∧ a1 ≤ 2
  · skip
    exact List.all_eq_true.mp (en_38) _ (rg32 h0 0 3 (by decide) (by decide))
  · exact Qb_38_0 a1 h0
theorem Q_39 (a1 : Int32) : eqv (Ff_count_0 a1 wx0) (Fm_count_89 a1 wm0) = true := by
  by_cases h0 : 0 ≤ a1 ∧ a1 ≤ 8
  · skip
    exact List.all_eq_true.mp (en_39) _ (rg32 h0 0 9 (by decide) (by decide))
  · exact Qb_39_0 a1 h0
theorem Q_40 : eqv (Ff_digest_0 4200 wx0) (Fm_digest_89 4200 wm0) = true := en_40
