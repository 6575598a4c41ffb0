theorem en_0 : ((rgl 1 6).all fun a1 => eqv (Ff_sea_0 4200 a1 wx0) (Fm_sea_89 4200 a1 wm0)) = true := by decide +kernel
theorem en_2 : ((rgl 0 4).all fun a1 => (rgl 0 4).all fun a2 => (rgl 0 10).all fun a3 => eqv (Ff_thick_0 a1 a2 a3 wx0) (Fm_thick_89 a1 a2 a3 wm0)) = true := by decide +kernel
theorem en_3 : ((rgl 0 3).all fun a1 => (rgl 0 100).all fun a2 => eqv (Ff_skin_0 a1 a2 wx0) (Fm_skin_89 a1 a2 wm0)) = true := by decide +kernel
theorem en_4 : ((rgl 0 4).all fun a1 => (rgl 0 6).all fun a2 => (rgl (-2) 5).all fun a3 => eqv (Ff_tide_0 a1 a2 a3 wx0) (Fm_tide_89 a1 a2 a3 wm0)) = true := by decide +kernel
theorem en_5 : ((rgl 0 4).all fun a1 => (rgl (-1) 3).all fun a2 => eqv (Ff_current_0 a1 a2 wx0) (Fm_current_89 a1 a2 wm0)) = true := by decide +kernel
theorem en_10t : ((rgl 0 3).all fun a1 => eqv (Ff_dam_0 a1 0 wx0) (Fm_dam_89 a1 0 wm0)) = true := by decide +kernel
theorem en_10f : ((rgl 0 3).all fun a1 => eqv (Ff_dam_0 a1 1 wx0) (Fm_dam_89 a1 1 wm0)) = true := by decide +kernel
theorem en_11t : ((rgl 0 4).all fun a1 => eqv (Ff_drop_0 a1 0 wx0) (Fm_drop_89 a1 0 wm0)) = true := by decide +kernel
theorem en_11f : ((rgl 0 4).all fun a1 => eqv (Ff_drop_0 a1 1 wx0) (Fm_drop_89 a1 1 wm0)) = true := by decide +kernel
theorem en_12 : ((rgl 0 4).all fun a1 => eqv (Ff_clean_0 a1 wx0) (Fm_clean_89 a1 wm0)) = true := by decide +kernel
theorem en_13 : ((rgl 0 128).all fun a1 => eqv (Ff_type_0 a1 wx0) (Fm_type_89 a1 wm0)) = true := by decide +kernel
theorem en_14 : eqv (Ff_clear_0 wx0) (Fm_clear_89 wm0) = true := by decide +kernel
theorem en_15 : eqv (Ff_read_0 4200 wx0) (Fm_read_89 4200 wm0) = true := by decide +kernel
theorem en_16 : ((rgl 1 99).all fun a1 => eqv (Ff_hours_0 a1 wx0) (Fm_hours_89 4200 a1 wm0)) = true := by decide +kernel
theorem en_17 : eqv (Ff_undo_0 wx0) (Fm_undo_89 wm0) = true := by decide +kernel
theorem en_19 : ((rgl 0 4).all fun a1 => (rgl 0 4).all fun a2 => eqv (Ff_deep_0 a1 a2 wx0) (Fm_deep_89 a1 a2 wm0)) = true := by decide +kernel
theorem en_35 : ((rgl 0 2).all fun a1 => eqv (Ff_part_0 a1 wx0) (Fm_part_89 a1 wm0)) = true := by decide +kernel
theorem en_36 : ((rgl 0 2).all fun a1 => eqv (Ff_image_0 a1 wx0) (Fm_image_89 4200 a1 wm0)) = true := by decide +kernel
theorem en_37 : ((rgl 0 2).all fun a1 => eqv (Ff_from_0 a1 wx0) (Fm_from_89 4200 a1 wm0)) = true := by decide +kernel
theorem en_38 : ((rgl 0 3).all fun a1 => eqv (Ff_status_0 a1 wx0) (Fm_status_89 a1 wm0)) = true := by decide +kernel
theorem en_39 : ((rgl 0 9).all fun a1 => eqv (Ff_count_0 a1 wx0) (Fm_count_89 a1 wm0)) = true := by decide +kernel
theorem en_40 : eqv (Ff_digest_0 4200 wx0) (Fm_digest_89 4200 wm0) = true := by decide +kernel
theorem en_9 : (pll.all fun a1 => eqv (Ff_town_0 4200 a1 wx0) (Fm_town_89 4200 a1 wm0)) = true := by decide +kernel
