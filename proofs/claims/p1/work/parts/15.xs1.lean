theorem en_24_10 : (pll.all fun a2 => eqv (Ff_soonest_0 4200 10 a2 wx0) (Fm_soonest_89 4200 10 a2 wm0)) = true := by decide +kernel
theorem en_24_11 : (pll.all fun a2 => eqv (Ff_soonest_0 4200 11 a2 wx0) (Fm_soonest_89 4200 11 a2 wm0)) = true := by decide +kernel
theorem en_24_12 : (pll.all fun a2 => eqv (Ff_soonest_0 4200 12 a2 wx0) (Fm_soonest_89 4200 12 a2 wm0)) = true := by decide +kernel
theorem en_24_13 : (pll.all fun a2 => eqv (Ff_soonest_0 4200 13 a2 wx0) (Fm_soonest_89 4200 13 a2 wm0)) = true := by decide +kernel
