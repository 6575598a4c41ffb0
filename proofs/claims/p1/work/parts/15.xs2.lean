theorem en_24_20 : (pll.all fun a2 => eqv (Ff_soonest_0 4200 20 a2 wx0) (Fm_soonest_89 4200 20 a2 wm0)) = true := by decide +kernel
theorem en_24_21 : (pll.all fun a2 => eqv (Ff_soonest_0 4200 21 a2 wx0) (Fm_soonest_89 4200 21 a2 wm0)) = true := by decide +kernel
theorem en_24_22 : (pll.all fun a2 => eqv (Ff_soonest_0 4200 22 a2 wx0) (Fm_soonest_89 4200 22 a2 wm0)) = true := by decide +kernel
theorem en_24_23 : (pll.all fun a2 => eqv (Ff_soonest_0 4200 23 a2 wx0) (Fm_soonest_89 4200 23 a2 wm0)) = true := by decide +kernel
