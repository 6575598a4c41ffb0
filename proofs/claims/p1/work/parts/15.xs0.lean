theorem en_24_0 : (pll.all fun a2 => eqv (Ff_soonest_0 4200 0 a2 wx0) (Fm_soonest_89 4200 0 a2 wm0)) = true := by decide +kernel
theorem en_24_1 : (pll.all fun a2 => eqv (Ff_soonest_0 4200 1 a2 wx0) (Fm_soonest_89 4200 1 a2 wm0)) = true := by decide +kernel
theorem en_24_2 : (pll.all fun a2 => eqv (Ff_soonest_0 4200 2 a2 wx0) (Fm_soonest_89 4200 2 a2 wm0)) = true := by decide +kernel
theorem en_24_3 : (pll.all fun a2 => eqv (Ff_soonest_0 4200 3 a2 wx0) (Fm_soonest_89 4200 3 a2 wm0)) = true := by decide +kernel
