theorem en_24_30 : (pll.all fun a2 => eqv (Ff_soonest_0 4200 30 a2 wx0) (Fm_soonest_89 4200 30 a2 wm0)) = true := by decide +kernel
theorem en_24_31 : (pll.all fun a2 => eqv (Ff_soonest_0 4200 31 a2 wx0) (Fm_soonest_89 4200 31 a2 wm0)) = true := by decide +kernel
theorem en_24_32 : (pll.all fun a2 => eqv (Ff_soonest_0 4200 32 a2 wx0) (Fm_soonest_89 4200 32 a2 wm0)) = true := by decide +kernel
theorem en_24_33 : (pll.all fun a2 => eqv (Ff_soonest_0 4200 33 a2 wx0) (Fm_soonest_89 4200 33 a2 wm0)) = true := by decide +kernel
