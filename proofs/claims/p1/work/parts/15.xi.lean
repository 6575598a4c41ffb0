theorem en_1 : ((rgl 0 4).all fun a1 => (rgl 1 99).all fun a2 => eqv (Ff_water_0 a1 a2 wx0) (Fm_water_89 a1 a2 wm0)) = true := by decide +kernel
