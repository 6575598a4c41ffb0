theorem en_32 : ((rgl 0 2).all fun a1 => eqv (Ff_tap_0 4200 a1 wx0) (Fm_tap_89 4200 a1 wm0)) = true := by decide +kernel
