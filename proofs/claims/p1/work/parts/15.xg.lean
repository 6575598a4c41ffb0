theorem en_33 : ((rgl 1 9).all fun a1 => (rgl 0 2).all fun a2 => eqv (Ff_known_0 4200 a1 a2 wx0) (Fm_known_89 4200 a1 a2 wm0)) = true := by decide +kernel
