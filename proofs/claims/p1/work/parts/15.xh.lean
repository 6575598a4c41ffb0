theorem en_28 : ((rgl 0 100).all fun a1 => (rgl 0 4).all fun a2 => (rgl 0 2).all fun a3 => eqv (Ff_shaken_0 4200 a1 a2 a3 wx0) (Fm_shaken_89 4200 a1 a2 a3 wm0)) = true := by decide +kernel
