theorem en_31_1 : ((rgl 0 2).all fun a3 => eqv (Ff_nets_0 8000 1 0 a3 wx0) (Fm_nets_89 8000 1 0 a3 wm0)) = true := by decide +kernel
