theorem en_6 : ((rgl 0 6).all fun a1 => (rgl 1 99).all fun a2 => (rgl 1 9).all fun a3 => eqv (Ff_thing_0 a1 a2 a3 wx0) (Fm_thing_89 a1 a2 a3 wm0)) = true := by decide +kernel
