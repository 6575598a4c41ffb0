theorem en_8 : (pll.all fun a1 => pll.all fun a2 => (rgl 1 9).all fun a3 => eqv (Ff_lift_0 a1 a2 a3 wx0) (Fm_lift_89 a1 a2 a3 wm0)) = true := by decide +kernel
