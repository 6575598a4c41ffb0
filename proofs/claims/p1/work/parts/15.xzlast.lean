theorem zz_en_0 : ((rgl 1 6).all fun a1 => eqv (Ff_sea_0 4200 a1 wx0) (Fm_sea_89 4200 a1 wm0)) = true := by decide +kernel
theorem zz_en_2 : ((rgl 0 4).all fun a1 => (rgl 0 4).all fun a2 => (rgl 0 10).all fun a3 => eqv (Ff_thick_0 a1 a2 a3 wx0) (Fm_thick_89 a1 a2 a3 wm0)) = true := by decide +kernel
