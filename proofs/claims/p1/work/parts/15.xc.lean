theorem en_8_0 : (pll.all fun a2 => (rgl 1 9).all fun a3 => eqv (Ff_lift_0 0 a2 a3 wx0) (Fm_lift_89 0 a2 a3 wm0)) = true := by decide +kernel
theorem en_8_1 : (pll.all fun a2 => (rgl 1 9).all fun a3 => eqv (Ff_lift_0 1 a2 a3 wx0) (Fm_lift_89 1 a2 a3 wm0)) = true := by decide +kernel
theorem en_8_2 : (pll.all fun a2 => (rgl 1 9).all fun a3 => eqv (Ff_lift_0 2 a2 a3 wx0) (Fm_lift_89 2 a2 a3 wm0)) = true := by decide +kernel
theorem en_8_3 : (pll.all fun a2 => (rgl 1 9).all fun a3 => eqv (Ff_lift_0 3 a2 a3 wx0) (Fm_lift_89 3 a2 a3 wm0)) = true := by decide +kernel
theorem en_8_10 : (pll.all fun a2 => (rgl 1 9).all fun a3 => eqv (Ff_lift_0 10 a2 a3 wx0) (Fm_lift_89 10 a2 a3 wm0)) = true := by decide +kernel
theorem en_8_11 : (pll.all fun a2 => (rgl 1 9).all fun a3 => eqv (Ff_lift_0 11 a2 a3 wx0) (Fm_lift_89 11 a2 a3 wm0)) = true := by decide +kernel
theorem en_8_12 : (pll.all fun a2 => (rgl 1 9).all fun a3 => eqv (Ff_lift_0 12 a2 a3 wx0) (Fm_lift_89 12 a2 a3 wm0)) = true := by decide +kernel
theorem en_8_13 : (pll.all fun a2 => (rgl 1 9).all fun a3 => eqv (Ff_lift_0 13 a2 a3 wx0) (Fm_lift_89 13 a2 a3 wm0)) = true := by decide +kernel
theorem en_8_20 : (pll.all fun a2 => (rgl 1 9).all fun a3 => eqv (Ff_lift_0 20 a2 a3 wx0) (Fm_lift_89 20 a2 a3 wm0)) = true := by decide +kernel
theorem en_8_21 : (pll.all fun a2 => (rgl 1 9).all fun a3 => eqv (Ff_lift_0 21 a2 a3 wx0) (Fm_lift_89 21 a2 a3 wm0)) = true := by decide +kernel
theorem en_8_22 : (pll.all fun a2 => (rgl 1 9).all fun a3 => eqv (Ff_lift_0 22 a2 a3 wx0) (Fm_lift_89 22 a2 a3 wm0)) = true := by decide +kernel
theorem en_8_23 : (pll.all fun a2 => (rgl 1 9).all fun a3 => eqv (Ff_lift_0 23 a2 a3 wx0) (Fm_lift_89 23 a2 a3 wm0)) = true := by decide +kernel
theorem en_8_30 : (pll.all fun a2 => (rgl 1 9).all fun a3 => eqv (Ff_lift_0 30 a2 a3 wx0) (Fm_lift_89 30 a2 a3 wm0)) = true := by decide +kernel
theorem en_8_31 : (pll.all fun a2 => (rgl 1 9).all fun a3 => eqv (Ff_lift_0 31 a2 a3 wx0) (Fm_lift_89 31 a2 a3 wm0)) = true := by decide +kernel
theorem en_8_32 : (pll.all fun a2 => (rgl 1 9).all fun a3 => eqv (Ff_lift_0 32 a2 a3 wx0) (Fm_lift_89 32 a2 a3 wm0)) = true := by decide +kernel
theorem en_8_33 : (pll.all fun a2 => (rgl 1 9).all fun a3 => eqv (Ff_lift_0 33 a2 a3 wx0) (Fm_lift_89 33 a2 a3 wm0)) = true := by decide +kernel
theorem en_8 : (pll.all fun a1 => pll.all fun a2 => (rgl 1 9).all fun a3 => eqv (Ff_lift_0 a1 a2 a3 wx0) (Fm_lift_89 a1 a2 a3 wm0)) = true := by
  rw [show (pll.all fun a1 => pll.all fun a2 => (rgl 1 9).all fun a3 => eqv (Ff_lift_0 a1 a2 a3 wx0) (Fm_lift_89 a1 a2 a3 wm0)) = (([0, 1, 2, 3, 10, 11, 12, 13, 20, 21, 22, 23, 30, 31, 32, 33] : List Int32).all fun a1 => pll.all fun a2 => (rgl 1 9).all fun a3 => eqv (Ff_lift_0 a1 a2 a3 wx0) (Fm_lift_89 a1 a2 a3 wm0)) from rfl]
  exact all_c en_8_0 (all_c en_8_1 (all_c en_8_2 (all_c en_8_3 (all_c en_8_10 (all_c en_8_11 (all_c en_8_12 (all_c en_8_13 (all_c en_8_20 (all_c en_8_21 (all_c en_8_22 (all_c en_8_23 (all_c en_8_30 (all_c en_8_31 (all_c en_8_32 (all_c en_8_33 (rfl))))))))))))))))
