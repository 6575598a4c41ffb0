theorem all_c {α : Type} {p : α → Bool} {a : α} {l : List α} (h : p a = true) (t : l.all p = true) : (a :: l).all p = true := by
  rw [List.all_cons, h, t]; rfl
theorem en_6_0 : ((rgl 1 99).all fun a2 => (rgl 1 9).all fun a3 => eqv (Ff_thing_0 0 a2 a3 wx0) (Fm_thing_89 0 a2 a3 wm0)) = true := by decide +kernel
theorem en_6_1 : ((rgl 1 99).all fun a2 => (rgl 1 9).all fun a3 => eqv (Ff_thing_0 1 a2 a3 wx0) (Fm_thing_89 1 a2 a3 wm0)) = true := by decide +kernel
theorem en_6_2 : ((rgl 1 99).all fun a2 => (rgl 1 9).all fun a3 => eqv (Ff_thing_0 2 a2 a3 wx0) (Fm_thing_89 2 a2 a3 wm0)) = true := by decide +kernel
theorem en_6_3 : ((rgl 1 99).all fun a2 => (rgl 1 9).all fun a3 => eqv (Ff_thing_0 3 a2 a3 wx0) (Fm_thing_89 3 a2 a3 wm0)) = true := by decide +kernel
theorem en_6_4 : ((rgl 1 99).all fun a2 => (rgl 1 9).all fun a3 => eqv (Ff_thing_0 4 a2 a3 wx0) (Fm_thing_89 4 a2 a3 wm0)) = true := by decide +kernel
theorem en_6_5 : ((rgl 1 99).all fun a2 => (rgl 1 9).all fun a3 => eqv (Ff_thing_0 5 a2 a3 wx0) (Fm_thing_89 5 a2 a3 wm0)) = true := by decide +kernel
theorem en_6 : ((rgl 0 6).all fun a1 => (rgl 1 99).all fun a2 => (rgl 1 9).all fun a3 => eqv (Ff_thing_0 a1 a2 a3 wx0) (Fm_thing_89 a1 a2 a3 wm0)) = true := by
  rw [show rgl 0 6 = [0, 1, 2, 3, 4, 5] from by decide]
  exact all_c en_6_0 (all_c en_6_1 (all_c en_6_2 (all_c en_6_3 (all_c en_6_4 (all_c en_6_5 (rfl))))))
