theorem Qs_8 (a1 a2 a3 : Int32) : eqv (Ff_lift_0 a1 a2 a3 wx0) (Fm_lift_89 a1 a2 a3 wm0) = true := by
  by_cases h0 : PL a1
  · by_cases h1 : PL a2
    · by_cases hne : a1 = a2
      · exact Qb_8_2x a1 a2 a3 h0 h1 hne
      · by_cases h2 : 1 ≤ a3 ∧ a3 ≤ 9
        · exact List.all_eq_true.mp (List.all_eq_true.mp (List.all_eq_true.mp en_8 _ (PL_mem h0)) _ (PL_mem h1)) _ (rg32 h2 1 9 (by decide) (by decide))
        · exact Qb_8_2 a1 a2 a3 h0 h1 h2 hne
    · exact Qb_8_1 a1 a2 a3 h0 h1
  · exact Qb_8_0 a1 a2 a3 h0
theorem Qs_9 (a1 : Int32) : eqv (Ff_town_0 4200 a1 wx0) (Fm_town_89 4200 a1 wm0) = true := by
  by_cases h0 : PL a1
  · exact List.all_eq_true.mp en_9 _ (PL_mem h0)
  · exact Qb_9_0 a1 h0
theorem Qs_24 (a1 a2 : Int32) : eqv (Ff_soonest_0 4200 a1 a2 wx0) (Fm_soonest_89 4200 a1 a2 wm0) = true := by
  by_cases h0 : PL a1
  · by_cases h1 : PL a2
    · have hm := PL_mem h0
      unfold pll at hm
      simp only [List.mem_cons, List.not_mem_nil, or_false] at hm
      rcases hm with rfl | rfl | rfl | rfl | rfl | rfl | rfl | rfl | rfl | rfl | rfl | rfl | rfl | rfl | rfl | rfl
      · exact List.all_eq_true.mp en_24_0 _ (PL_mem h1)
      · exact List.all_eq_true.mp en_24_1 _ (PL_mem h1)
      · exact List.all_eq_true.mp en_24_2 _ (PL_mem h1)
      · exact List.all_eq_true.mp en_24_3 _ (PL_mem h1)
      · exact List.all_eq_true.mp en_24_10 _ (PL_mem h1)
      · exact List.all_eq_true.mp en_24_11 _ (PL_mem h1)
      · exact List.all_eq_true.mp en_24_12 _ (PL_mem h1)
      · exact List.all_eq_true.mp en_24_13 _ (PL_mem h1)
      · exact List.all_eq_true.mp en_24_20 _ (PL_mem h1)
      · exact List.all_eq_true.mp en_24_21 _ (PL_mem h1)
      · exact List.all_eq_true.mp en_24_22 _ (PL_mem h1)
      · exact List.all_eq_true.mp en_24_23 _ (PL_mem h1)
      · exact List.all_eq_true.mp en_24_30 _ (PL_mem h1)
      · exact List.all_eq_true.mp en_24_31 _ (PL_mem h1)
      · exact List.all_eq_true.mp en_24_32 _ (PL_mem h1)
      · exact List.all_eq_true.mp en_24_33 _ (PL_mem h1)
    · exact Qb_24_1 a1 a2 h0 h1
  · exact Qb_24_0 a1 a2 h0
theorem le0 {a : Int32} (h : 0 ≤ a ∧ a ≤ 0) : a = 0 := Int32.le_antisymm h.2 h.1
theorem fish0 : Ff_areFish_0 8000 0 wx0 = some (1, wx0) := rfl
theorem Qs_31 (a1 a2 a3 : Int32) : eqv (Ff_nets_0 8000 a1 a2 a3 wx0) (Fm_nets_89 8000 a1 a2 a3 wm0) = true := by
  by_cases h0 : 0 ≤ a1 ∧ a1 ≤ 3
  · by_cases h1 : 0 ≤ a2 ∧ a2 ≤ 0
    · by_cases h2 : 0 ≤ a3 ∧ a3 ≤ 1
      · have e := le0 h1
        subst e
        have hm := rg32 h0 0 4 (by decide) (by decide)
        have hm2 : a1 ∈ ([0, 1, 2, 3] : List Int32) := hm
        simp only [List.mem_cons, List.not_mem_nil, or_false] at hm2
        have h3 := rg32 h2 0 2 (by decide) (by decide)
        rcases hm2 with rfl | rfl | rfl | rfl
        · exact List.all_eq_true.mp en_31_0 _ h3
        · exact List.all_eq_true.mp en_31_1 _ h3
        · exact List.all_eq_true.mp en_31_2 _ h3
        · exact List.all_eq_true.mp en_31_3 _ h3
      · exact Qb_31_2 a1 a2 a3 h0 h1 h2 (by rw [le0 h1]; exact fish0)
    · exact Qb_31_1 a1 a2 a3 h0 h1
  · exact Qb_31_0 a1 a2 a3 h0
