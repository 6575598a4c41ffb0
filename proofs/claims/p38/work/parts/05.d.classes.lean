/-! the classes of the world -/
def ai_okX (ci : Nat) (t : vw_C) : Prop := (∀ w ∈ u_ws t.1 t.2.1 t.2.2, w ∈ ai_gt) ∧ (∃ ty : Nat → FieldType, (∀ k, k < t.2.2 → parseFieldDescriptor (t.2.1 k).2.2.1 = some (ty k)) ∧ ∀ k, k < t.2.2 → defaultValue (ty k) = vp_V (ai_df ci) k) ∧ (∀ a, a < t.2.2 → ∀ b, b < t.2.2 → a ≠ b → (t.2.1 a).2.1 ≠ (t.2.1 b).2.1) ∧ Jvm.Cond.instantiable t.1 t.2.2 ∈ ai_gt ∧ Jvm.Cond.initialized t.1 ∈ ai_gt ∧ ai_cn ci = t.1 ∧ (ai_df ci).length = t.2.2 ∧ ai_dfN ci = t.2.2
theorem ai_inG {ws : List Jvm.Cond} (h : ∀ w ∈ ws, w ∈ lw_tbl) (g : ∀ w ∈ ws, goodWord w = true) : ∀ w ∈ ws, w ∈ ai_gt := fun w hw => List.mem_filter.mpr ⟨h w hw, g w hw⟩
theorem ai_xO0 : ai_okX 0 (RX0, TX0, 8) := ⟨ai_inG (by decide +kernel) (by decide +kernel), ⟨tyX0, tyX0_ok, by decide +kernel⟩, nmX0, List.mem_filter.mpr ⟨by decide +kernel, by decide +kernel⟩, List.mem_filter.mpr ⟨by decide +kernel, by decide +kernel⟩, rfl, rfl, rfl⟩
theorem ai_xO1 : ai_okX 1 (RX1, TX1, 4) := ⟨ai_inG (by decide +kernel) (by decide +kernel), ⟨tyX1, tyX1_ok, by decide +kernel⟩, nmX1, List.mem_filter.mpr ⟨by decide +kernel, by decide +kernel⟩, List.mem_filter.mpr ⟨by decide +kernel, by decide +kernel⟩, rfl, rfl, rfl⟩
theorem ai_xO2 : ai_okX 2 (RX2, TX2, 17) := ⟨ai_inG (by decide +kernel) (by decide +kernel), ⟨tyX2, tyX2_ok, by decide +kernel⟩, nmX2, List.mem_filter.mpr ⟨by decide +kernel, by decide +kernel⟩, List.mem_filter.mpr ⟨by decide +kernel, by decide +kernel⟩, rfl, rfl, rfl⟩
theorem ai_xO3 : ai_okX 3 (RX3, TX3, 2) := ⟨ai_inG (by decide +kernel) (by decide +kernel), ⟨tyX3, tyX3_ok, by decide +kernel⟩, nmX3, List.mem_filter.mpr ⟨by decide +kernel, by decide +kernel⟩, List.mem_filter.mpr ⟨by decide +kernel, by decide +kernel⟩, rfl, rfl, rfl⟩
theorem ai_xO4 : ai_okX 4 (RX4, TX4, 6) := ⟨ai_inG (by decide +kernel) (by decide +kernel), ⟨tyX4, tyX4_ok, by decide +kernel⟩, nmX4, List.mem_filter.mpr ⟨by decide +kernel, by decide +kernel⟩, List.mem_filter.mpr ⟨by decide +kernel, by decide +kernel⟩, rfl, rfl, rfl⟩
theorem ai_xO5 : ai_okX 5 (RX5, TX5, 5) := ⟨ai_inG (by decide +kernel) (by decide +kernel), ⟨tyX5, tyX5_ok, by decide +kernel⟩, nmX5, List.mem_filter.mpr ⟨by decide +kernel, by decide +kernel⟩, List.mem_filter.mpr ⟨by decide +kernel, by decide +kernel⟩, rfl, rfl, rfl⟩
theorem ai_xO6 : ai_okX 6 (RX6, TX6, 1) := ⟨ai_inG (by decide +kernel) (by decide +kernel), ⟨tyX6, tyX6_ok, by decide +kernel⟩, nmX6, List.mem_filter.mpr ⟨by decide +kernel, by decide +kernel⟩, List.mem_filter.mpr ⟨by decide +kernel, by decide +kernel⟩, rfl, rfl, rfl⟩
theorem ai_xO7 : ai_okX 7 (RX7, TX7, 15) := ⟨ai_inG (by decide +kernel) (by decide +kernel), ⟨tyX7, tyX7_ok, by decide +kernel⟩, nmX7, List.mem_filter.mpr ⟨by decide +kernel, by decide +kernel⟩, List.mem_filter.mpr ⟨by decide +kernel, by decide +kernel⟩, rfl, rfl, rfl⟩
theorem ai_xO8 : ai_okX 8 (RX8, TX8, 28) := ⟨ai_inG (by decide +kernel) (by decide +kernel), ⟨tyX8, tyX8_ok, by decide +kernel⟩, nmX8, List.mem_filter.mpr ⟨by decide +kernel, by decide +kernel⟩, List.mem_filter.mpr ⟨by decide +kernel, by decide +kernel⟩, rfl, rfl, rfl⟩
theorem ai_xO : ∀ (ci : Nat) (t : vw_C), ai_nth vwCl ci = some t → ai_okX ci t
  | 0, _, h => by cases h; exact ai_xO0
  | 1, _, h => by cases h; exact ai_xO1
  | 2, _, h => by cases h; exact ai_xO2
  | 3, _, h => by cases h; exact ai_xO3
  | 4, _, h => by cases h; exact ai_xO4
  | 5, _, h => by cases h; exact ai_xO5
  | 6, _, h => by cases h; exact ai_xO6
  | 7, _, h => by cases h; exact ai_xO7
  | 8, _, h => by cases h; exact ai_xO8
  | _ + 9, _, h => by cases h
