/-! hours, images, and what is told of it all -/
def X3 (w : WX) (s : TS) (t : TT) (l : TL) : WX := (w.1, w.2.1, w.2.2.1, w.2.2.2.1, w.2.2.2.2.1, w.2.2.2.2.2.1, w.2.2.2.2.2.2.1, s, t, l, w.2.2.2.2.2.2.2.2.2.2)
def X4 (w : WX) (s : TS) (t : TT) (l : TL) : WX := (w.1, w.2.1, w.2.2.1, w.2.2.2.1, w.2.2.2.2.1, w.2.2.2.2.2.1, w.2.2.2.2.2.2.1, w.2.2.2.2.2.2.2.1, w.2.2.2.2.2.2.2.2.1, w.2.2.2.2.2.2.2.2.2.1, s, t, l, w.2.2.2.2.2.2.2.2.2.2.2.2.2)
set_option maxHeartbeats 4000000 in
theorem copy_1_20 (w : WX) (h1 : LSe w.2.2.2.2.1 w.2.2.2.2.2.1 w.2.2.2.2.2.2.1) (h2 : LSe w.2.1 w.2.2.1 w.2.2.2.1) : Fsea_copyFrom_1_20 w = some (X1 w w.2.2.2.2.1 w.2.2.2.2.2.1 w.2.2.2.2.2.2.1) := by
  unfold Fsea_copyFrom_1_20
  rw [cpy_all (f := a_s2_densities w) (g := a_s1_densities w) (n := 4) 4 rfl (by decide) (LSe_dens h1) (LSe_dens h2), bd_some]
  rw [cpy_all (f := a_s2_currents w) (g := a_s1_currents w) (n := 4) 4 rfl (by decide) (LSe_cur h1) (LSe_cur h2), bd_some]
  rw [cpy_all (f := a_s2_tides w) (g := a_s1_tides w) (n := 24) 24 rfl (by decide) (LSe_tides h1) (LSe_tides h2), bd_some]
  rw [cpy_all (f := a_s2_thicks w) (g := a_s1_thicks w) (n := 24) 24 rfl (by decide) (LSe_thicks h1) (LSe_thicks h2), bd_some]
  rw [cpy_all (f := a_s2_skins w) (g := a_s1_skins w) (n := 3) 3 rfl (by decide) (LSe_skins h1) (LSe_skins h2), bd_some]
  unfold Fthg_copyFrom_7_26
  rw [cpy_all (f := a_s2things_kinds w) (g := a_s1things_kinds w) (n := 6) 6 rfl (by decide) (LSe_kinds h1) (LSe_kinds h2), bd_some]
  rw [cpy_all (f := a_s2things_weights w) (g := a_s1things_weights w) (n := 6) 6 rfl (by decide) (LSe_weights h1) (LSe_weights h2), bd_some]
  rw [cpy_all (f := a_s2things_volumes w) (g := a_s1things_volumes w) (n := 6) 6 rfl (by decide) (LSe_volumes h1) (LSe_volumes h2), bd_some]
  rw [cpy_all (f := a_s2things_ballasts w) (g := a_s1things_ballasts w) (n := 6) 6 rfl (by decide) (LSe_ballasts h1) (LSe_ballasts h2), bd_some]
  rw [bd_some]
  unfold Flift_copyFrom_12_31
  rw [cpy_all (f := a_s2lifts_froms w) (g := a_s1lifts_froms w) (n := 10) 10 rfl (by decide) (LSe_froms h1) (LSe_froms h2), bd_some]
  rw [cpy_all (f := a_s2lifts_tos w) (g := a_s1lifts_tos w) (n := 10) 10 rfl (by decide) (LSe_tos h1) (LSe_tos h2), bd_some]
  rw [cpy_all (f := a_s2lifts_times w) (g := a_s1lifts_times w) (n := 10) 10 rfl (by decide) (LSe_times h1) (LSe_times h2), bd_some]
  rw [bd_some]
  rw [cpy_all (f := a_s2_townPlaces w) (g := a_s1_townPlaces w) (n := 6) 6 rfl (by decide) (LSe_townPlaces h1) (LSe_townPlaces h2), bd_some]
  rw [cpy_all (f := a_s2_dropLayers w) (g := a_s1_dropLayers w) (n := 6) 6 rfl (by decide) (LSe_dropLayers h1) (LSe_dropLayers h2), bd_some]
  rw [cpy_all (f := a_s2_dropFloats w) (g := a_s1_dropFloats w) (n := 6) 6 rfl (by decide) (LSe_dropFloats h1) (LSe_dropFloats h2), bd_some]
  rw [cpy_all (f := a_s2_hoursBefore w) (g := a_s1_hoursBefore w) (n := 10) 10 rfl (by decide) (LSe_hoursBefore h1) (LSe_hoursBefore h2), bd_some]
  rfl
set_option maxHeartbeats 4000000 in
theorem copy_39_1 (w : WX) (h1 : LSe w.2.1 w.2.2.1 w.2.2.2.1) (h2 : LSe w.2.2.2.2.2.2.2.1 w.2.2.2.2.2.2.2.2.1 w.2.2.2.2.2.2.2.2.2.1) : Fsea_copyFrom_39_1 w = some (X3 w w.2.1 w.2.2.1 w.2.2.2.1) := by
  unfold Fsea_copyFrom_39_1
  rw [cpy_all (f := a_s1_densities w) (g := a_s3_densities w) (n := 4) 4 rfl (by decide) (LSe_dens h1) (LSe_dens h2), bd_some]
  rw [cpy_all (f := a_s1_currents w) (g := a_s3_currents w) (n := 4) 4 rfl (by decide) (LSe_cur h1) (LSe_cur h2), bd_some]
  rw [cpy_all (f := a_s1_tides w) (g := a_s3_tides w) (n := 24) 24 rfl (by decide) (LSe_tides h1) (LSe_tides h2), bd_some]
  rw [cpy_all (f := a_s1_thicks w) (g := a_s3_thicks w) (n := 24) 24 rfl (by decide) (LSe_thicks h1) (LSe_thicks h2), bd_some]
  rw [cpy_all (f := a_s1_skins w) (g := a_s3_skins w) (n := 3) 3 rfl (by decide) (LSe_skins h1) (LSe_skins h2), bd_some]
  unfold Fthg_copyFrom_45_7
  rw [cpy_all (f := a_s1things_kinds w) (g := a_s3things_kinds w) (n := 6) 6 rfl (by decide) (LSe_kinds h1) (LSe_kinds h2), bd_some]
  rw [cpy_all (f := a_s1things_weights w) (g := a_s3things_weights w) (n := 6) 6 rfl (by decide) (LSe_weights h1) (LSe_weights h2), bd_some]
  rw [cpy_all (f := a_s1things_volumes w) (g := a_s3things_volumes w) (n := 6) 6 rfl (by decide) (LSe_volumes h1) (LSe_volumes h2), bd_some]
  rw [cpy_all (f := a_s1things_ballasts w) (g := a_s3things_ballasts w) (n := 6) 6 rfl (by decide) (LSe_ballasts h1) (LSe_ballasts h2), bd_some]
  rw [bd_some]
  unfold Flift_copyFrom_50_12
  rw [cpy_all (f := a_s1lifts_froms w) (g := a_s3lifts_froms w) (n := 10) 10 rfl (by decide) (LSe_froms h1) (LSe_froms h2), bd_some]
  rw [cpy_all (f := a_s1lifts_tos w) (g := a_s3lifts_tos w) (n := 10) 10 rfl (by decide) (LSe_tos h1) (LSe_tos h2), bd_some]
  rw [cpy_all (f := a_s1lifts_times w) (g := a_s3lifts_times w) (n := 10) 10 rfl (by decide) (LSe_times h1) (LSe_times h2), bd_some]
  rw [bd_some]
  rw [cpy_all (f := a_s1_townPlaces w) (g := a_s3_townPlaces w) (n := 6) 6 rfl (by decide) (LSe_townPlaces h1) (LSe_townPlaces h2), bd_some]
  rw [cpy_all (f := a_s1_dropLayers w) (g := a_s3_dropLayers w) (n := 6) 6 rfl (by decide) (LSe_dropLayers h1) (LSe_dropLayers h2), bd_some]
  rw [cpy_all (f := a_s1_dropFloats w) (g := a_s3_dropFloats w) (n := 6) 6 rfl (by decide) (LSe_dropFloats h1) (LSe_dropFloats h2), bd_some]
  rw [cpy_all (f := a_s1_hoursBefore w) (g := a_s3_hoursBefore w) (n := 10) 10 rfl (by decide) (LSe_hoursBefore h1) (LSe_hoursBefore h2), bd_some]
  rfl
set_option maxHeartbeats 4000000 in
theorem copy_58_1 (w : WX) (h1 : LSe w.2.1 w.2.2.1 w.2.2.2.1) (h2 : LSe w.2.2.2.2.2.2.2.2.2.2.1 w.2.2.2.2.2.2.2.2.2.2.2.1 w.2.2.2.2.2.2.2.2.2.2.2.2.1) : Fsea_copyFrom_58_1 w = some (X4 w w.2.1 w.2.2.1 w.2.2.2.1) := by
  unfold Fsea_copyFrom_58_1
  rw [cpy_all (f := a_s1_densities w) (g := a_s4_densities w) (n := 4) 4 rfl (by decide) (LSe_dens h1) (LSe_dens h2), bd_some]
  rw [cpy_all (f := a_s1_currents w) (g := a_s4_currents w) (n := 4) 4 rfl (by decide) (LSe_cur h1) (LSe_cur h2), bd_some]
  rw [cpy_all (f := a_s1_tides w) (g := a_s4_tides w) (n := 24) 24 rfl (by decide) (LSe_tides h1) (LSe_tides h2), bd_some]
  rw [cpy_all (f := a_s1_thicks w) (g := a_s4_thicks w) (n := 24) 24 rfl (by decide) (LSe_thicks h1) (LSe_thicks h2), bd_some]
  rw [cpy_all (f := a_s1_skins w) (g := a_s4_skins w) (n := 3) 3 rfl (by decide) (LSe_skins h1) (LSe_skins h2), bd_some]
  unfold Fthg_copyFrom_64_7
  rw [cpy_all (f := a_s1things_kinds w) (g := a_s4things_kinds w) (n := 6) 6 rfl (by decide) (LSe_kinds h1) (LSe_kinds h2), bd_some]
  rw [cpy_all (f := a_s1things_weights w) (g := a_s4things_weights w) (n := 6) 6 rfl (by decide) (LSe_weights h1) (LSe_weights h2), bd_some]
  rw [cpy_all (f := a_s1things_volumes w) (g := a_s4things_volumes w) (n := 6) 6 rfl (by decide) (LSe_volumes h1) (LSe_volumes h2), bd_some]
  rw [cpy_all (f := a_s1things_ballasts w) (g := a_s4things_ballasts w) (n := 6) 6 rfl (by decide) (LSe_ballasts h1) (LSe_ballasts h2), bd_some]
  rw [bd_some]
  unfold Flift_copyFrom_69_12
  rw [cpy_all (f := a_s1lifts_froms w) (g := a_s4lifts_froms w) (n := 10) 10 rfl (by decide) (LSe_froms h1) (LSe_froms h2), bd_some]
  rw [cpy_all (f := a_s1lifts_tos w) (g := a_s4lifts_tos w) (n := 10) 10 rfl (by decide) (LSe_tos h1) (LSe_tos h2), bd_some]
  rw [cpy_all (f := a_s1lifts_times w) (g := a_s4lifts_times w) (n := 10) 10 rfl (by decide) (LSe_times h1) (LSe_times h2), bd_some]
  rw [bd_some]
  rw [cpy_all (f := a_s1_townPlaces w) (g := a_s4_townPlaces w) (n := 6) 6 rfl (by decide) (LSe_townPlaces h1) (LSe_townPlaces h2), bd_some]
  rw [cpy_all (f := a_s1_dropLayers w) (g := a_s4_dropLayers w) (n := 6) 6 rfl (by decide) (LSe_dropLayers h1) (LSe_dropLayers h2), bd_some]
  rw [cpy_all (f := a_s1_dropFloats w) (g := a_s4_dropFloats w) (n := 6) 6 rfl (by decide) (LSe_dropFloats h1) (LSe_dropFloats h2), bd_some]
  rw [cpy_all (f := a_s1_hoursBefore w) (g := a_s4_hoursBefore w) (n := 10) 10 rfl (by decide) (LSe_hoursBefore h1) (LSe_hoursBefore h2), bd_some]
  rfl
set_option maxHeartbeats 4000000 in
theorem copy_1_39 (w : WX) (h1 : LSe w.2.2.2.2.2.2.2.1 w.2.2.2.2.2.2.2.2.1 w.2.2.2.2.2.2.2.2.2.1) (h2 : LSe w.2.1 w.2.2.1 w.2.2.2.1) : Fsea_copyFrom_1_39 w = some (X1 w w.2.2.2.2.2.2.2.1 w.2.2.2.2.2.2.2.2.1 w.2.2.2.2.2.2.2.2.2.1) := by
  unfold Fsea_copyFrom_1_39
  rw [cpy_all (f := a_s3_densities w) (g := a_s1_densities w) (n := 4) 4 rfl (by decide) (LSe_dens h1) (LSe_dens h2), bd_some]
  rw [cpy_all (f := a_s3_currents w) (g := a_s1_currents w) (n := 4) 4 rfl (by decide) (LSe_cur h1) (LSe_cur h2), bd_some]
  rw [cpy_all (f := a_s3_tides w) (g := a_s1_tides w) (n := 24) 24 rfl (by decide) (LSe_tides h1) (LSe_tides h2), bd_some]
  rw [cpy_all (f := a_s3_thicks w) (g := a_s1_thicks w) (n := 24) 24 rfl (by decide) (LSe_thicks h1) (LSe_thicks h2), bd_some]
  rw [cpy_all (f := a_s3_skins w) (g := a_s1_skins w) (n := 3) 3 rfl (by decide) (LSe_skins h1) (LSe_skins h2), bd_some]
  unfold Fthg_copyFrom_7_45
  rw [cpy_all (f := a_s3things_kinds w) (g := a_s1things_kinds w) (n := 6) 6 rfl (by decide) (LSe_kinds h1) (LSe_kinds h2), bd_some]
  rw [cpy_all (f := a_s3things_weights w) (g := a_s1things_weights w) (n := 6) 6 rfl (by decide) (LSe_weights h1) (LSe_weights h2), bd_some]
  rw [cpy_all (f := a_s3things_volumes w) (g := a_s1things_volumes w) (n := 6) 6 rfl (by decide) (LSe_volumes h1) (LSe_volumes h2), bd_some]
  rw [cpy_all (f := a_s3things_ballasts w) (g := a_s1things_ballasts w) (n := 6) 6 rfl (by decide) (LSe_ballasts h1) (LSe_ballasts h2), bd_some]
  rw [bd_some]
  unfold Flift_copyFrom_12_50
  rw [cpy_all (f := a_s3lifts_froms w) (g := a_s1lifts_froms w) (n := 10) 10 rfl (by decide) (LSe_froms h1) (LSe_froms h2), bd_some]
  rw [cpy_all (f := a_s3lifts_tos w) (g := a_s1lifts_tos w) (n := 10) 10 rfl (by decide) (LSe_tos h1) (LSe_tos h2), bd_some]
  rw [cpy_all (f := a_s3lifts_times w) (g := a_s1lifts_times w) (n := 10) 10 rfl (by decide) (LSe_times h1) (LSe_times h2), bd_some]
  rw [bd_some]
  rw [cpy_all (f := a_s3_townPlaces w) (g := a_s1_townPlaces w) (n := 6) 6 rfl (by decide) (LSe_townPlaces h1) (LSe_townPlaces h2), bd_some]
  rw [cpy_all (f := a_s3_dropLayers w) (g := a_s1_dropLayers w) (n := 6) 6 rfl (by decide) (LSe_dropLayers h1) (LSe_dropLayers h2), bd_some]
  rw [cpy_all (f := a_s3_dropFloats w) (g := a_s1_dropFloats w) (n := 6) 6 rfl (by decide) (LSe_dropFloats h1) (LSe_dropFloats h2), bd_some]
  rw [cpy_all (f := a_s3_hoursBefore w) (g := a_s1_hoursBefore w) (n := 10) 10 rfl (by decide) (LSe_hoursBefore h1) (LSe_hoursBefore h2), bd_some]
  rfl
set_option maxHeartbeats 4000000 in
theorem copy_1_58 (w : WX) (h1 : LSe w.2.2.2.2.2.2.2.2.2.2.1 w.2.2.2.2.2.2.2.2.2.2.2.1 w.2.2.2.2.2.2.2.2.2.2.2.2.1) (h2 : LSe w.2.1 w.2.2.1 w.2.2.2.1) : Fsea_copyFrom_1_58 w = some (X1 w w.2.2.2.2.2.2.2.2.2.2.1 w.2.2.2.2.2.2.2.2.2.2.2.1 w.2.2.2.2.2.2.2.2.2.2.2.2.1) := by
  unfold Fsea_copyFrom_1_58
  rw [cpy_all (f := a_s4_densities w) (g := a_s1_densities w) (n := 4) 4 rfl (by decide) (LSe_dens h1) (LSe_dens h2), bd_some]
  rw [cpy_all (f := a_s4_currents w) (g := a_s1_currents w) (n := 4) 4 rfl (by decide) (LSe_cur h1) (LSe_cur h2), bd_some]
  rw [cpy_all (f := a_s4_tides w) (g := a_s1_tides w) (n := 24) 24 rfl (by decide) (LSe_tides h1) (LSe_tides h2), bd_some]
  rw [cpy_all (f := a_s4_thicks w) (g := a_s1_thicks w) (n := 24) 24 rfl (by decide) (LSe_thicks h1) (LSe_thicks h2), bd_some]
  rw [cpy_all (f := a_s4_skins w) (g := a_s1_skins w) (n := 3) 3 rfl (by decide) (LSe_skins h1) (LSe_skins h2), bd_some]
  unfold Fthg_copyFrom_7_64
  rw [cpy_all (f := a_s4things_kinds w) (g := a_s1things_kinds w) (n := 6) 6 rfl (by decide) (LSe_kinds h1) (LSe_kinds h2), bd_some]
  rw [cpy_all (f := a_s4things_weights w) (g := a_s1things_weights w) (n := 6) 6 rfl (by decide) (LSe_weights h1) (LSe_weights h2), bd_some]
  rw [cpy_all (f := a_s4things_volumes w) (g := a_s1things_volumes w) (n := 6) 6 rfl (by decide) (LSe_volumes h1) (LSe_volumes h2), bd_some]
  rw [cpy_all (f := a_s4things_ballasts w) (g := a_s1things_ballasts w) (n := 6) 6 rfl (by decide) (LSe_ballasts h1) (LSe_ballasts h2), bd_some]
  rw [bd_some]
  unfold Flift_copyFrom_12_69
  rw [cpy_all (f := a_s4lifts_froms w) (g := a_s1lifts_froms w) (n := 10) 10 rfl (by decide) (LSe_froms h1) (LSe_froms h2), bd_some]
  rw [cpy_all (f := a_s4lifts_tos w) (g := a_s1lifts_tos w) (n := 10) 10 rfl (by decide) (LSe_tos h1) (LSe_tos h2), bd_some]
  rw [cpy_all (f := a_s4lifts_times w) (g := a_s1lifts_times w) (n := 10) 10 rfl (by decide) (LSe_times h1) (LSe_times h2), bd_some]
  rw [bd_some]
  rw [cpy_all (f := a_s4_townPlaces w) (g := a_s1_townPlaces w) (n := 6) 6 rfl (by decide) (LSe_townPlaces h1) (LSe_townPlaces h2), bd_some]
  rw [cpy_all (f := a_s4_dropLayers w) (g := a_s1_dropLayers w) (n := 6) 6 rfl (by decide) (LSe_dropLayers h1) (LSe_dropLayers h2), bd_some]
  rw [cpy_all (f := a_s4_dropFloats w) (g := a_s1_dropFloats w) (n := 6) 6 rfl (by decide) (LSe_dropFloats h1) (LSe_dropFloats h2), bd_some]
  rw [cpy_all (f := a_s4_hoursBefore w) (g := a_s1_hoursBefore w) (n := 10) 10 rfl (by decide) (LSe_hoursBefore h1) (LSe_hoursBefore h2), bd_some]
  rfl
section C37
variable {w : WX} {m : WM}
theorem nar1 : vp_nar .boolean 1 = 1 := by decide +kernel
theorem MW_sl {m m' : WM} {r : Nat} {f : Nat → Int32} (h : MW m m' r f) {q : Nat} (hq : q + 149 ≤ r ∨ r + 149 ≤ q) : ∀ k, k < 149 → sl (a_m_w m) q k = sl (a_m_w m') q k := by
  obtain ⟨v, rfl, v1, v2, v3⟩ := h
  intro k hk
  exact (v3 (q + k) (by omega)).symm
theorem C_image (h : R w m) (a : Int32) : Ok (fun _ => Ff_image_0 a w) (fun n => Fm_image_89 n a m) := Ok.of 200 fun n hn => by
  obtain ⟨w2, m2, e1, e2, hR⟩ := R_bad h
  obtain ⟨h1, h2, ⟨⟨l2, l3, l4⟩, h31, h32⟩, ⟨k0, k1, i1, i2, i3, i4⟩, h5, h6, h7, h8, h9⟩ := id h
  simp only [Ff_image_0, Fm_image_89, Ff_within_eq, Fm_in_eq a (lo := 0) (hi := 1) 0 1 rfl rfl, bd_some, ifz, e1, e2]
  by_cases c1 : 0 ≤ a ∧ a ≤ 1
  · simp only [if_pos c1]
    obtain ⟨j, hj, rfl⟩ := in0 1 rfl c1
    match j, hj with
    | 0, _ =>
      rw [if_pos (show nI 0 = 0 from rfl), copy_39_1 w h2.1 l3, bd_some]
      obtain ⟨m', q1, q2⟩ := M_copy (m := m) (n := n) (x := 0) (y := 149 * (1 + nI 0)) (p := 0) (q := 149) (by omega) rfl rfl (by omega) (by omega) (by omega) h1
      rw [q1, bd_some]
      obtain ⟨v, rfl, v1, v2, v3⟩ := id q2
      have kx : ai_up (a_f_imageKept (X3 w w.2.1 w.2.2.1 w.2.2.2.1)) (nI 0) (vp_nar .boolean 1) = some [1, k1] := by
        rw [show a_f_imageKept (X3 w w.2.1 w.2.2.1 w.2.2.2.1) = [k0, k1] from i1, nar1]; rfl
      have km : ai_up (a_m_isKept (u_m_w m v)) (nI 0) (vp_nar .boolean 1) = some [1, k1] := by
        rw [show a_m_isKept (u_m_w m v) = [k0, k1] from i2, nar1]; rfl
      rw [kx, km]
      refine ⟨_, _, _, rfl, rfl, v1.trans h1, RS_congr (MW_sl q2 (by omega)) h2, ⟨⟨l2, h2.1, l4⟩, h31, by rw [show sl (a_m_w (u_m_isKept (u_m_w m v) [1, k1])) 447 0 = sl (a_m_w m) 447 0 from (MW_sl q2 (q := 447) (by omega) 0 (by omega)).symm]; exact h32⟩, ⟨1, k1, rfl, rfl, fun _ => RS_congr (fun k hk => (v2 k hk).symm) h2, fun q => RS_congr (MW_sl q2 (by omega)) (i4 q)⟩, h5, h6, h7, h8, h9⟩
    | 1, _ =>
      rw [if_neg (show ¬ nI 1 = 0 by decide), copy_58_1 w h2.1 l4, bd_some]
      obtain ⟨m', q1, q2⟩ := M_copy (m := m) (n := n) (x := 0) (y := 149 * (1 + nI 1)) (p := 0) (q := 298) (by omega) rfl rfl (by omega) (by omega) (by omega) h1
      rw [q1, bd_some]
      obtain ⟨v, rfl, v1, v2, v3⟩ := id q2
      have kx : ai_up (a_f_imageKept (X4 w w.2.1 w.2.2.1 w.2.2.2.1)) (nI 1) (vp_nar .boolean 1) = some [k0, 1] := by
        rw [show a_f_imageKept (X4 w w.2.1 w.2.2.1 w.2.2.2.1) = [k0, k1] from i1, nar1]; rfl
      have km : ai_up (a_m_isKept (u_m_w m v)) (nI 1) (vp_nar .boolean 1) = some [k0, 1] := by
        rw [show a_m_isKept (u_m_w m v) = [k0, k1] from i2, nar1]; rfl
      rw [kx, km]
      refine ⟨_, _, _, rfl, rfl, v1.trans h1, RS_congr (MW_sl q2 (by omega)) h2, ⟨⟨l2, l3, h2.1⟩, h31, by rw [show sl (a_m_w (u_m_isKept (u_m_w m v) [k0, 1])) 447 0 = sl (a_m_w m) 447 0 from (MW_sl q2 (q := 447) (by omega) 0 (by omega)).symm]; exact h32⟩, ⟨k0, 1, rfl, rfl, fun q => RS_congr (MW_sl q2 (by omega)) (i3 q), fun _ => RS_congr (fun k hk => (v2 k hk).symm) h2⟩, h5, h6, h7, h8, h9⟩
    | j + 2, hj => exact absurd hj (by omega)
  · simp only [if_neg c1]; exact ⟨_, _, _, rfl, rfl, hR⟩
theorem C_from (h : R w m) (a : Int32) : Ok (fun _ => Ff_from_0 a w) (fun n => Fm_from_89 n a m) := Ok.of 200 fun n hn => by
  obtain ⟨w2, m2, e1, e2, hR⟩ := R_bad h
  obtain ⟨w3, m3, e3, e4, hR3⟩ := R_met h (-3)
  obtain ⟨h1, h2, ⟨⟨l2, l3, l4⟩, h31, h32⟩, ⟨k0, k1, i1, i2, i3, i4⟩, h5, h6, h7, h8, h9⟩ := id h
  simp only [Ff_from_0, Fm_from_89, Ff_within_eq, Fm_in_eq a (lo := 0) (hi := 1) 0 1 rfl rfl, bd_some, ifz, e1, e2, e3, e4]
  by_cases c1 : 0 ≤ a ∧ a ≤ 1
  · simp only [if_pos c1]
    obtain ⟨j, hj, rfl⟩ := in0 1 rfl c1
    rw [i1, i2]
    match j, hj with
    | 0, _ =>
      rw [show ai_ix [k0, k1] (nI 0) = some k0 from rfl]
      simp only [bd_some]
      by_cases c2 : k0 = 0
      · rw [if_pos c2, if_pos c2]; exact ⟨_, _, _, rfl, rfl, hR3⟩
      · rw [if_neg c2, if_neg c2, if_pos (show nI 0 = 0 from rfl), copy_1_39 w l3 h2.1, bd_some]
        obtain ⟨m', q1, q2⟩ := M_copy (m := m) (n := n) (x := 149 * (1 + nI 0)) (y := 0) (p := 149) (q := 0) (by omega) rfl rfl (by omega) (by omega) (by omega) h1
        rw [q1, bd_some]
        exact ⟨_, _, _, rfl, rfl, R_now h q2 (i3 c2)⟩
    | 1, _ =>
      rw [show ai_ix [k0, k1] (nI 1) = some k1 from rfl]
      simp only [bd_some]
      by_cases c2 : k1 = 0
      · rw [if_pos c2, if_pos c2]; exact ⟨_, _, _, rfl, rfl, hR3⟩
      · rw [if_neg c2, if_neg c2, if_neg (show ¬ nI 1 = 0 by decide), copy_1_58 w l4 h2.1, bd_some]
        obtain ⟨m', q1, q2⟩ := M_copy (m := m) (n := n) (x := 149 * (1 + nI 1)) (y := 0) (p := 298) (q := 0) (by omega) rfl rfl (by omega) (by omega) (by omega) h1
        rw [q1, bd_some]
        exact ⟨_, _, _, rfl, rfl, R_now h q2 (i4 c2)⟩
    | j + 2, hj => exact absurd hj (by omega)
  · simp only [if_neg c1]; exact ⟨_, _, _, rfl, rfl, hR⟩
theorem C_status (h : R w m) (a : Int32) : Ok (fun _ => Ff_status_0 a w) (fun _ => Fm_status_89 a m) := Ok.of 0 fun n hn => by
  obtain ⟨w2, m2, e1, e2, hR⟩ := R_badAs h (-1)
  have h6 := h.2.2.2.2.2.1
  simp only [Ff_status_0, Fm_status_89, Fm_in_eq a (lo := 0) (hi := 2) 0 2 rfl rfl, bd_some, ifz, e1, e2]
  rw [h6]
  by_cases a0 : a = 0
  · subst a0
    exact ⟨_, _, _, rfl, rfl, h⟩
  rw [if_neg a0]
  by_cases a1 : a = 1
  · subst a1
    exact ⟨_, _, _, rfl, rfl, h⟩
  rw [if_neg a1]
  by_cases a2 : a = 2
  · subst a2
    exact ⟨_, _, _, rfl, rfl, h⟩
  rw [if_neg a2, if_neg (fun q => by
    obtain ⟨j, hj, rfl⟩ := in0 2 rfl q
    match j, hj with
    | 0, _ => exact a0 rfl
    | 1, _ => exact a1 rfl
    | 2, _ => exact a2 rfl
    | j + 3, hj => exact absurd hj (by omega))]
  exact ⟨_, _, _, rfl, rfl, hR⟩
theorem C_part (h : R w m) (a : Int32) : Ok (fun _ => Ff_part_0 a w) (fun _ => Fm_part_89 a m) := Ok.of 0 fun n hn => by
  obtain ⟨w2, m2, e1, e2, hR⟩ := R_bad h
  have h7 := h.2.2.2.2.2.2.1
  simp only [Ff_part_0, Fm_part_89, Ff_within_eq, bd_some, ifz, e1, e2]
  rw [h7.1, h7.2]
  by_cases a0 : a = 0
  · subst a0
    exact ⟨_, _, _, rfl, rfl, h⟩
  by_cases a1 : a = 1
  · subst a1
    exact ⟨_, _, _, rfl, rfl, h⟩
  rw [if_neg a0, if_neg a0, if_neg a1, if_neg (fun q => by
    obtain ⟨j, hj, rfl⟩ := in0 1 rfl q
    match j, hj with
    | 0, _ => exact a0 rfl
    | 1, _ => exact a1 rfl
    | j + 2, hj => exact absurd hj (by omega))]
  exact ⟨_, _, _, rfl, rfl, hR⟩
theorem cOf (h : R w m) : ∀ j, j < 8 → ∃ r, Fsea_countOf_1 (nI j) w = some (r, w) ∧ Fm_countOf_89 (nI j) m = some (r, m) := by
  have f0 : a_s1_cells w = sl (a_m_w m) 0 0 := h.s.k (k := 0) (by omega)
  have f1 : a_s1_hour w = sl (a_m_w m) 0 1 := h.s.k (k := 1) (by omega)
  have f2 : a_s1things_count w = sl (a_m_w m) 0 2 := h.s.k (k := 2) (by omega)
  have f3 : a_s1lifts_count w = sl (a_m_w m) 0 3 := h.s.k (k := 3) (by omega)
  have f4 : a_s1_towns w = sl (a_m_w m) 0 4 := h.s.k (k := 4) (by omega)
  have f5 : a_s1_dams w = sl (a_m_w m) 0 5 := h.s.k (k := 5) (by omega)
  have f6 : a_s1_drops w = sl (a_m_w m) 0 6 := h.s.k (k := 6) (by omega)
  have f7 : a_s1_undos w = sl (a_m_w m) 0 7 := h.s.k (k := 7) (by omega)
  intro j hj
  unfold Fsea_countOf_1 Fm_countOf_89
  rw [f0, f1, f2, f3, f4, f5, f6, f7, m_ix0 h.w (x := 0) 0 rfl (by omega), m_ix0 h.w (x := 1) 1 rfl (by omega), m_ix0 h.w (x := 2) 2 rfl (by omega), m_ix0 h.w (x := 3) 3 rfl (by omega), m_ix0 h.w (x := 4) 4 rfl (by omega), m_ix0 h.w (x := 5) 5 rfl (by omega), m_ix0 h.w (x := 6) 6 rfl (by omega), m_ix0 h.w (x := 7) 7 rfl (by omega)]
  match j, hj with
  | 0, _ => exact ⟨_, rfl, rfl⟩
  | 1, _ => exact ⟨_, rfl, rfl⟩
  | 2, _ => exact ⟨_, rfl, rfl⟩
  | 3, _ => exact ⟨_, rfl, rfl⟩
  | 4, _ => exact ⟨_, rfl, rfl⟩
  | 5, _ => exact ⟨_, rfl, rfl⟩
  | 6, _ => exact ⟨_, rfl, rfl⟩
  | 7, _ => exact ⟨_, rfl, rfl⟩
  | j + 8, hj => exact absurd hj (by omega)
theorem C_count (h : R w m) (a : Int32) : Ok (fun _ => Ff_count_0 a w) (fun _ => Fm_count_89 a m) := Ok.of 0 fun n hn => by
  obtain ⟨w2, m2, e1, e2, hR⟩ := R_bad h
  simp only [Ff_count_0, Fm_count_89, Ff_within_eq, Fm_in_eq a (lo := 0) (hi := 8) 0 8 rfl rfl, bd_some, ifz, e1, e2]
  by_cases c1 : 0 ≤ a ∧ a ≤ 8
  · simp only [if_pos c1]
    obtain ⟨j, hj, rfl⟩ := in0 8 rfl c1
    by_cases j8 : j = 8
    · subst j8
      obtain ⟨t, t1, t2, t3, -⟩ := h.2.2.2.2.1
      rw [if_pos (show nI 8 = 8 from rfl), show Fm_countOf_89 (nI 8) m = some (a_m_texted m, m) from rfl, t2, t3]
      exact ⟨_, _, _, rfl, rfl, h⟩
    · rw [if_neg (show ¬ nI j = 8 from fun q => j8 ((nI_eq (a := j) (b := 8) (by omega) (by decide)).mp q))]
      obtain ⟨r, q1, q2⟩ := cOf h j (by omega)
      rw [q1, q2]
      exact ⟨_, _, _, rfl, rfl, h⟩
  · simp only [if_neg c1]; exact ⟨_, _, _, rfl, rfl, hR⟩
theorem RS.hb {s : TS} {t : TT} {l : TL} {f : Nat → Int32} (h : RS s t l f) {i : Nat} (hi : i < Nn (f 7)) : (q_hoursBefore s).getD i 0 = f (139 + i) ∧ isN (f (139 + i)) 0 999 := by
  have h6 := h.c7.2.1
  have hl : lv f (139 + i) := Or.inr (Or.inr (Or.inr (Or.inr (Or.inr ⟨by omega, by omega, by omega⟩))))
  refine ⟨by rw [← fl_hoursBefore s t l (by omega)]; exact h.2.1 _ (by omega) hl, ?_⟩
  have := h.2.2 _ (by omega) hl
  rw [okv_r139 _ _ (by omega) (by omega)] at this
  exact this
theorem C_undo (h : R w m) : Ok (fun _ => Ff_undo_0 w) (fun _ => Fm_undo_89 m) := Ok.of 0 fun n hn => by
  obtain ⟨w3, m3, e3, e4, hR3⟩ := R_met h (-3)
  have e0 : a_s1_undos w = sl (a_m_w m) 0 7 := h.s.k (k := 7) (by omega)
  simp only [Ff_undo_0, Fsea_goBack_1, Fm_undo_89, e4, e0]
  rw [m_ix0 h.w (x := 7) 7 rfl (by omega)]
  simp only [bd_some]
  have hs := h.s
  have hw := h.w
  have q2 := hs.c7.2.2
  have q3 := hs.c7.2.1
  generalize hf : sl (a_m_w m) 0 = f at *
  generalize hn : Nn (f 7) = k at *
  by_cases c0 : k = 0
  · rw [if_neg (show ¬ 0 < f 7 by rw [q2, c0]; decide), if_pos (show f 7 = 0 by rw [q2, c0]; rfl)]
    simp only [bd_some, e3]
    exact ⟨_, _, _, rfl, rfl, hR3⟩
  · rw [if_pos (show 0 < f 7 by rw [q2]; exact nI_lt (a := 0) (by omega) (by omega)), if_neg (show ¬ f 7 = 0 by rw [q2]; exact nI_ne0 (by omega) (by omega))]
    have k1 : f 7 - 1 = nI (k - 1) := by rw [q2]; exact pk_sub (a := k) (b := 1) (by omega)
    rw [k1]
    have l1 : (a_s1_hoursBefore w).length = 10 := LSe_hoursBefore hs.1
    obtain ⟨b1, b2⟩ := hs.hb (i := k - 1) (by omega)
    rw [ix_e (l := a_s1_hoursBefore w) (k - 1) rfl (by omega) (by omega), bd_some, b1, up_e (l := a_m_w m) (i := 7) (nI (k - 1)) 7 rfl (by omega) (by omega)]
    simp only [bd_some]
    have g1 : ai_ix ((a_m_w m).set 7 (nI (k - 1))) 7 = some (nI (k - 1)) := by
      rw [ix_e (l := (a_m_w m).set 7 (nI (k - 1))) (i := 7) 7 rfl (by rw [List.length_set]; omega) (by omega), gD_set _ _ _ _ (by omega), if_pos rfl]
    have g2 : ai_ix ((a_m_w m).set 7 (nI (k - 1))) (139 + nI (k - 1)) = some (f (139 + (k - 1))) := by
      rw [ix_e (l := (a_m_w m).set 7 (nI (k - 1))) (i := 139 + nI (k - 1)) (139 + (k - 1)) (by rw [show (139 : Int32) = nI 139 from rfl, nI_add]) (by rw [List.length_set]; omega) (by omega), sl0, sl0_set _ (by omega), hf, pk_un (by omega)]
    rw [g1, bd_some, g2, bd_some, up_e (l := (a_m_w m).set 7 (nI (k - 1))) (i := 1) (f (139 + (k - 1))) 1 rfl (by rw [List.length_set]; omega) (by omega), bd_some]
    have hid : Ff_counted_0 1 (u_s1_hour (u_s1_undos w (nI (k - 1))) (f (139 + (k - 1)))) = some (1, u_s1_hour (u_s1_undos w (nI (k - 1))) (f (139 + (k - 1)))) := cnt_id (by decide) (by decide) (by decide) _
    simp only [bd_some, hid]
    have r1 : RS (p_undos w.2.1 (nI (k - 1))) w.2.2.1 w.2.2.2.1 (upd f 7 (nI (k - 1))) := by
      refine RS_cnt hs (j := 7) (by omega) (by omega) hs.1 (flset_undos _ _ _ _) ?_ ?_
      · rw [okv_7]; exact isN_nI (by omega) (by omega) (by decide)
      · intro i hi hi7 hl
        left
        unfold lv at hl ⊢
        rw [pk_us, Nn_nI (by omega), pk_un (f := f) (k := 7) (j := 2) (by omega), pk_un (f := f) (k := 7) (j := 3) (by omega), pk_un (f := f) (k := 7) (j := 4) (by omega), pk_un (f := f) (k := 7) (j := 6) (by omega)] at hl
        rw [hn]
        omega
    have r2 : RS (p_hour (p_undos w.2.1 (nI (k - 1))) (f (139 + (k - 1)))) w.2.2.1 w.2.2.2.1 (upd (upd f 7 (nI (k - 1))) 1 (f (139 + (k - 1)))) := RS_upd r1 (j := 1) (Or.inr (Or.inl rfl)) r1.1 (flset_hour _ _ _ _) (fun _ => by rw [okv_1]; exact b2)
    refine ⟨_, _, _, rfl, rfl, R_now h (f := upd (upd f 7 (nI (k - 1))) 1 (f (139 + (k - 1)))) ⟨_, rfl, by rw [List.length_set, List.length_set], fun j hj => ?_, fun j hj => ?_⟩ r2⟩
    · rw [sl0_set _ (by rw [List.length_set]; omega), sl0_set _ (by omega), hf]
    · rw [gD_set _ _ _ _ (by rw [List.length_set]; omega), if_neg (by omega), gD_set _ _ _ _ (by omega), if_neg (by omega)]
theorem M_shift {x : Int32} : ∀ (d i : Nat) (m : WM), i + d = 9 → (a_m_w m).length = 596 → ∃ v : List Int32, v.length = 596 ∧ (∀ j, v.getD j 0 = if 139 + i ≤ j ∧ j < 148 then (a_m_w m).getD (j + 1) 0 else (a_m_w m).getD j 0) ∧ ∀ n, Gm_hours_89 (n + d) 0 x (nI i) m = Gm_hours_89 n 0 x (nI 9) (u_m_w m v) := by
  intro d
  induction d with
  | zero =>
    intro i m hi hw
    refine ⟨a_m_w m, hw, fun j => by rw [if_neg (by omega)], fun n => ?_⟩
    rw [show i = 9 by omega]
    rfl
  | succ d ih =>
    intro i m hi hw
    obtain ⟨v, v1, v2, v3⟩ := ih (i + 1) (u_m_w m ((a_m_w m).set (139 + i) ((a_m_w m).getD (139 + i + 1) 0))) (by omega) (by rw [List.length_set]; exact hw)
    refine ⟨v, v1, fun j => ?_, fun n => ?_⟩
    · rw [v2 j]
      show (if 139 + (i + 1) ≤ j ∧ j < 148 then ((a_m_w m).set (139 + i) ((a_m_w m).getD (139 + i + 1) 0)).getD (j + 1) 0 else ((a_m_w m).set (139 + i) ((a_m_w m).getD (139 + i + 1) 0)).getD j 0) = _
      rw [gD_set _ _ _ _ (by omega), gD_set _ _ _ _ (by omega)]
      by_cases c : 139 + (i + 1) ≤ j ∧ j < 148
      · rw [if_pos c, if_neg (by omega), if_pos (by omega)]
      · rw [if_neg c]
        by_cases e : j = 139 + i
        · rw [if_pos e, if_pos (by omega), e]
        · rw [if_neg e, if_neg (by omega)]
    · rw [← v3 n, show n + (d + 1) = (n + d) + 1 by omega, Gm_hours_89, if_neg (show ¬ (9 : Int32) ≤ nI i from nI_ge (b := 9) (by omega) (by decide)), ix_e (l := a_m_w m) (i := (139 + nI i) + 1) (139 + i + 1) (by rw [show (139 : Int32) = nI 139 from rfl, nI_add, nI_1]) (by omega) (by omega), bd_some, up_e (l := a_m_w m) (i := 139 + nI i) _ (139 + i) (by rw [show (139 : Int32) = nI 139 from rfl, nI_add]) (by omega) (by omega), bd_some, nI_1]
theorem ten {l : List Int32} (h : l.length = 10) : ∃ a0 a1 a2 a3 a4 a5 a6 a7 a8 a9, l = [a0, a1, a2, a3, a4, a5, a6, a7, a8, a9] := by
  match l, h with
  | [a0, a1, a2, a3, a4, a5, a6, a7, a8, a9], _ => exact ⟨a0, a1, a2, a3, a4, a5, a6, a7, a8, a9, rfl⟩
theorem shift10 {l : List Int32} (h : l.length = 10) (x : Int32) : ∃ q : List Int32, ai_cpy l l 1 0 9 = some q ∧ ai_up q 9 x = some (q.set 9 x) ∧ (q.set 9 x).length = 10 ∧ ∀ i, i < 10 → (q.set 9 x).getD i 0 = if i < 9 then l.getD (i + 1) 0 else x := by
  obtain ⟨a0, a1, a2, a3, a4, a5, a6, a7, a8, a9, rfl⟩ := ten h
  refine ⟨[a1, a2, a3, a4, a5, a6, a7, a8, a9, a9], rfl, rfl, rfl, fun i hi => ?_⟩
  match i, hi with
  | 0, _ => rfl
  | 1, _ => rfl
  | 2, _ => rfl
  | 3, _ => rfl
  | 4, _ => rfl
  | 5, _ => rfl
  | 6, _ => rfl
  | 7, _ => rfl
  | 8, _ => rfl
  | 9, _ => rfl
  | i + 10, hi => exact absurd hi (by omega)
end C37
section C37b
variable {w : WX} {m : WM}
theorem fl_hb_ne (s : TS) (t : TT) (l : TL) (q : List Int32) {i : Nat} (h : i < 139) : fl (p_hoursBefore s q) t l i = fl s t l i := by
  obtain ⟨s1, s2, s3, s4, s5, s6, s7, s8, s9, s10, s11, s12, s13, s14, s15⟩ := s
  unfold fl
  by_cases d0 : i < 8
  · simp only [if_pos d0]
  simp only [if_neg d0]
  by_cases d1 : i < 12
  · simp only [if_pos d1]
  simp only [if_neg d1]
  by_cases d2 : i < 16
  · simp only [if_pos d2]
  simp only [if_neg d2]
  by_cases d3 : i < 40
  · simp only [if_pos d3]
  simp only [if_neg d3]
  by_cases d4 : i < 64
  · simp only [if_pos d4]
  simp only [if_neg d4]
  by_cases d5 : i < 67
  · simp only [if_pos d5]
  simp only [if_neg d5]
  by_cases d6 : i < 73
  · simp only [if_pos d6]
  simp only [if_neg d6]
  by_cases d7 : i < 79
  · simp only [if_pos d7]
  simp only [if_neg d7]
  by_cases d8 : i < 85
  · simp only [if_pos d8]
  simp only [if_neg d8]
  by_cases d9 : i < 91
  · simp only [if_pos d9]
  simp only [if_neg d9]
  by_cases d10 : i < 101
  · simp only [if_pos d10]
  simp only [if_neg d10]
  by_cases d11 : i < 111
  · simp only [if_pos d11]
  simp only [if_neg d11]
  by_cases d12 : i < 121
  · simp only [if_pos d12]
  simp only [if_neg d12]
  by_cases d13 : i < 127
  · simp only [if_pos d13]
  simp only [if_neg d13]
  by_cases d14 : i < 133
  · simp only [if_pos d14]
  simp only [if_neg d14]
  rw [if_pos h, if_pos h]
def sh (f : Nat → Int32) (x : Int32) (j : Nat) : Int32 := if j = 1 then x else if j = 148 then f 1 else if 139 ≤ j ∧ j < 148 then f (j + 1) else f j
theorem RS_shift {s : TS} {t : TT} {l : TL} {f : Nat → Int32} (hs : RS s t l f) {q : List Int32} {x : Int32} (hq : q.length = 10) (hx : isN x 0 999) (f7 : f 7 = 10) (t4 : ∀ i, i < 10 → q.getD i 0 = if i < 9 then (q_hoursBefore s).getD (i + 1) 0 else f 1) : RS (p_hour (p_undos (p_hoursBefore s q) 10) x) t l (sh f x) := by
  have lvE : ∀ k, lv (sh f x) k = lv f k := fun k => rfl
  have n7 : Nn (f 7) = 10 := by rw [f7]; rfl
  have hF : fl (p_hour (p_undos (p_hoursBefore s q) 10) x) t l = upd (upd (fl (p_hoursBefore s q) t l) 7 10) 1 x := by
    rw [← flset_undos, ← flset_hour]
  obtain ⟨z1, z2, z3, z4, z5, z6, z7, z8, z9, za, zb, zc, zd, ze, zf, -⟩ := hs.1
  refine ⟨⟨z1, z2, z3, z4, z5, z6, z7, z8, z9, za, zb, zc, zd, ze, zf, hq⟩, fun i hi hl => ?_, fun i hi hl => ?_⟩
  · rw [lvE] at hl
    rw [hF]
    unfold upd sh
    by_cases i1 : i = 1
    · rw [if_pos i1, if_pos i1]
    rw [if_neg i1, if_neg i1]
    by_cases i7 : i = 7
    · rw [if_pos i7, if_neg (by omega), if_neg (by omega), i7, f7]
    rw [if_neg i7]
    by_cases i139 : i < 139
    · rw [fl_hb_ne s t l q i139, if_neg (by omega), if_neg (by omega)]
      exact hs.2.1 i hi hl
    · obtain ⟨j, rfl⟩ : ∃ j, i = 139 + j := ⟨i - 139, by omega⟩
      rw [fl_hoursBefore _ _ _ (by omega)]
      show q.getD j 0 = _
      rw [t4 _ (by omega)]
      by_cases i9 : j < 9
      · rw [if_pos i9, if_neg (by omega), if_pos (by omega), show 139 + j + 1 = 139 + (j + 1) by omega]
        exact (hs.hb (by omega)).1
      · rw [if_neg i9, if_pos (by omega)]
  · rw [lvE] at hl
    show okv (Nn (f 0)) i (sh f x i)
    unfold sh
    by_cases i1 : i = 1
    · rw [if_pos i1, i1, okv_1]; exact hx
    rw [if_neg i1]
    by_cases i8 : i = 148
    · rw [if_pos i8, i8, okv_r139 _ _ (by omega) (by omega)]; exact hs.c1
    rw [if_neg i8]
    by_cases i9 : 139 ≤ i ∧ i < 148
    · rw [if_pos i9, okv_r139 _ _ (by omega) (by omega), show i + 1 = 139 + (i - 139 + 1) by omega]
      exact (hs.hb (by omega)).2
    · rw [if_neg i9]
      exact hs.2.2 i hi hl
end C37b
section C37b2
variable {w : WX} {m : WM}
/-- hours go on, in words of a sea -/
def A_h (f : Nat → Int32) (x : Int32) : Nat → Int32 := if Nn (f 7) = 10 then sh f x else upd (upd (upd f (139 + Nn (f 7)) (f 1)) 7 (f 7 + 1)) 1 x
theorem LSe_un {s : TS} {t : TT} {l : TL} (h : LSe s t l) (x : Int32) : LSe (p_undos s x) t l := h
theorem LSe_ho {s : TS} {t : TT} {l : TL} (h : LSe s t l) (x : Int32) : LSe (p_hour s x) t l := h
theorem RS_hours {s : TS} {t : TT} {l : TL} {f : Nat → Int32} (hs : RS s t l f) {x : Int32} (hx : isN x 0 999) {k : Nat} (q2 : f 7 = nI k) (hk : k < 10) : RS (p_hour (p_undos (p_hoursBefore s ((q_hoursBefore s).set k (f 1))) (f 7 + 1)) x) t l (upd (upd (upd f (139 + k) (f 1)) 7 (f 7 + 1)) 1 x) := by
  have l1 := LSe_hoursBefore hs.1
  have hn : Nn (f 7) = k := by rw [q2]; exact Nn_nI (by omega)
  have r0 : RS (p_hoursBefore s ((q_hoursBefore s).set k (f 1))) t l (upd f (139 + k) (f 1)) := RS_upd hs (j := 139 + k) (Or.inl (by omega)) (LSe_set_hoursBefore hs.1 _ _) (flset_hoursBefore _ _ _ _ (by omega) l1) (fun _ => by rw [okv_r139 _ _ (by omega) (by omega)]; exact hs.c1)
  have hF : fl (p_hoursBefore s ((q_hoursBefore s).set k (f 1))) t l = upd (fl s t l) (139 + k) (f 1) := flset_hoursBefore _ _ _ _ (by omega) l1
  have r1 : RS (p_undos (p_hoursBefore s ((q_hoursBefore s).set k (f 1))) (f 7 + 1)) t l (upd (upd f (139 + k) (f 1)) 7 (f 7 + 1)) := by
    refine RS_cnt r0 (j := 7) (by omega) (by omega) (LSe_un r0.1 _) (flset_undos _ _ _ _) ?_ ?_
    · rw [okv_7, q2, nI_1]; exact isN_nI (by omega) (by omega) (by decide)
    · intro i hi hi7 hl
      rw [lv_upd (by omega)]
      unfold lv at hl
      rw [pk_us, q2, nI_1, Nn_nI (by omega), pk_un (f := upd f (139 + k) (f 1)) (k := 7) (j := 2) (by omega), pk_un (f := upd f (139 + k) (f 1)) (k := 7) (j := 3) (by omega), pk_un (f := upd f (139 + k) (f 1)) (k := 7) (j := 4) (by omega), pk_un (f := upd f (139 + k) (f 1)) (k := 7) (j := 6) (by omega), pk_un (f := f) (j := 2) (by omega), pk_un (f := f) (j := 3) (by omega), pk_un (f := f) (j := 4) (by omega), pk_un (f := f) (j := 6) (by omega)] at hl
      by_cases ik : i = 139 + k
      · right
        rw [hF, ik, pk_us, pk_us, pk_un (f := f) (j := 0) (by omega), okv_r139 _ _ (by omega) (by omega)]
        exact ⟨rfl, hs.c1⟩
      · left
        unfold lv
        rw [hn]
        rcases hl with h | h | h | h | h | ⟨h1, h2, h3⟩
        · exact Or.inl h
        · exact Or.inr (Or.inl h)
        · exact Or.inr (Or.inr (Or.inl h))
        · exact Or.inr (Or.inr (Or.inr (Or.inl h)))
        · exact Or.inr (Or.inr (Or.inr (Or.inr (Or.inl h))))
        · exact Or.inr (Or.inr (Or.inr (Or.inr (Or.inr ⟨h1, h2, by omega⟩))))
  exact RS_upd r1 (j := 1) (Or.inr (Or.inl rfl)) (LSe_ho r1.1 _) (flset_hour _ _ _ _) (fun _ => by rw [okv_1]; exact hx)
theorem p_hb2 (s : TS) (a b : List Int32) (x y : Int32) : p_hour (p_undos (p_hoursBefore (p_undos (p_hoursBefore s a) x) b) 10) y = p_hour (p_undos (p_hoursBefore s b) 10) y := by
  dsimp only [p_hour, p_undos, p_hoursBefore]
theorem U1_hb (w : WX) (a : List Int32) : u_s1_hoursBefore w a = X1 w (p_hoursBefore w.2.1 a) w.2.2.1 w.2.2.2.1 := rfl
theorem U1x_hb (w : WX) (s : TS) (t : TT) (l : TL) (a : List Int32) : u_s1_hoursBefore (X1 w s t l) a = X1 w (p_hoursBefore s a) t l := rfl
theorem U1x_un (w : WX) (s : TS) (t : TT) (l : TL) (a : Int32) : u_s1_undos (X1 w s t l) a = X1 w (p_undos s a) t l := rfl
theorem U1x_ho (w : WX) (s : TS) (t : TT) (l : TL) (a : Int32) : u_s1_hour (X1 w s t l) a = X1 w (p_hour s a) t l := rfl
theorem X_hb10 (w : WX) (a b : List Int32) (x y : Int32) : u_s1_hour (u_s1_undos (u_s1_hoursBefore (u_s1_undos (u_s1_hoursBefore w a) x) b) 10) y = X1 w (p_hour (p_undos (p_hoursBefore (p_undos (p_hoursBefore w.2.1 a) x) b) 10) y) w.2.2.1 w.2.2.2.1 := by
  rw [U1_hb w a, U1x_un, U1x_hb, U1x_un, U1x_ho]
theorem X_hb1 (w : WX) (a : List Int32) (x y : Int32) : u_s1_hour (u_s1_undos (u_s1_hoursBefore w a) x) y = X1 w (p_hour (p_undos (p_hoursBefore w.2.1 a) x) y) w.2.2.1 w.2.2.2.1 := by
  rw [U1_hb w a, U1x_un, U1x_ho]
end C37b2
section C37c
variable {w : WX} {m : WM}
theorem X_goOn {f : Nat → Int32} (hs : RS w.2.1 w.2.2.1 w.2.2.2.1 f) {a : Int32} (c1 : 1 ≤ a ∧ a ≤ 99) (c2 : f 1 + a ≤ 999) (okH : isN (f 1 + a) 0 999) : ∃ s, Fsea_goOn_1 a w = some (f 1 + a, X1 w s w.2.2.1 w.2.2.2.1) ∧ RS s w.2.2.1 w.2.2.2.1 (A_h f (f 1 + a)) := by
  have e0 : a_s1_undos w = f 7 := hs.k (k := 7) (by omega)
  have e1 : a_s1_hour w = f 1 := hs.k (k := 1) (by omega)
  have l1 : (a_s1_hoursBefore w).length = 10 := LSe_hoursBefore hs.1
  have q2 := hs.c7.2.2
  have q3 := hs.c7.2.1
  unfold Fsea_goOn_1 A_h
  rw [Ff_within_eq, bd_some, ifz, if_pos c1, e0, e1, if_pos c2]
  by_cases c3 : Nn (f 7) = 10
  · have f7 : f 7 = 10 := by rw [q2, c3]; rfl
    rw [if_neg (show ¬ f 7 < 10 by rw [f7]; decide), if_pos c3]
    obtain ⟨q, t1, t2, t3, t4⟩ := shift10 l1 (f 1)
    rw [t1, bd_some, t2, bd_some, X_hb10, p_hb2]
    exact ⟨_, rfl, RS_shift hs t3 okH f7 t4⟩
  · rw [if_pos (show f 7 < 10 by rw [q2]; exact nI_lt (b := 10) (by omega) (by decide)), if_neg c3, up_e (l := a_s1_hoursBefore w) (f 1) (Nn (f 7)) q2 (by omega) (by omega), bd_some, X_hb1]
    exact ⟨_, rfl, RS_hours hs okH q2 (by omega)⟩
end C37c
section C37d
variable {w : WX} {m : WM}
theorem M_u2 (m : WM) (a b : List Int32) : u_m_w (u_m_w m a) b = u_m_w m b := rfl
theorem M_h3 (m : WM) (a b d : List Int32) : u_m_w (u_m_w (u_m_w m a) b) d = u_m_w m d := by rw [M_u2, M_u2]
theorem M_hoursE (n' : Nat) (a : Int32) (m : WM) (v : List Int32) : Gm_hours_89 (n' + 1) 0 a (nI 9) (u_m_w m v) = (ai_bd (ai_ix v 7) fun v335 => ai_bd (ai_up v 7 (v335 - 1)) fun q336 => ai_bd (ai_ix q336 7) fun v337 => ai_bd (ai_ix q336 1) fun v338 => ai_bd (ai_up q336 (139 + v337) v338) fun q339 => ai_bd (ai_ix q339 7) fun v340 => ai_bd (ai_up q339 7 (v340 + 1)) fun q341 => ai_bd (ai_ix q341 1) fun v342 => ai_bd (ai_up q341 1 (v342 + a)) fun q343 => ai_bd (ai_ix q343 1) fun v344 => some (v344, u_m_w (u_m_w (u_m_w (u_m_w (u_m_w m v) q336) q339) q341) q343)) := by
  rw [Gm_hours_89]
  exact if_pos (show (9 : Int32) ≤ nI 9 from Int32.le_refl _)
end C37d
section C37e
variable {w : WX} {m : WM}
theorem M_hours {a : Int32} {n : Nat} (hn : 20 ≤ n) (hw : (a_m_w m).length = 596) (c1 : 1 ≤ a ∧ a ≤ 99) (c2 : sl (a_m_w m) 0 1 + a ≤ 999) (h7 : isN (sl (a_m_w m) 0 7) 0 10) : ∃ m', Fm_hours_89 n a m = some (sl (a_m_w m) 0 1 + a, m') ∧ MW m m' 0 (A_h (sl (a_m_w m) 0) (sl (a_m_w m) 0 1 + a)) := by
  unfold Fm_hours_89 A_h
  rw [Fm_in_eq a (lo := 1) (hi := 99) 1 99 rfl rfl, bd_some, ifz, if_pos c1, m_ix0 hw (x := 7) 7 rfl (by omega), m_ix0 hw (x := 1) 1 rfl (by omega)]
  simp only [bd_some]
  have q2 := h7.2.2
  have q3 := h7.2.1
  rw [if_pos c2]
  generalize hf : sl (a_m_w m) 0 = f at *
  generalize hk : Nn (f 7) = k at *
  by_cases c3 : k = 10
  · have f7 : f 7 = 10 := by rw [q2, c3]; rfl
    rw [if_pos f7, if_pos c3]
    obtain ⟨v, v1, v2, v3⟩ := M_shift (x := a) 9 0 m (by omega) hw
    have v3 := v3 (n - 9)
    rw [show n - 9 + 9 = n by omega] at v3
    have v3 : Gm_hours_89 n 0 a 0 m = Gm_hours_89 (n - 9) 0 a (nI 9) (u_m_w m v) := v3
    have vk : ∀ j, j < 139 → v.getD j 0 = f j := fun j hj => by
      rw [v2 j, if_neg (by omega), sl0, hf]
    obtain ⟨n', hn'⟩ : ∃ n', n - 9 = n' + 1 := ⟨n - 10, by omega⟩
    rw [v3, hn', M_hoursE]
    rw [ix_e (l := v) (i := 7) 7 rfl (by omega) (by omega), bd_some, vk 7 (by omega), f7, show (10 : Int32) - 1 = 9 from rfl, up_e (l := v) (i := 7) 9 7 rfl (by omega) (by omega), bd_some]
    rw [ix_e (l := v.set 7 9) (i := 7) 7 rfl (by rw [List.length_set]; omega) (by omega), bd_some, gD_set _ _ _ _ (by omega), if_pos rfl, ix_e (l := v.set 7 9) (i := 1) 1 rfl (by rw [List.length_set]; omega) (by omega), bd_some, gD_set _ _ _ _ (by omega), if_neg (by omega), vk 1 (by omega), up_e (l := v.set 7 9) (i := 139 + 9) (f 1) 148 rfl (by rw [List.length_set]; omega) (by omega), bd_some]
    rw [ix_e (l := (v.set 7 9).set 148 (f 1)) (i := 7) 7 rfl (by rw [List.length_set, List.length_set]; omega) (by omega), bd_some, gD_set _ _ _ _ (by rw [List.length_set]; omega), if_neg (by omega), gD_set _ _ _ _ (by omega), if_pos rfl, show (9 : Int32) + 1 = 10 from rfl, up_e (l := (v.set 7 9).set 148 (f 1)) (i := 7) 10 7 rfl (by rw [List.length_set, List.length_set]; omega) (by omega), bd_some]
    rw [ix_e (l := ((v.set 7 9).set 148 (f 1)).set 7 10) (i := 1) 1 rfl (by rw [List.length_set, List.length_set, List.length_set]; omega) (by omega), bd_some, gD_set _ _ _ _ (by rw [List.length_set, List.length_set]; omega), if_neg (by omega), gD_set _ _ _ _ (by rw [List.length_set]; omega), if_neg (by omega), gD_set _ _ _ _ (by omega), if_neg (by omega), vk 1 (by omega), up_e (l := ((v.set 7 9).set 148 (f 1)).set 7 10) (i := 1) (f 1 + a) 1 rfl (by rw [List.length_set, List.length_set, List.length_set]; omega) (by omega), bd_some]
    rw [ix_e (l := (((v.set 7 9).set 148 (f 1)).set 7 10).set 1 (f 1 + a)) (i := 1) 1 rfl (by rw [List.length_set, List.length_set, List.length_set, List.length_set]; omega) (by omega), bd_some, gD_set _ _ _ _ (by rw [List.length_set, List.length_set, List.length_set]; omega), if_pos rfl, M_u2, M_u2, M_u2, M_u2]
    have hV : ∀ j, ((((v.set 7 9).set 148 (f 1)).set 7 10).set 1 (f 1 + a)).getD j 0 = if j = 1 then f 1 + a else if j = 148 then f 1 else if 139 ≤ j ∧ j < 148 then (a_m_w m).getD (j + 1) 0 else (a_m_w m).getD j 0 := by
      intro j
      rw [gD_set _ _ _ _ (by rw [List.length_set, List.length_set, List.length_set]; omega), gD_set _ _ _ _ (by rw [List.length_set, List.length_set]; omega), gD_set _ _ _ _ (by rw [List.length_set]; omega), gD_set _ _ _ _ (by omega), v2 j]
      by_cases j1 : j = 1
      · rw [if_pos j1, if_pos j1]
      rw [if_neg j1, if_neg j1]
      by_cases j7 : j = 7
      · rw [if_pos j7, if_neg (by omega), if_neg (by omega), j7, sl0, hf, f7]
      rw [if_neg j7, if_neg j7]
    refine ⟨_, rfl, _, rfl, by rw [List.length_set, List.length_set, List.length_set, List.length_set, v1, hw], fun j hj => ?_, fun j hj => ?_⟩
    · show ((((v.set 7 9).set 148 (f 1)).set 7 10).set 1 (f 1 + a)).getD (0 + j) 0 = sh f (f 1 + a) j
      rw [Nat.zero_add, hV j, sl0, sl0, hf]
      rfl
    · rw [hV j, if_neg (by omega), if_neg (by omega), if_neg (by omega)]
  · rw [if_neg (show ¬ f 7 = 10 from fun q => c3 ((nI_eq (a := k) (b := 10) (by omega) (by decide)).mp (by rw [← q2, q]; rfl))), if_neg c3, up_e (l := a_m_w m) (i := 139 + f 7) (f 1) (139 + k) (by rw [q2, show (139 : Int32) = nI 139 from rfl, nI_add]) (by omega) (by omega), bd_some]
    rw [ix_e (l := (a_m_w m).set (139 + k) (f 1)) (i := 7) 7 rfl (by rw [List.length_set]; omega) (by omega), bd_some, gD_set _ _ _ _ (by omega), if_neg (by omega), sl0, hf, up_e (l := (a_m_w m).set (139 + k) (f 1)) (i := 7) (f 7 + 1) 7 rfl (by rw [List.length_set]; omega) (by omega), bd_some]
    rw [ix_e (l := ((a_m_w m).set (139 + k) (f 1)).set 7 (f 7 + 1)) (i := 1) 1 rfl (by rw [List.length_set, List.length_set]; omega) (by omega), bd_some, gD_set _ _ _ _ (by rw [List.length_set]; omega), if_neg (by omega), gD_set _ _ _ _ (by omega), if_neg (by omega), sl0, hf, up_e (l := ((a_m_w m).set (139 + k) (f 1)).set 7 (f 7 + 1)) (i := 1) (f 1 + a) 1 rfl (by rw [List.length_set, List.length_set]; omega) (by omega), bd_some]
    rw [ix_e (l := (((a_m_w m).set (139 + k) (f 1)).set 7 (f 7 + 1)).set 1 (f 1 + a)) (i := 1) 1 rfl (by rw [List.length_set, List.length_set, List.length_set]; omega) (by omega), bd_some, gD_set _ _ _ _ (by rw [List.length_set, List.length_set]; omega), if_pos rfl, M_h3]
    refine ⟨_, rfl, _, rfl, by rw [List.length_set, List.length_set, List.length_set], fun j hj => ?_, fun j hj => ?_⟩
    · rw [sl0_set _ (by rw [List.length_set, List.length_set]; omega), sl0_set _ (by rw [List.length_set]; omega), sl0_set _ (by omega), hf]
    · rw [gD_set _ _ _ _ (by rw [List.length_set, List.length_set]; omega), if_neg (by omega), gD_set _ _ _ _ (by rw [List.length_set]; omega), if_neg (by omega), gD_set _ _ _ _ (by omega), if_neg (by omega)]
end C37e
section C37f
variable {w : WX} {m : WM}
theorem C_hours (h : R w m) (a : Int32) : Ok (fun _ => Ff_hours_0 a w) (fun n => Fm_hours_89 n a m) := Ok.of 20 fun n hn => by
  by_cases c1 : 1 ≤ a ∧ a ≤ 99
  · by_cases c2 : sl (a_m_w m) 0 1 + a ≤ 999
    · have ha := isN_of1 (L := 1) (M := 99) (a := 1) (n := 99) rfl rfl c1 (by decide)
      have hh := h.s.c1
      have okH : isN (sl (a_m_w m) 0 1 + a) 0 999 := by
        have x1 := ha.2.1
        have x2 := hh.2.1
        have e : sl (a_m_w m) 0 1 + a = nI (Nn (sl (a_m_w m) 0 1) + Nn a) := by
          have y1 := ha.2.2
          have y2 := hh.2.2
          rw [← nI_add, ← y1, ← y2]
        rw [e] at c2 ⊢
        have := (nI_leI (a := Nn (sl (a_m_w m) 0 1) + Nn a) (b := 999) (by omega) (by decide)).mp c2
        exact isN_nI (by omega) this (by decide)
      obtain ⟨s, x1, x2⟩ := X_goOn h.s c1 c2 okH
      obtain ⟨m', y1, y2⟩ := M_hours (n := n) hn h.w c1 c2 h.s.c7
      refine ⟨_, _, _, ?_, y1, R_now h y2 x2⟩
      show (ai_bd (Fsea_goOn_1 a w) fun c => ai_bd (Ff_counted_0 c.1 c.2) fun d => some (d.1, d.2)) = _
      rw [x1, bd_some]
      show (ai_bd (Ff_counted_0 (sl (a_m_w m) 0 1 + a) (X1 w s w.2.2.1 w.2.2.2.1)) fun d => some (d.1, d.2)) = _
      have z := okH.2.1
      rw [okH.2.2, cnt_nI (by omega), bd_some]
    · obtain ⟨w3, m3, e3, e4, hR3⟩ := R_met h (-3)
      have e1 : a_s1_hour w = sl (a_m_w m) 0 1 := h.s.k (k := 1) (by omega)
      refine ⟨-3, w3, m3, ?_, ?_, hR3⟩
      · show (ai_bd (Fsea_goOn_1 a w) fun c => ai_bd (Ff_counted_0 c.1 c.2) fun d => some (d.1, d.2)) = _
        unfold Fsea_goOn_1
        rw [Ff_within_eq, bd_some, ifz, if_pos c1, e1, if_neg c2, bd_some, e3, bd_some]
      · show Fm_hours_89 n a m = _
        unfold Fm_hours_89
        rw [Fm_in_eq a (lo := 1) (hi := 99) 1 99 rfl rfl, bd_some, ifz, if_pos c1, m_ix0 h.w (x := 1) 1 rfl (by omega), bd_some, if_neg c2, e4, bd_some]
  · obtain ⟨w5, m5, e5, e6, hR5⟩ := R_met h (-2)
    refine ⟨-2, w5, m5, ?_, ?_, hR5⟩
    · show (ai_bd (Fsea_goOn_1 a w) fun c => ai_bd (Ff_counted_0 c.1 c.2) fun d => some (d.1, d.2)) = _
      unfold Fsea_goOn_1
      rw [Ff_within_eq, bd_some, ifz, if_neg c1, bd_some, e5, bd_some]
    · show Fm_hours_89 n a m = _
      unfold Fm_hours_89 Fm_bad_89
      rw [Fm_in_eq a (lo := 1) (hi := 99) 1 99 rfl rfl, bd_some, ifz, if_neg c1, e6, bd_some, bd_some]
end C37f
