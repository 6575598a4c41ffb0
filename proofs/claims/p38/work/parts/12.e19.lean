set_option maxHeartbeats 40000000 in
set_option maxRecDepth 100000 in
theorem Ethg_copyFrom_7_45 (w : WX) (w' : WX) (h : Fthg_copyFrom_7_45 w = some w') (T : ai_H) : ai_ev D1 mthg_copyFrom 0 [some (.ref 7), some (.ref 45)] [] (HX w T) 0 0 (none, HX w' T) := by
  unfold Fthg_copyFrom_7_45 at h
  refine ev_go 3 (pc' := 5) (L' := [some (.ref 7), some (.ref 45)]) (st' := [.int (a_s3things_count w), .ref 7]) (h' := (HX w T)) (cs' := 0) (sl' := 0) rfl ?_
  refine ev_step rfl rfl rfl (PFX_5_9_7 rfl) ?_
  refine ev_go 7 (pc' := 20) (L' := [some (.ref 7), some (.ref 45)]) (st' := [.int 6, .int 0, .ref 8, .int 0, .ref 46]) (h' := (HX (u_s1things_count w (a_s3things_count w)) T)) (cs' := 0) (sl' := 0) rfl ?_
  obtain ⟨q1956, hq, h⟩ := ai_bdE h
  refine ev_cpy rfl rfl rfl rfl rfl rfl hq ?_
  rw [HXs_8]
  refine ev_go 7 (pc' := 35) (L' := [some (.ref 7), some (.ref 45)]) (st' := [.int 6, .int 0, .ref 9, .int 0, .ref 47]) (h' := (HX (u_s1things_kinds (u_s1things_count w (a_s3things_count w)) q1956) T)) (cs' := 0) (sl' := 0) rfl ?_
  obtain ⟨q1957, hq, h⟩ := ai_bdE h
  refine ev_cpy rfl rfl rfl rfl rfl rfl hq ?_
  rw [HXs_9]
  refine ev_go 7 (pc' := 50) (L' := [some (.ref 7), some (.ref 45)]) (st' := [.int 6, .int 0, .ref 10, .int 0, .ref 48]) (h' := (HX (u_s1things_weights (u_s1things_kinds (u_s1things_count w (a_s3things_count w)) q1956) q1957) T)) (cs' := 0) (sl' := 0) rfl ?_
  obtain ⟨q1958, hq, h⟩ := ai_bdE h
  refine ev_cpy rfl rfl rfl rfl rfl rfl hq ?_
  rw [HXs_10]
  refine ev_go 7 (pc' := 65) (L' := [some (.ref 7), some (.ref 45)]) (st' := [.int 6, .int 0, .ref 11, .int 0, .ref 49]) (h' := (HX (u_s1things_volumes (u_s1things_weights (u_s1things_kinds (u_s1things_count w (a_s3things_count w)) q1956) q1957) q1958) T)) (cs' := 0) (sl' := 0) rfl ?_
  obtain ⟨q1959, hq, h⟩ := ai_bdE h
  refine ev_cpy rfl rfl rfl rfl rfl rfl hq ?_
  rw [HXs_11]
  obtain rfl := Option.some.inj h
  exact ev_end rfl
set_option maxHeartbeats 40000000 in
set_option maxRecDepth 100000 in
theorem Elift_copyFrom_12_50 (w : WX) (w' : WX) (h : Flift_copyFrom_12_50 w = some w') (T : ai_H) : ai_ev D1 mlift_copyFrom 0 [some (.ref 12), some (.ref 50)] [] (HX w T) 0 0 (none, HX w' T) := by
  unfold Flift_copyFrom_12_50 at h
  refine ev_go 3 (pc' := 5) (L' := [some (.ref 12), some (.ref 50)]) (st' := [.int (a_s3lifts_count w), .ref 12]) (h' := (HX w T)) (cs' := 0) (sl' := 0) rfl ?_
  refine ev_step rfl rfl rfl (PFX_1_9_12 rfl) ?_
  refine ev_go 7 (pc' := 20) (L' := [some (.ref 12), some (.ref 50)]) (st' := [.int 10, .int 0, .ref 13, .int 0, .ref 51]) (h' := (HX (u_s1lifts_count w (a_s3lifts_count w)) T)) (cs' := 0) (sl' := 0) rfl ?_
  obtain ⟨q1961, hq, h⟩ := ai_bdE h
  refine ev_cpy rfl rfl rfl rfl rfl rfl hq ?_
  rw [HXs_13]
  refine ev_go 7 (pc' := 35) (L' := [some (.ref 12), some (.ref 50)]) (st' := [.int 10, .int 0, .ref 14, .int 0, .ref 52]) (h' := (HX (u_s1lifts_froms (u_s1lifts_count w (a_s3lifts_count w)) q1961) T)) (cs' := 0) (sl' := 0) rfl ?_
  obtain ⟨q1962, hq, h⟩ := ai_bdE h
  refine ev_cpy rfl rfl rfl rfl rfl rfl hq ?_
  rw [HXs_14]
  refine ev_go 7 (pc' := 50) (L' := [some (.ref 12), some (.ref 50)]) (st' := [.int 10, .int 0, .ref 15, .int 0, .ref 53]) (h' := (HX (u_s1lifts_tos (u_s1lifts_froms (u_s1lifts_count w (a_s3lifts_count w)) q1961) q1962) T)) (cs' := 0) (sl' := 0) rfl ?_
  obtain ⟨q1963, hq, h⟩ := ai_bdE h
  refine ev_cpy rfl rfl rfl rfl rfl rfl hq ?_
  rw [HXs_15]
  obtain rfl := Option.some.inj h
  exact ev_end rfl
set_option maxHeartbeats 40000000 in
set_option maxRecDepth 100000 in
theorem Esea_copyFrom_1_39 (w : WX) (w' : WX) (h : Fsea_copyFrom_1_39 w = some w') (T : ai_H) : ai_ev D1 msea_copyFrom 0 [some (.ref 1), some (.ref 39)] [] (HX w T) 0 0 (none, HX w' T) := by
  unfold Fsea_copyFrom_1_39 at h
  refine ev_go 3 (pc' := 5) (L' := [some (.ref 1), some (.ref 39)]) (st' := [.int (a_s3_cells w), .ref 1]) (h' := (HX w T)) (cs' := 0) (sl' := 0) rfl ?_
  refine ev_step rfl rfl rfl (PFX_2_9_1 rfl) ?_
  refine ev_go 3 (pc' := 13) (L' := [some (.ref 1), some (.ref 39)]) (st' := [.int (a_s3_hour w), .ref 1]) (h' := (HX (u_s1_cells w (a_s3_cells w)) T)) (cs' := 0) (sl' := 0) rfl ?_
  refine ev_step rfl rfl rfl (PFX_2_15_1 rfl) ?_
  refine ev_go 3 (pc' := 21) (L' := [some (.ref 1), some (.ref 39)]) (st' := [.int (a_s3_dams w), .ref 1]) (h' := (HX (u_s1_hour (u_s1_cells w (a_s3_cells w)) (a_s3_hour w)) T)) (cs' := 0) (sl' := 0) rfl ?_
  refine ev_step rfl rfl rfl (PFX_2_18_1 rfl) ?_
  refine ev_go 7 (pc' := 35) (L' := [some (.ref 1), some (.ref 39)]) (st' := [.int 4, .int 0, .ref 2, .int 0, .ref 40]) (h' := (HX (u_s1_dams (u_s1_hour (u_s1_cells w (a_s3_cells w)) (a_s3_hour w)) (a_s3_dams w)) T)) (cs' := 0) (sl' := 0) rfl ?_
  obtain ⟨q1951, hq, h⟩ := ai_bdE h
  refine ev_cpy rfl rfl rfl rfl rfl rfl hq ?_
  rw [HXs_2]
  refine ev_go 7 (pc' := 49) (L' := [some (.ref 1), some (.ref 39)]) (st' := [.int 4, .int 0, .ref 3, .int 0, .ref 41]) (h' := (HX (u_s1_densities (u_s1_dams (u_s1_hour (u_s1_cells w (a_s3_cells w)) (a_s3_hour w)) (a_s3_dams w)) q1951) T)) (cs' := 0) (sl' := 0) rfl ?_
  obtain ⟨q1952, hq, h⟩ := ai_bdE h
  refine ev_cpy rfl rfl rfl rfl rfl rfl hq ?_
  rw [HXs_3]
  refine ev_go 7 (pc' := 64) (L' := [some (.ref 1), some (.ref 39)]) (st' := [.int 24, .int 0, .ref 4, .int 0, .ref 42]) (h' := (HX (u_s1_currents (u_s1_densities (u_s1_dams (u_s1_hour (u_s1_cells w (a_s3_cells w)) (a_s3_hour w)) (a_s3_dams w)) q1951) q1952) T)) (cs' := 0) (sl' := 0) rfl ?_
  obtain ⟨q1953, hq, h⟩ := ai_bdE h
  refine ev_cpy rfl rfl rfl rfl rfl rfl hq ?_
  rw [HXs_4]
  refine ev_go 7 (pc' := 79) (L' := [some (.ref 1), some (.ref 39)]) (st' := [.int 24, .int 0, .ref 5, .int 0, .ref 43]) (h' := (HX (u_s1_tides (u_s1_currents (u_s1_densities (u_s1_dams (u_s1_hour (u_s1_cells w (a_s3_cells w)) (a_s3_hour w)) (a_s3_dams w)) q1951) q1952) q1953) T)) (cs' := 0) (sl' := 0) rfl ?_
  obtain ⟨q1954, hq, h⟩ := ai_bdE h
  refine ev_cpy rfl rfl rfl rfl rfl rfl hq ?_
  rw [HXs_5]
  refine ev_go 7 (pc' := 93) (L' := [some (.ref 1), some (.ref 39)]) (st' := [.int 3, .int 0, .ref 6, .int 0, .ref 44]) (h' := (HX (u_s1_thicks (u_s1_tides (u_s1_currents (u_s1_densities (u_s1_dams (u_s1_hour (u_s1_cells w (a_s3_cells w)) (a_s3_hour w)) (a_s3_dams w)) q1951) q1952) q1953) q1954) T)) (cs' := 0) (sl' := 0) rfl ?_
  obtain ⟨q1955, hq, h⟩ := ai_bdE h
  refine ev_cpy rfl rfl rfl rfl rfl rfl hq ?_
  rw [HXs_6]
  refine ev_go 4 (pc' := 104) (L' := [some (.ref 1), some (.ref 39)]) (st' := [.ref 45, .ref 7]) (h' := (HX (u_s1_skins (u_s1_thicks (u_s1_tides (u_s1_currents (u_s1_densities (u_s1_dams (u_s1_hour (u_s1_cells w (a_s3_cells w)) (a_s3_hour w)) (a_s3_dams w)) q1951) q1952) q1953) q1954) q1955) T)) (cs' := 0) (sl' := 0) rfl ?_
  obtain ⟨c1960, hq, h⟩ := ai_bdE h
  refine ev_call (M' := mthg_copyFrom) (L' := [some (.ref 7), some (.ref 45)]) (rest := []) (rv := none) (h' := (HX c1960 T)) rfl (Ethg_copyFrom_7_45 (u_s1_skins (u_s1_thicks (u_s1_tides (u_s1_currents (u_s1_densities (u_s1_dams (u_s1_hour (u_s1_cells w (a_s3_cells w)) (a_s3_hour w)) (a_s3_dams w)) q1951) q1952) q1953) q1954) q1955) _ hq T) ?_
  show ai_ev D1 msea_copyFrom 107 [some (.ref 1), some (.ref 39)] [] (HX c1960 T) 0 0 _
  refine ev_go 4 (pc' := 115) (L' := [some (.ref 1), some (.ref 39)]) (st' := [.ref 50, .ref 12]) (h' := (HX c1960 T)) (cs' := 0) (sl' := 0) rfl ?_
  obtain ⟨c1964, hq, h⟩ := ai_bdE h
  refine ev_call (M' := mlift_copyFrom) (L' := [some (.ref 12), some (.ref 50)]) (rest := []) (rv := none) (h' := (HX c1964 T)) rfl (Elift_copyFrom_12_50 c1960 _ hq T) ?_
  show ai_ev D1 msea_copyFrom 118 [some (.ref 1), some (.ref 39)] [] (HX c1964 T) 0 0 _
  refine ev_go 3 (pc' := 123) (L' := [some (.ref 1), some (.ref 39)]) (st' := [.int (a_s3_towns c1964), .ref 1]) (h' := (HX c1964 T)) (cs' := 0) (sl' := 0) rfl ?_
  refine ev_step rfl rfl rfl (PFX_2_51_1 rfl) ?_
  refine ev_go 7 (pc' := 138) (L' := [some (.ref 1), some (.ref 39)]) (st' := [.int 6, .int 0, .ref 16, .int 0, .ref 54]) (h' := (HX (u_s1_towns c1964 (a_s3_towns c1964)) T)) (cs' := 0) (sl' := 0) rfl ?_
  obtain ⟨q1965, hq, h⟩ := ai_bdE h
  refine ev_cpy rfl rfl rfl rfl rfl rfl hq ?_
  rw [HXs_16]
  refine ev_go 3 (pc' := 146) (L' := [some (.ref 1), some (.ref 39)]) (st' := [.int (a_s3_drops c1964), .ref 1]) (h' := (HX (u_s1_townPlaces (u_s1_towns c1964 (a_s3_towns c1964)) q1965) T)) (cs' := 0) (sl' := 0) rfl ?_
  refine ev_step rfl rfl rfl (PFX_2_57_1 rfl) ?_
  refine ev_go 7 (pc' := 161) (L' := [some (.ref 1), some (.ref 39)]) (st' := [.int 6, .int 0, .ref 17, .int 0, .ref 55]) (h' := (HX (u_s1_drops (u_s1_townPlaces (u_s1_towns c1964 (a_s3_towns c1964)) q1965) (a_s3_drops c1964)) T)) (cs' := 0) (sl' := 0) rfl ?_
  obtain ⟨q1966, hq, h⟩ := ai_bdE h
  refine ev_cpy rfl rfl rfl rfl rfl rfl hq ?_
  rw [HXs_17]
  refine ev_go 7 (pc' := 176) (L' := [some (.ref 1), some (.ref 39)]) (st' := [.int 6, .int 0, .ref 18, .int 0, .ref 56]) (h' := (HX (u_s1_dropLayers (u_s1_drops (u_s1_townPlaces (u_s1_towns c1964 (a_s3_towns c1964)) q1965) (a_s3_drops c1964)) q1966) T)) (cs' := 0) (sl' := 0) rfl ?_
  obtain ⟨q1967, hq, h⟩ := ai_bdE h
  refine ev_cpy rfl rfl rfl rfl rfl rfl hq ?_
  rw [HXs_18]
  refine ev_go 3 (pc' := 184) (L' := [some (.ref 1), some (.ref 39)]) (st' := [.int (a_s3_undos c1964), .ref 1]) (h' := (HX (u_s1_dropFloats (u_s1_dropLayers (u_s1_drops (u_s1_townPlaces (u_s1_towns c1964 (a_s3_towns c1964)) q1965) (a_s3_drops c1964)) q1966) q1967) T)) (cs' := 0) (sl' := 0) rfl ?_
  refine ev_step rfl rfl rfl (PFX_2_66_1 rfl) ?_
  refine ev_go 7 (pc' := 199) (L' := [some (.ref 1), some (.ref 39)]) (st' := [.int 10, .int 0, .ref 19, .int 0, .ref 57]) (h' := (HX (u_s1_undos (u_s1_dropFloats (u_s1_dropLayers (u_s1_drops (u_s1_townPlaces (u_s1_towns c1964 (a_s3_towns c1964)) q1965) (a_s3_drops c1964)) q1966) q1967) (a_s3_undos c1964)) T)) (cs' := 0) (sl' := 0) rfl ?_
  obtain ⟨q1968, hq, h⟩ := ai_bdE h
  refine ev_cpy rfl rfl rfl rfl rfl rfl hq ?_
  rw [HXs_19]
  obtain rfl := Option.some.inj h
  exact ev_end rfl
set_option maxHeartbeats 40000000 in
set_option maxRecDepth 100000 in
theorem Ethg_copyFrom_7_64 (w : WX) (w' : WX) (h : Fthg_copyFrom_7_64 w = some w') (T : ai_H) : ai_ev D1 mthg_copyFrom 0 [some (.ref 7), some (.ref 64)] [] (HX w T) 0 0 (none, HX w' T) := by
  unfold Fthg_copyFrom_7_64 at h
  refine ev_go 3 (pc' := 5) (L' := [some (.ref 7), some (.ref 64)]) (st' := [.int (a_s4things_count w), .ref 7]) (h' := (HX w T)) (cs' := 0) (sl' := 0) rfl ?_
  refine ev_step rfl rfl rfl (PFX_5_9_7 rfl) ?_
  refine ev_go 7 (pc' := 20) (L' := [some (.ref 7), some (.ref 64)]) (st' := [.int 6, .int 0, .ref 8, .int 0, .ref 65]) (h' := (HX (u_s1things_count w (a_s4things_count w)) T)) (cs' := 0) (sl' := 0) rfl ?_
  obtain ⟨q1975, hq, h⟩ := ai_bdE h
  refine ev_cpy rfl rfl rfl rfl rfl rfl hq ?_
  rw [HXs_8]
  refine ev_go 7 (pc' := 35) (L' := [some (.ref 7), some (.ref 64)]) (st' := [.int 6, .int 0, .ref 9, .int 0, .ref 66]) (h' := (HX (u_s1things_kinds (u_s1things_count w (a_s4things_count w)) q1975) T)) (cs' := 0) (sl' := 0) rfl ?_
  obtain ⟨q1976, hq, h⟩ := ai_bdE h
  refine ev_cpy rfl rfl rfl rfl rfl rfl hq ?_
  rw [HXs_9]
  refine ev_go 7 (pc' := 50) (L' := [some (.ref 7), some (.ref 64)]) (st' := [.int 6, .int 0, .ref 10, .int 0, .ref 67]) (h' := (HX (u_s1things_weights (u_s1things_kinds (u_s1things_count w (a_s4things_count w)) q1975) q1976) T)) (cs' := 0) (sl' := 0) rfl ?_
  obtain ⟨q1977, hq, h⟩ := ai_bdE h
  refine ev_cpy rfl rfl rfl rfl rfl rfl hq ?_
  rw [HXs_10]
  refine ev_go 7 (pc' := 65) (L' := [some (.ref 7), some (.ref 64)]) (st' := [.int 6, .int 0, .ref 11, .int 0, .ref 68]) (h' := (HX (u_s1things_volumes (u_s1things_weights (u_s1things_kinds (u_s1things_count w (a_s4things_count w)) q1975) q1976) q1977) T)) (cs' := 0) (sl' := 0) rfl ?_
  obtain ⟨q1978, hq, h⟩ := ai_bdE h
  refine ev_cpy rfl rfl rfl rfl rfl rfl hq ?_
  rw [HXs_11]
  obtain rfl := Option.some.inj h
  exact ev_end rfl
set_option maxHeartbeats 40000000 in
set_option maxRecDepth 100000 in
theorem Elift_copyFrom_12_69 (w : WX) (w' : WX) (h : Flift_copyFrom_12_69 w = some w') (T : ai_H) : ai_ev D1 mlift_copyFrom 0 [some (.ref 12), some (.ref 69)] [] (HX w T) 0 0 (none, HX w' T) := by
  unfold Flift_copyFrom_12_69 at h
  refine ev_go 3 (pc' := 5) (L' := [some (.ref 12), some (.ref 69)]) (st' := [.int (a_s4lifts_count w), .ref 12]) (h' := (HX w T)) (cs' := 0) (sl' := 0) rfl ?_
  refine ev_step rfl rfl rfl (PFX_1_9_12 rfl) ?_
  refine ev_go 7 (pc' := 20) (L' := [some (.ref 12), some (.ref 69)]) (st' := [.int 10, .int 0, .ref 13, .int 0, .ref 70]) (h' := (HX (u_s1lifts_count w (a_s4lifts_count w)) T)) (cs' := 0) (sl' := 0) rfl ?_
  obtain ⟨q1980, hq, h⟩ := ai_bdE h
  refine ev_cpy rfl rfl rfl rfl rfl rfl hq ?_
  rw [HXs_13]
  refine ev_go 7 (pc' := 35) (L' := [some (.ref 12), some (.ref 69)]) (st' := [.int 10, .int 0, .ref 14, .int 0, .ref 71]) (h' := (HX (u_s1lifts_froms (u_s1lifts_count w (a_s4lifts_count w)) q1980) T)) (cs' := 0) (sl' := 0) rfl ?_
  obtain ⟨q1981, hq, h⟩ := ai_bdE h
  refine ev_cpy rfl rfl rfl rfl rfl rfl hq ?_
  rw [HXs_14]
  refine ev_go 7 (pc' := 50) (L' := [some (.ref 12), some (.ref 69)]) (st' := [.int 10, .int 0, .ref 15, .int 0, .ref 72]) (h' := (HX (u_s1lifts_tos (u_s1lifts_froms (u_s1lifts_count w (a_s4lifts_count w)) q1980) q1981) T)) (cs' := 0) (sl' := 0) rfl ?_
  obtain ⟨q1982, hq, h⟩ := ai_bdE h
  refine ev_cpy rfl rfl rfl rfl rfl rfl hq ?_
  rw [HXs_15]
  obtain rfl := Option.some.inj h
  exact ev_end rfl
set_option maxHeartbeats 40000000 in
set_option maxRecDepth 100000 in
theorem Esea_copyFrom_1_58 (w : WX) (w' : WX) (h : Fsea_copyFrom_1_58 w = some w') (T : ai_H) : ai_ev D1 msea_copyFrom 0 [some (.ref 1), some (.ref 58)] [] (HX w T) 0 0 (none, HX w' T) := by
  unfold Fsea_copyFrom_1_58 at h
  refine ev_go 3 (pc' := 5) (L' := [some (.ref 1), some (.ref 58)]) (st' := [.int (a_s4_cells w), .ref 1]) (h' := (HX w T)) (cs' := 0) (sl' := 0) rfl ?_
  refine ev_step rfl rfl rfl (PFX_2_9_1 rfl) ?_
  refine ev_go 3 (pc' := 13) (L' := [some (.ref 1), some (.ref 58)]) (st' := [.int (a_s4_hour w), .ref 1]) (h' := (HX (u_s1_cells w (a_s4_cells w)) T)) (cs' := 0) (sl' := 0) rfl ?_
  refine ev_step rfl rfl rfl (PFX_2_15_1 rfl) ?_
  refine ev_go 3 (pc' := 21) (L' := [some (.ref 1), some (.ref 58)]) (st' := [.int (a_s4_dams w), .ref 1]) (h' := (HX (u_s1_hour (u_s1_cells w (a_s4_cells w)) (a_s4_hour w)) T)) (cs' := 0) (sl' := 0) rfl ?_
  refine ev_step rfl rfl rfl (PFX_2_18_1 rfl) ?_
  refine ev_go 7 (pc' := 35) (L' := [some (.ref 1), some (.ref 58)]) (st' := [.int 4, .int 0, .ref 2, .int 0, .ref 59]) (h' := (HX (u_s1_dams (u_s1_hour (u_s1_cells w (a_s4_cells w)) (a_s4_hour w)) (a_s4_dams w)) T)) (cs' := 0) (sl' := 0) rfl ?_
  obtain ⟨q1970, hq, h⟩ := ai_bdE h
  refine ev_cpy rfl rfl rfl rfl rfl rfl hq ?_
  rw [HXs_2]
  refine ev_go 7 (pc' := 49) (L' := [some (.ref 1), some (.ref 58)]) (st' := [.int 4, .int 0, .ref 3, .int 0, .ref 60]) (h' := (HX (u_s1_densities (u_s1_dams (u_s1_hour (u_s1_cells w (a_s4_cells w)) (a_s4_hour w)) (a_s4_dams w)) q1970) T)) (cs' := 0) (sl' := 0) rfl ?_
  obtain ⟨q1971, hq, h⟩ := ai_bdE h
  refine ev_cpy rfl rfl rfl rfl rfl rfl hq ?_
  rw [HXs_3]
  refine ev_go 7 (pc' := 64) (L' := [some (.ref 1), some (.ref 58)]) (st' := [.int 24, .int 0, .ref 4, .int 0, .ref 61]) (h' := (HX (u_s1_currents (u_s1_densities (u_s1_dams (u_s1_hour (u_s1_cells w (a_s4_cells w)) (a_s4_hour w)) (a_s4_dams w)) q1970) q1971) T)) (cs' := 0) (sl' := 0) rfl ?_
  obtain ⟨q1972, hq, h⟩ := ai_bdE h
  refine ev_cpy rfl rfl rfl rfl rfl rfl hq ?_
  rw [HXs_4]
  refine ev_go 7 (pc' := 79) (L' := [some (.ref 1), some (.ref 58)]) (st' := [.int 24, .int 0, .ref 5, .int 0, .ref 62]) (h' := (HX (u_s1_tides (u_s1_currents (u_s1_densities (u_s1_dams (u_s1_hour (u_s1_cells w (a_s4_cells w)) (a_s4_hour w)) (a_s4_dams w)) q1970) q1971) q1972) T)) (cs' := 0) (sl' := 0) rfl ?_
  obtain ⟨q1973, hq, h⟩ := ai_bdE h
  refine ev_cpy rfl rfl rfl rfl rfl rfl hq ?_
  rw [HXs_5]
  refine ev_go 7 (pc' := 93) (L' := [some (.ref 1), some (.ref 58)]) (st' := [.int 3, .int 0, .ref 6, .int 0, .ref 63]) (h' := (HX (u_s1_thicks (u_s1_tides (u_s1_currents (u_s1_densities (u_s1_dams (u_s1_hour (u_s1_cells w (a_s4_cells w)) (a_s4_hour w)) (a_s4_dams w)) q1970) q1971) q1972) q1973) T)) (cs' := 0) (sl' := 0) rfl ?_
  obtain ⟨q1974, hq, h⟩ := ai_bdE h
  refine ev_cpy rfl rfl rfl rfl rfl rfl hq ?_
  rw [HXs_6]
  refine ev_go 4 (pc' := 104) (L' := [some (.ref 1), some (.ref 58)]) (st' := [.ref 64, .ref 7]) (h' := (HX (u_s1_skins (u_s1_thicks (u_s1_tides (u_s1_currents (u_s1_densities (u_s1_dams (u_s1_hour (u_s1_cells w (a_s4_cells w)) (a_s4_hour w)) (a_s4_dams w)) q1970) q1971) q1972) q1973) q1974) T)) (cs' := 0) (sl' := 0) rfl ?_
  obtain ⟨c1979, hq, h⟩ := ai_bdE h
  refine ev_call (M' := mthg_copyFrom) (L' := [some (.ref 7), some (.ref 64)]) (rest := []) (rv := none) (h' := (HX c1979 T)) rfl (Ethg_copyFrom_7_64 (u_s1_skins (u_s1_thicks (u_s1_tides (u_s1_currents (u_s1_densities (u_s1_dams (u_s1_hour (u_s1_cells w (a_s4_cells w)) (a_s4_hour w)) (a_s4_dams w)) q1970) q1971) q1972) q1973) q1974) _ hq T) ?_
  show ai_ev D1 msea_copyFrom 107 [some (.ref 1), some (.ref 58)] [] (HX c1979 T) 0 0 _
  refine ev_go 4 (pc' := 115) (L' := [some (.ref 1), some (.ref 58)]) (st' := [.ref 69, .ref 12]) (h' := (HX c1979 T)) (cs' := 0) (sl' := 0) rfl ?_
  obtain ⟨c1983, hq, h⟩ := ai_bdE h
  refine ev_call (M' := mlift_copyFrom) (L' := [some (.ref 12), some (.ref 69)]) (rest := []) (rv := none) (h' := (HX c1983 T)) rfl (Elift_copyFrom_12_69 c1979 _ hq T) ?_
  show ai_ev D1 msea_copyFrom 118 [some (.ref 1), some (.ref 58)] [] (HX c1983 T) 0 0 _
  refine ev_go 3 (pc' := 123) (L' := [some (.ref 1), some (.ref 58)]) (st' := [.int (a_s4_towns c1983), .ref 1]) (h' := (HX c1983 T)) (cs' := 0) (sl' := 0) rfl ?_
  refine ev_step rfl rfl rfl (PFX_2_51_1 rfl) ?_
  refine ev_go 7 (pc' := 138) (L' := [some (.ref 1), some (.ref 58)]) (st' := [.int 6, .int 0, .ref 16, .int 0, .ref 73]) (h' := (HX (u_s1_towns c1983 (a_s4_towns c1983)) T)) (cs' := 0) (sl' := 0) rfl ?_
  obtain ⟨q1984, hq, h⟩ := ai_bdE h
  refine ev_cpy rfl rfl rfl rfl rfl rfl hq ?_
  rw [HXs_16]
  refine ev_go 3 (pc' := 146) (L' := [some (.ref 1), some (.ref 58)]) (st' := [.int (a_s4_drops c1983), .ref 1]) (h' := (HX (u_s1_townPlaces (u_s1_towns c1983 (a_s4_towns c1983)) q1984) T)) (cs' := 0) (sl' := 0) rfl ?_
  refine ev_step rfl rfl rfl (PFX_2_57_1 rfl) ?_
  refine ev_go 7 (pc' := 161) (L' := [some (.ref 1), some (.ref 58)]) (st' := [.int 6, .int 0, .ref 17, .int 0, .ref 74]) (h' := (HX (u_s1_drops (u_s1_townPlaces (u_s1_towns c1983 (a_s4_towns c1983)) q1984) (a_s4_drops c1983)) T)) (cs' := 0) (sl' := 0) rfl ?_
  obtain ⟨q1985, hq, h⟩ := ai_bdE h
  refine ev_cpy rfl rfl rfl rfl rfl rfl hq ?_
  rw [HXs_17]
  refine ev_go 7 (pc' := 176) (L' := [some (.ref 1), some (.ref 58)]) (st' := [.int 6, .int 0, .ref 18, .int 0, .ref 75]) (h' := (HX (u_s1_dropLayers (u_s1_drops (u_s1_townPlaces (u_s1_towns c1983 (a_s4_towns c1983)) q1984) (a_s4_drops c1983)) q1985) T)) (cs' := 0) (sl' := 0) rfl ?_
  obtain ⟨q1986, hq, h⟩ := ai_bdE h
  refine ev_cpy rfl rfl rfl rfl rfl rfl hq ?_
  rw [HXs_18]
  refine ev_go 3 (pc' := 184) (L' := [some (.ref 1), some (.ref 58)]) (st' := [.int (a_s4_undos c1983), .ref 1]) (h' := (HX (u_s1_dropFloats (u_s1_dropLayers (u_s1_drops (u_s1_townPlaces (u_s1_towns c1983 (a_s4_towns c1983)) q1984) (a_s4_drops c1983)) q1985) q1986) T)) (cs' := 0) (sl' := 0) rfl ?_
  refine ev_step rfl rfl rfl (PFX_2_66_1 rfl) ?_
  refine ev_go 7 (pc' := 199) (L' := [some (.ref 1), some (.ref 58)]) (st' := [.int 10, .int 0, .ref 19, .int 0, .ref 76]) (h' := (HX (u_s1_undos (u_s1_dropFloats (u_s1_dropLayers (u_s1_drops (u_s1_townPlaces (u_s1_towns c1983 (a_s4_towns c1983)) q1984) (a_s4_drops c1983)) q1985) q1986) (a_s4_undos c1983)) T)) (cs' := 0) (sl' := 0) rfl ?_
  obtain ⟨q1987, hq, h⟩ := ai_bdE h
  refine ev_cpy rfl rfl rfl rfl rfl rfl hq ?_
  rw [HXs_19]
  obtain rfl := Option.some.inj h
  exact ev_end rfl
set_option maxHeartbeats 40000000 in
set_option maxRecDepth 100000 in
theorem Ef_from_0 (x1948 : Int32) (w : WX) (r : Int32) (w' : WX) (h : Ff_from_0 x1948 w = some (r, w')) (T : ai_H) : ai_ev D1 mf_from 0 [some (.ref 0), some (.int x1948)] [] (HX w T) 0 0 (some (.int r), HX w' T) := by
  unfold Ff_from_0 at h
  refine ev_go 3 (pc' := 3) (L' := [some (.ref 0), some (.int x1948)]) (st' := [.int 1, .int 0, .int x1948]) (h' := (HX w T)) (cs' := 0) (sl' := 0) rfl ?_
  obtain ⟨c1949, hq, h⟩ := ai_bdE h
  refine ev_call (M' := mf_within) (L' := [some (.int x1948), some (.int 0), some (.int 1)]) (rest := []) (rv := some (.int c1949)) (h' := (HX w T)) rfl (Ef_within x1948 0 1 _ hq (HX w T)) ?_
  show ai_ev D1 mf_from 6 [some (.ref 0), some (.int x1948)] [.int c1949] (HX w T) 0 0 _
  rcases ai_ifE h with ⟨hc, h⟩ | ⟨hc, h⟩
  · refine ev_if_ne (t := 16) rfl rfl (fun c9 => absurd hc c9) (fun _ => ?_)
    refine ev_go 2 (pc' := 12) (L' := [some (.ref 0), some (.int x1948)]) (st' := [.int (-2), .ref 0]) (h' := (HX w T)) (cs' := 0) (sl' := 0) rfl ?_
    obtain ⟨c1990, hq, h⟩ := ai_bdE h
    refine ev_call (M' := mf_bad) (L' := [some (.ref 0), some (.int (-2))]) (rest := []) (rv := some (.int c1990.1)) (h' := (HX c1990.2 T)) rfl (Ef_bad_0 (-2) w _ _ hq T) ?_
    show ai_ev D1 mf_from 15 [some (.ref 0), some (.int x1948)] [.int c1990.1] (HX c1990.2 T) 0 0 _
    obtain ⟨rfl, rfl⟩ := ai_smP h
    exact ev_end rfl
  · refine ev_if_ne (t := 16) rfl rfl (fun _ => ?_) (fun c9 => absurd c9 hc)
    refine ev_go 3 (pc' := 21) (L' := [some (.ref 0), some (.int x1948)]) (st' := [.int x1948, .ref 77]) (h' := (HX w T)) (cs' := 0) (sl' := 0) rfl ?_
    obtain ⟨v1950, hq, h⟩ := ai_bdE h
    refine ev_zald rfl rfl hq ?_
    rcases ai_ifE h with ⟨hc, h⟩ | ⟨hc, h⟩
    · refine ev_if_ne (t := 32) rfl rfl (fun c9 => absurd hc c9) (fun _ => ?_)
      refine ev_go 2 (pc' := 28) (L' := [some (.ref 0), some (.int x1948)]) (st' := [.int (-3), .ref 0]) (h' := (HX w T)) (cs' := 0) (sl' := 0) rfl ?_
      obtain ⟨c1989, hq, h⟩ := ai_bdE h
      refine ev_call (M' := mf_counted) (L' := [some (.ref 0), some (.int (-3))]) (rest := []) (rv := some (.int c1989.1)) (h' := (HX c1989.2 T)) rfl (Ef_counted_0 (-3) w _ _ hq T) ?_
      show ai_ev D1 mf_from 31 [some (.ref 0), some (.int x1948)] [.int c1989.1] (HX c1989.2 T) 0 0 _
      obtain ⟨rfl, rfl⟩ := ai_smP h
      exact ev_end rfl
    · refine ev_if_ne (t := 32) rfl rfl (fun _ => ?_) (fun c9 => absurd c9 hc)
      refine ev_go 4 (pc' := 38) (L' := [some (.ref 0), some (.int x1948)]) (st' := [.int x1948, .ref 0, .ref 1]) (h' := (HX w T)) (cs' := 0) (sl' := 0) rfl ?_
      rcases ai_ifE h with ⟨hc, h⟩ | ⟨hc, h⟩
      · refine ev_call (M' := mf_imageAt) (L' := [some (.ref 0), some (.int x1948)]) (rest := [.ref 1]) (rv := some (.ref 39)) (h' := (HX w T)) rfl (Eimg0 hc _ T) ?_
        show ai_ev D1 mf_from 41 [some (.ref 0), some (.int x1948)] [.ref 39, .ref 1] (HX w T) 0 0 _
        obtain ⟨c1969, hq, h⟩ := ai_bdE h
        refine ev_call (M' := msea_copyFrom) (L' := [some (.ref 1), some (.ref 39)]) (rest := []) (rv := none) (h' := (HX c1969 T)) rfl (Esea_copyFrom_1_39 w _ hq T) ?_
        show ai_ev D1 mf_from 44 [some (.ref 0), some (.int x1948)] [] (HX c1969 T) 0 0 _
        refine ev_go 1 (pc' := 45) (L' := [some (.ref 0), some (.int x1948)]) (st' := [.int 1]) (h' := (HX c1969 T)) (cs' := 0) (sl' := 0) rfl ?_
        obtain ⟨rfl, rfl⟩ := ai_smP h
        exact ev_end rfl
      · refine ev_call (M' := mf_imageAt) (L' := [some (.ref 0), some (.int x1948)]) (rest := [.ref 1]) (rv := some (.ref 58)) (h' := (HX w T)) rfl (Eimg1 hc _ T) ?_
        show ai_ev D1 mf_from 41 [some (.ref 0), some (.int x1948)] [.ref 58, .ref 1] (HX w T) 0 0 _
        obtain ⟨c1988, hq, h⟩ := ai_bdE h
        refine ev_call (M' := msea_copyFrom) (L' := [some (.ref 1), some (.ref 58)]) (rest := []) (rv := none) (h' := (HX c1988 T)) rfl (Esea_copyFrom_1_58 w _ hq T) ?_
        show ai_ev D1 mf_from 44 [some (.ref 0), some (.int x1948)] [] (HX c1988 T) 0 0 _
        refine ev_go 1 (pc' := 45) (L' := [some (.ref 0), some (.int x1948)]) (st' := [.int 1]) (h' := (HX c1988 T)) (cs' := 0) (sl' := 0) rfl ?_
        obtain ⟨rfl, rfl⟩ := ai_smP h
        exact ev_end rfl
set_option maxHeartbeats 40000000 in
set_option maxRecDepth 100000 in
theorem Ef_status_0 (x1991 : Int32) (w : WX) (r : Int32) (w' : WX) (h : Ff_status_0 x1991 w = some (r, w')) (T : ai_H) : ai_ev D1 mf_status 0 [some (.ref 0), some (.int x1991)] [] (HX w T) 0 0 (some (.int r), HX w' T) := by
  unfold Ff_status_0 at h
  refine ev_go 1 (pc' := 1) (L' := [some (.ref 0), some (.int x1991)]) (st' := [.int x1991]) (h' := (HX w T)) (cs' := 0) (sl' := 0) rfl ?_
  rcases ai_ifE h with ⟨hc, h⟩ | ⟨hs0, h⟩
  · refine ev_swi (k := 0) (t := 28) rfl hc (by decide) (by decide) rfl rfl ?_
    refine ev_go 2 (pc' := 32) (L' := [some (.ref 0), some (.int x1991)]) (st' := [.int (a_f_refusedBad w)]) (h' := (HX w T)) (cs' := 0) (sl' := 0) rfl ?_
    obtain ⟨rfl, rfl⟩ := ai_smP h
    exact ev_end rfl
  rcases ai_ifE h with ⟨hc, h⟩ | ⟨hs1, h⟩
  · refine ev_swi (k := 1) (t := 33) rfl hc (by decide) (by decide) rfl rfl ?_
    refine ev_go 2 (pc' := 37) (L' := [some (.ref 0), some (.int x1991)]) (st' := [.int (a_f_refusedNo w)]) (h' := (HX w T)) (cs' := 0) (sl' := 0) rfl ?_
    obtain ⟨rfl, rfl⟩ := ai_smP h
    exact ev_end rfl
  rcases ai_ifE h with ⟨hc, h⟩ | ⟨hs2, h⟩
  · refine ev_swi (k := 2) (t := 38) rfl hc (by decide) (by decide) rfl rfl ?_
    refine ev_go 2 (pc' := 42) (L' := [some (.ref 0), some (.int x1991)]) (st' := [.int (a_f_refusedFull w)]) (h' := (HX w T)) (cs' := 0) (sl' := 0) rfl ?_
    obtain ⟨rfl, rfl⟩ := ai_smP h
    exact ev_end rfl
  refine ev_swo (t := 43) (lo := 0) (n := 3) rfl (sw_out 0 3 (fun k hk => by match k, hk with | 0, _ => exact hs0 | 1, _ => exact hs1 | 2, _ => exact hs2 | k + 3, hk => exact absurd hk (by omega))) ⟨rfl, by decide⟩ rfl ?_
  refine ev_go 2 (pc' := 45) (L' := [some (.ref 0), some (.int x1991)]) (st' := [.int (-1), .ref 0]) (h' := (HX w T)) (cs' := 0) (sl' := 0) rfl ?_
  obtain ⟨c1992, hq, h⟩ := ai_bdE h
  refine ev_call (M' := mf_bad) (L' := [some (.ref 0), some (.int (-1))]) (rest := []) (rv := some (.int c1992.1)) (h' := (HX c1992.2 T)) rfl (Ef_bad_0 (-1) w _ _ hq T) ?_
  show ai_ev D1 mf_status 48 [some (.ref 0), some (.int x1991)] [.int c1992.1] (HX c1992.2 T) 0 0 _
  obtain ⟨rfl, rfl⟩ := ai_smP h
  exact ev_end rfl
set_option maxHeartbeats 40000000 in
set_option maxRecDepth 100000 in
theorem Esea_countOf_1 (x1995 : Int32) (w : WX) (r : Int32) (w' : WX) (h : Fsea_countOf_1 x1995 w = some (r, w')) (T : ai_H) : ai_ev D1 msea_countOf 0 [some (.ref 1), some (.int x1995)] [] (HX w T) 0 0 (some (.int r), HX w' T) := by
  unfold Fsea_countOf_1 at h
  refine ev_go 1 (pc' := 1) (L' := [some (.ref 1), some (.int x1995)]) (st' := [.int x1995]) (h' := (HX w T)) (cs' := 0) (sl' := 0) rfl ?_
  rcases ai_ifE h with ⟨hc, h⟩ | ⟨hs0, h⟩
  · refine ev_swi (k := 0) (t := 44) rfl hc (by decide) (by decide) rfl rfl ?_
    refine ev_go 2 (pc' := 48) (L' := [some (.ref 1), some (.int x1995)]) (st' := [.int (a_s1_cells w)]) (h' := (HX w T)) (cs' := 0) (sl' := 0) rfl ?_
    obtain ⟨rfl, rfl⟩ := ai_smP h
    exact ev_end rfl
  rcases ai_ifE h with ⟨hc, h⟩ | ⟨hs1, h⟩
  · refine ev_swi (k := 1) (t := 49) rfl hc (by decide) (by decide) rfl rfl ?_
    refine ev_go 2 (pc' := 53) (L' := [some (.ref 1), some (.int x1995)]) (st' := [.int (a_s1_hour w)]) (h' := (HX w T)) (cs' := 0) (sl' := 0) rfl ?_
    obtain ⟨rfl, rfl⟩ := ai_smP h
    exact ev_end rfl
  rcases ai_ifE h with ⟨hc, h⟩ | ⟨hs2, h⟩
  · refine ev_swi (k := 2) (t := 54) rfl hc (by decide) (by decide) rfl rfl ?_
    refine ev_go 3 (pc' := 61) (L' := [some (.ref 1), some (.int x1995)]) (st' := [.int (a_s1things_count w)]) (h' := (HX w T)) (cs' := 0) (sl' := 0) rfl ?_
    obtain ⟨rfl, rfl⟩ := ai_smP h
    exact ev_end rfl
  rcases ai_ifE h with ⟨hc, h⟩ | ⟨hs3, h⟩
  · refine ev_swi (k := 3) (t := 62) rfl hc (by decide) (by decide) rfl rfl ?_
    refine ev_go 3 (pc' := 69) (L' := [some (.ref 1), some (.int x1995)]) (st' := [.int (a_s1lifts_count w)]) (h' := (HX w T)) (cs' := 0) (sl' := 0) rfl ?_
    obtain ⟨rfl, rfl⟩ := ai_smP h
    exact ev_end rfl
  rcases ai_ifE h with ⟨hc, h⟩ | ⟨hs4, h⟩
  · refine ev_swi (k := 4) (t := 70) rfl hc (by decide) (by decide) rfl rfl ?_
    refine ev_go 2 (pc' := 74) (L' := [some (.ref 1), some (.int x1995)]) (st' := [.int (a_s1_towns w)]) (h' := (HX w T)) (cs' := 0) (sl' := 0) rfl ?_
    obtain ⟨rfl, rfl⟩ := ai_smP h
    exact ev_end rfl
  rcases ai_ifE h with ⟨hc, h⟩ | ⟨hs5, h⟩
  · refine ev_swi (k := 5) (t := 75) rfl hc (by decide) (by decide) rfl rfl ?_
    refine ev_go 2 (pc' := 79) (L' := [some (.ref 1), some (.int x1995)]) (st' := [.int (a_s1_dams w)]) (h' := (HX w T)) (cs' := 0) (sl' := 0) rfl ?_
    obtain ⟨rfl, rfl⟩ := ai_smP h
    exact ev_end rfl
  rcases ai_ifE h with ⟨hc, h⟩ | ⟨hs6, h⟩
  · refine ev_swi (k := 6) (t := 80) rfl hc (by decide) (by decide) rfl rfl ?_
    refine ev_go 2 (pc' := 84) (L' := [some (.ref 1), some (.int x1995)]) (st' := [.int (a_s1_drops w)]) (h' := (HX w T)) (cs' := 0) (sl' := 0) rfl ?_
    obtain ⟨rfl, rfl⟩ := ai_smP h
    exact ev_end rfl
  refine ev_swo (t := 85) (lo := 0) (n := 7) rfl (sw_out 0 7 (fun k hk => by match k, hk with | 0, _ => exact hs0 | 1, _ => exact hs1 | 2, _ => exact hs2 | 3, _ => exact hs3 | 4, _ => exact hs4 | 5, _ => exact hs5 | 6, _ => exact hs6 | k + 7, hk => exact absurd hk (by omega))) ⟨rfl, by decide⟩ rfl ?_
  refine ev_go 2 (pc' := 89) (L' := [some (.ref 1), some (.int x1995)]) (st' := [.int (a_s1_undos w)]) (h' := (HX w T)) (cs' := 0) (sl' := 0) rfl ?_
  obtain ⟨rfl, rfl⟩ := ai_smP h
  exact ev_end rfl
set_option maxHeartbeats 40000000 in
set_option maxRecDepth 100000 in
theorem Ef_count_0 (x1993 : Int32) (w : WX) (r : Int32) (w' : WX) (h : Ff_count_0 x1993 w = some (r, w')) (T : ai_H) : ai_ev D1 mf_count 0 [some (.ref 0), some (.int x1993)] [] (HX w T) 0 0 (some (.int r), HX w' T) := by
  unfold Ff_count_0 at h
  refine ev_go 3 (pc' := 4) (L' := [some (.ref 0), some (.int x1993)]) (st' := [.int 8, .int 0, .int x1993]) (h' := (HX w T)) (cs' := 0) (sl' := 0) rfl ?_
  obtain ⟨c1994, hq, h⟩ := ai_bdE h
  refine ev_call (M' := mf_within) (L' := [some (.int x1993), some (.int 0), some (.int 8)]) (rest := []) (rv := some (.int c1994)) (h' := (HX w T)) rfl (Ef_within x1993 0 8 _ hq (HX w T)) ?_
  show ai_ev D1 mf_count 7 [some (.ref 0), some (.int x1993)] [.int c1994] (HX w T) 0 0 _
  rcases ai_ifE h with ⟨hc, h⟩ | ⟨hc, h⟩
  · refine ev_if_ne (t := 17) rfl rfl (fun c9 => absurd hc c9) (fun _ => ?_)
    refine ev_go 2 (pc' := 13) (L' := [some (.ref 0), some (.int x1993)]) (st' := [.int (-2), .ref 0]) (h' := (HX w T)) (cs' := 0) (sl' := 0) rfl ?_
    obtain ⟨c1997, hq, h⟩ := ai_bdE h
    refine ev_call (M' := mf_bad) (L' := [some (.ref 0), some (.int (-2))]) (rest := []) (rv := some (.int c1997.1)) (h' := (HX c1997.2 T)) rfl (Ef_bad_0 (-2) w _ _ hq T) ?_
    show ai_ev D1 mf_count 16 [some (.ref 0), some (.int x1993)] [.int c1997.1] (HX c1997.2 T) 0 0 _
    obtain ⟨rfl, rfl⟩ := ai_smP h
    exact ev_end rfl
  · refine ev_if_ne (t := 17) rfl rfl (fun _ => ?_) (fun c9 => absurd c9 hc)
    refine ev_go 2 (pc' := 20) (L' := [some (.ref 0), some (.int x1993)]) (st' := [.int 8, .int x1993]) (h' := (HX w T)) (cs' := 0) (sl' := 0) rfl ?_
    rcases ai_ifE h with ⟨hc, h⟩ | ⟨hc, h⟩
    · refine ev_ic_ne (t := 33) rfl rfl (fun c9 => absurd hc c9) (fun _ => ?_)
      refine ev_go 4 (pc' := 41) (L' := [some (.ref 0), some (.int x1993)]) (st' := [.int (a_text_length w)]) (h' := (HX w T)) (cs' := 0) (sl' := 0) rfl ?_
      obtain ⟨rfl, rfl⟩ := ai_smP h
      exact ev_end rfl
    · refine ev_ic_ne (t := 33) rfl rfl (fun _ => ?_) (fun c9 => absurd c9 hc)
      refine ev_go 3 (pc' := 38) (L' := [some (.ref 0), some (.int x1993)]) (st' := [.int x1993, .ref 1]) (h' := (HX w T)) (cs' := 0) (sl' := 0) rfl ?_
      obtain ⟨c1996, hq, h⟩ := ai_bdE h
      refine ev_call (M' := msea_countOf) (L' := [some (.ref 1), some (.int x1993)]) (rest := []) (rv := some (.int c1996.1)) (h' := (HX c1996.2 T)) rfl (Esea_countOf_1 x1993 w _ _ hq T) ?_
      show ai_ev D1 mf_count 41 [some (.ref 0), some (.int x1993)] [.int c1996.1] (HX c1996.2 T) 0 0 _
      obtain ⟨rfl, rfl⟩ := ai_smP h
      exact ev_end rfl
set_option maxHeartbeats 40000000 in
set_option maxRecDepth 100000 in
theorem EGsea_digestWaters_1 : ∀ n : Nat, (∀ (y2001 : Int64) (y2002 : Int64) (y2003 : Int32) (w : WX) (r : Int64) (w' : WX), Gsea_digestWaters_1 n 0 y2003 0 y2001 y2002 w = some (r, w') → ∀ (T : ai_H) (o6 : Option Value), ai_ev D1 msea_digestWaters 5 [some (.ref 1), some (.long y2001), none, some (.long y2002), none, some (.int y2003), o6] [] (HX w T) 0 0 (some (.long r), HX w' T)) ∧ (∀ (y2010 : Int64) (y2011 : Int64) (y2012 : Int32) (y2013 : Int32) (w : WX) (r : Int64) (w' : WX), Gsea_digestWaters_1 n 1 y2012 y2013 y2010 y2011 w = some (r, w') → ∀ (T : ai_H), ai_ev D1 msea_digestWaters 44 [some (.ref 1), some (.long y2010), none, some (.long y2011), none, some (.int y2012), some (.int y2013)] [] (HX w T) 0 0 (some (.long r), HX w' T)) ∧ (∀ (y2015 : Int64) (y2016 : Int64) (y2017 : Int32) (y2018 : Int32) (w : WX) (r : Int64) (w' : WX), Gsea_digestWaters_1 n 2 y2017 y2018 y2015 y2016 w = some (r, w') → ∀ (T : ai_H), ai_ev D1 msea_digestWaters 81 [some (.ref 1), some (.long y2015), none, some (.long y2016), none, some (.int y2017), some (.int y2018)] [] (HX w T) 0 0 (some (.long r), HX w' T)) ∧ (∀ (y2006 : Int64) (y2007 : Int64) (y2008 : Int32) (w : WX) (r : Int64) (w' : WX), Gsea_digestWaters_1 n 3 y2008 0 y2006 y2007 w = some (r, w') → ∀ (T : ai_H) (o6 : Option Value), ai_ev D1 msea_digestWaters 126 [some (.ref 1), some (.long y2006), none, some (.long y2007), none, some (.int y2008), o6] [] (HX w T) 0 0 (some (.long r), HX w' T)) := by
  intro n
  induction n with
  | zero =>
    exact ⟨(fun _ _ _ _ _ _ h => by cases h), (fun _ _ _ _ _ _ _ h => by cases h), (fun _ _ _ _ _ _ _ h => by cases h), (fun _ _ _ _ _ _ h => by cases h)⟩
  | succ n ih =>
    obtain ⟨ih0, ih1, ih2, ih3⟩ := ih
    refine ⟨?_, ?_, ?_, ?_⟩
    · intro y2001 y2002 y2003 w r w' h T o6
      simp only [Gsea_digestWaters_1] at h
      refine ev_go 2 (pc' := 8) (L' := [some (.ref 1), some (.long y2001), none, some (.long y2002), none, some (.int y2003), o6]) (st' := [.int 4, .int y2003]) (h' := (HX w T)) (cs' := 0) (sl' := 0) rfl ?_
      rcases ai_ifE h with ⟨hc, h⟩ | ⟨hc, h⟩
      · refine ev_ic_ge (t := 123) rfl rfl (fun _ => ?_) (fun c9 => absurd hc c9)
        refine ev_go 2 (pc' := 126) (L' := [some (.ref 1), some (.long y2001), none, some (.long y2002), none, some (.int 0), o6]) (st' := []) (h' := (HX w T)) (cs' := 0) (sl' := 0) rfl ?_
        exact ih3 _ _ _ _ _ _ h T _
      · refine ev_ic_ge (t := 123) rfl rfl (fun c9 => absurd c9 hc) (fun _ => ?_)
        refine ev_go 6 (pc' := 22) (L' := [some (.ref 1), some (.long y2001), none, some (.long y2002), none, some (.int y2003), o6]) (st' := [.int y2003, .ref 2, .long (31 * y2002)]) (h' := (HX w T)) (cs' := 0) (sl' := 0) rfl ?_
        obtain ⟨v2004, hq, h⟩ := ai_bdE h
        refine ev_iald rfl rfl hq ?_
        refine ev_go 9 (pc' := 37) (L' := [some (.ref 1), some (.long y2001), none, some (.long ((31 * y2002) + (v2004).toInt64)), none, some (.int y2003), o6]) (st' := [.int y2003, .ref 3, .long (31 * ((31 * y2002) + (v2004).toInt64))]) (h' := (HX w T)) (cs' := 0) (sl' := 0) rfl ?_
        obtain ⟨v2005, hq, h⟩ := ai_bdE h
        refine ev_iald rfl rfl hq ?_
        refine ev_go 5 (pc' := 44) (L' := [some (.ref 1), some (.long y2001), none, some (.long ((31 * ((31 * y2002) + (v2004).toInt64)) + (v2005).toInt64)), none, some (.int y2003), some (.int 0)]) (st' := []) (h' := (HX w T)) (cs' := 0) (sl' := 0) rfl ?_
        exact ih1 _ _ _ _ _ _ _ h T
    · intro y2010 y2011 y2012 y2013 w r w' h T
      simp only [Gsea_digestWaters_1] at h
      refine ev_go 2 (pc' := 48) (L' := [some (.ref 1), some (.long y2010), none, some (.long y2011), none, some (.int y2012), some (.int y2013)]) (st' := [.int 6, .int y2013]) (h' := (HX w T)) (cs' := 0) (sl' := 0) rfl ?_
      rcases ai_ifE h with ⟨hc, h⟩ | ⟨hc, h⟩
      · refine ev_ic_ge (t := 78) rfl rfl (fun _ => ?_) (fun c9 => absurd hc c9)
        refine ev_go 2 (pc' := 81) (L' := [some (.ref 1), some (.long y2010), none, some (.long y2011), none, some (.int y2012), some (.int 0)]) (st' := []) (h' := (HX w T)) (cs' := 0) (sl' := 0) rfl ?_
        exact ih2 _ _ _ _ _ _ _ h T
      · refine ev_ic_ge (t := 78) rfl rfl (fun c9 => absurd c9 hc) (fun _ => ?_)
        refine ev_go 10 (pc' := 68) (L' := [some (.ref 1), some (.long y2010), none, some (.long y2011), none, some (.int y2012), some (.int y2013)]) (st' := [.int ((y2012 * 6) + y2013), .ref 4, .long (31 * y2011)]) (h' := (HX w T)) (cs' := 0) (sl' := 0) rfl ?_
        obtain ⟨v2014, hq, h⟩ := ai_bdE h
        refine ev_iald rfl rfl hq ?_
        refine ev_go 5 (pc' := 44) (L' := [some (.ref 1), some (.long y2010), none, some (.long ((31 * y2011) + (v2014).toInt64)), none, some (.int y2012), some (.int (y2013 + 1))]) (st' := []) (h' := (HX w T)) (cs' := 0) (sl' := 0) rfl ?_
        exact ih1 _ _ _ _ _ _ _ h T
    · intro y2015 y2016 y2017 y2018 w r w' h T
      simp only [Gsea_digestWaters_1] at h
      refine ev_go 3 (pc' := 87) (L' := [some (.ref 1), some (.long y2015), none, some (.long y2016), none, some (.int y2017), some (.int y2018)]) (st' := [.int (a_s1_cells w), .int y2018]) (h' := (HX w T)) (cs' := 0) (sl' := 0) rfl ?_
      rcases ai_ifE h with ⟨hc, h⟩ | ⟨hc, h⟩
      · refine ev_ic_ge (t := 117) rfl rfl (fun _ => ?_) (fun c9 => absurd hc c9)
        refine ev_go 2 (pc' := 5) (L' := [some (.ref 1), some (.long y2015), none, some (.long y2016), none, some (.int (y2017 + 1)), some (.int y2018)]) (st' := []) (h' := (HX w T)) (cs' := 0) (sl' := 0) rfl ?_
        exact ih0 _ _ _ _ _ _ h T _
      · refine ev_ic_ge (t := 117) rfl rfl (fun c9 => absurd c9 hc) (fun _ => ?_)
        refine ev_go 10 (pc' := 107) (L' := [some (.ref 1), some (.long y2015), none, some (.long y2016), none, some (.int y2017), some (.int y2018)]) (st' := [.int ((y2017 * 6) + y2018), .ref 5, .long (31 * y2016)]) (h' := (HX w T)) (cs' := 0) (sl' := 0) rfl ?_
        obtain ⟨v2019, hq, h⟩ := ai_bdE h
        refine ev_iald rfl rfl hq ?_
        refine ev_go 5 (pc' := 81) (L' := [some (.ref 1), some (.long y2015), none, some (.long ((31 * y2016) + (v2019).toInt64)), none, some (.int y2017), some (.int (y2018 + 1))]) (st' := []) (h' := (HX w T)) (cs' := 0) (sl' := 0) rfl ?_
        exact ih2 _ _ _ _ _ _ _ h T
    · intro y2006 y2007 y2008 w r w' h T o6
      simp only [Gsea_digestWaters_1] at h
      refine ev_go 2 (pc' := 129) (L' := [some (.ref 1), some (.long y2006), none, some (.long y2007), none, some (.int y2008), o6]) (st' := [.int 3, .int y2008]) (h' := (HX w T)) (cs' := 0) (sl' := 0) rfl ?_
      rcases ai_ifE h with ⟨hc, h⟩ | ⟨hc, h⟩
      · refine ev_ic_ge (t := 153) rfl rfl (fun _ => ?_) (fun c9 => absurd hc c9)
        refine ev_go 1 (pc' := 154) (L' := [some (.ref 1), some (.long y2006), none, some (.long y2007), none, some (.int y2008), o6]) (st' := [.long y2007]) (h' := (HX w T)) (cs' := 0) (sl' := 0) rfl ?_
        obtain ⟨rfl, rfl⟩ := ai_smP h
        exact ev_end rfl
      · refine ev_ic_ge (t := 153) rfl rfl (fun c9 => absurd c9 hc) (fun _ => ?_)
        refine ev_go 6 (pc' := 143) (L' := [some (.ref 1), some (.long y2006), none, some (.long y2007), none, some (.int y2008), o6]) (st' := [.int y2008, .ref 6, .long (31 * y2007)]) (h' := (HX w T)) (cs' := 0) (sl' := 0) rfl ?_
        obtain ⟨v2009, hq, h⟩ := ai_bdE h
        refine ev_iald rfl rfl hq ?_
        refine ev_go 5 (pc' := 126) (L' := [some (.ref 1), some (.long y2006), none, some (.long ((31 * y2007) + (v2009).toInt64)), none, some (.int (y2008 + 1)), o6]) (st' := []) (h' := (HX w T)) (cs' := 0) (sl' := 0) rfl ?_
        exact ih3 _ _ _ _ _ _ h T _
set_option maxHeartbeats 40000000 in
set_option maxRecDepth 100000 in
theorem Esea_digestWaters_1 (n : Nat) (x2000 : Int64) (w : WX) (r : Int64) (w' : WX) (h : Fsea_digestWaters_1 n x2000 w = some (r, w')) (T : ai_H) : ai_ev D1 msea_digestWaters 0 [some (.ref 1), some (.long x2000), none, none, none, none, none] [] (HX w T) 0 0 (some (.long r), HX w' T) := by
  unfold Fsea_digestWaters_1 at h
  obtain ⟨ih0, ih1, ih2, ih3⟩ := EGsea_digestWaters_1 n
  refine ev_go 4 (pc' := 5) (L' := [some (.ref 1), some (.long x2000), none, some (.long x2000), none, some (.int 0), none]) (st' := []) (h' := (HX w T)) (cs' := 0) (sl' := 0) rfl ?_
  exact ih0 _ _ _ _ _ _ h T _
set_option maxHeartbeats 40000000 in
set_option maxRecDepth 100000 in
theorem EGsea_digestRows_1 : ∀ n : Nat, (∀ (y2022 : Int64) (y2023 : Int64) (y2024 : Int32) (w : WX) (r : Int64) (w' : WX), Gsea_digestRows_1 n 0 y2024 y2022 y2023 w = some (r, w') → ∀ (T : ai_H), ai_ev D1 msea_digestRows 5 [some (.ref 1), some (.long y2022), none, some (.long y2023), none, some (.int y2024)] [] (HX w T) 0 0 (some (.long r), HX w' T)) ∧ (∀ (y2029 : Int64) (y2030 : Int64) (y2031 : Int32) (w : WX) (r : Int64) (w' : WX), Gsea_digestRows_1 n 1 y2031 y2029 y2030 w = some (r, w') → ∀ (T : ai_H), ai_ev D1 msea_digestRows 98 [some (.ref 1), some (.long y2029), none, some (.long y2030), none, some (.int y2031)] [] (HX w T) 0 0 (some (.long r), HX w' T)) ∧ (∀ (y2035 : Int64) (y2036 : Int64) (y2037 : Int32) (w : WX) (r : Int64) (w' : WX), Gsea_digestRows_1 n 2 y2037 y2035 y2036 w = some (r, w') → ∀ (T : ai_H), ai_ev D1 msea_digestRows 173 [some (.ref 1), some (.long y2035), none, some (.long y2036), none, some (.int y2037)] [] (HX w T) 0 0 (some (.long r), HX w' T)) ∧ (∀ (y2039 : Int64) (y2040 : Int64) (y2041 : Int32) (w : WX) (r : Int64) (w' : WX), Gsea_digestRows_1 n 3 y2041 y2039 y2040 w = some (r, w') → ∀ (T : ai_H), ai_ev D1 msea_digestRows 206 [some (.ref 1), some (.long y2039), none, some (.long y2040), none, some (.int y2041)] [] (HX w T) 0 0 (some (.long r), HX w' T)) := by
  intro n
  induction n with
  | zero =>
    exact ⟨(fun _ _ _ _ _ _ h => by cases h), (fun _ _ _ _ _ _ h => by cases h), (fun _ _ _ _ _ _ h => by cases h), (fun _ _ _ _ _ _ h => by cases h)⟩
  | succ n ih =>
    obtain ⟨ih0, ih1, ih2, ih3⟩ := ih
    refine ⟨?_, ?_, ?_, ?_⟩
    · intro y2022 y2023 y2024 w r w' h T
      simp only [Gsea_digestRows_1] at h
      refine ev_go 4 (pc' := 14) (L' := [some (.ref 1), some (.long y2022), none, some (.long y2023), none, some (.int y2024)]) (st' := [.int (a_s1things_count w), .int y2024]) (h' := (HX w T)) (cs' := 0) (sl' := 0) rfl ?_
      rcases ai_ifE h with ⟨hc, h⟩ | ⟨hc, h⟩
      · refine ev_ic_ge (t := 95) rfl rfl (fun _ => ?_) (fun c9 => absurd hc c9)
        refine ev_go 2 (pc' := 98) (L' := [some (.ref 1), some (.long y2022), none, some (.long y2023), none, some (.int 0)]) (st' := []) (h' := (HX w T)) (cs' := 0) (sl' := 0) rfl ?_
        exact ih1 _ _ _ _ _ _ h T
      · refine ev_ic_ge (t := 95) rfl rfl (fun c9 => absurd c9 hc) (fun _ => ?_)
        refine ev_go 7 (pc' := 31) (L' := [some (.ref 1), some (.long y2022), none, some (.long y2023), none, some (.int y2024)]) (st' := [.int y2024, .ref 8, .long (31 * y2023)]) (h' := (HX w T)) (cs' := 0) (sl' := 0) rfl ?_
        obtain ⟨v2025, hq, h⟩ := ai_bdE h
        refine ev_iald rfl rfl hq ?_
        refine ev_go 10 (pc' := 49) (L' := [some (.ref 1), some (.long y2022), none, some (.long ((31 * y2023) + (v2025).toInt64)), none, some (.int y2024)]) (st' := [.int y2024, .ref 9, .long (31 * ((31 * y2023) + (v2025).toInt64))]) (h' := (HX w T)) (cs' := 0) (sl' := 0) rfl ?_
        obtain ⟨v2026, hq, h⟩ := ai_bdE h
        refine ev_iald rfl rfl hq ?_
        refine ev_go 10 (pc' := 67) (L' := [some (.ref 1), some (.long y2022), none, some (.long ((31 * ((31 * y2023) + (v2025).toInt64)) + (v2026).toInt64)), none, some (.int y2024)]) (st' := [.int y2024, .ref 10, .long (31 * ((31 * ((31 * y2023) + (v2025).toInt64)) + (v2026).toInt64))]) (h' := (HX w T)) (cs' := 0) (sl' := 0) rfl ?_
        obtain ⟨v2027, hq, h⟩ := ai_bdE h
        refine ev_iald rfl rfl hq ?_
        refine ev_go 10 (pc' := 85) (L' := [some (.ref 1), some (.long y2022), none, some (.long ((31 * ((31 * ((31 * y2023) + (v2025).toInt64)) + (v2026).toInt64)) + (v2027).toInt64)), none, some (.int y2024)]) (st' := [.int y2024, .ref 11, .long (31 * ((31 * ((31 * ((31 * y2023) + (v2025).toInt64)) + (v2026).toInt64)) + (v2027).toInt64))]) (h' := (HX w T)) (cs' := 0) (sl' := 0) rfl ?_
        obtain ⟨v2028, hq, h⟩ := ai_bdE h
        refine ev_iald rfl rfl hq ?_
        refine ev_go 5 (pc' := 5) (L' := [some (.ref 1), some (.long y2022), none, some (.long ((31 * ((31 * ((31 * ((31 * y2023) + (v2025).toInt64)) + (v2026).toInt64)) + (v2027).toInt64)) + (v2028).toInt64)), none, some (.int (y2024 + 1))]) (st' := []) (h' := (HX w T)) (cs' := 0) (sl' := 0) rfl ?_
        exact ih0 _ _ _ _ _ _ h T
    · intro y2029 y2030 y2031 w r w' h T
      simp only [Gsea_digestRows_1] at h
      refine ev_go 4 (pc' := 107) (L' := [some (.ref 1), some (.long y2029), none, some (.long y2030), none, some (.int y2031)]) (st' := [.int (a_s1lifts_count w), .int y2031]) (h' := (HX w T)) (cs' := 0) (sl' := 0) rfl ?_
      rcases ai_ifE h with ⟨hc, h⟩ | ⟨hc, h⟩
      · refine ev_ic_ge (t := 170) rfl rfl (fun _ => ?_) (fun c9 => absurd hc c9)
        refine ev_go 2 (pc' := 173) (L' := [some (.ref 1), some (.long y2029), none, some (.long y2030), none, some (.int 0)]) (st' := []) (h' := (HX w T)) (cs' := 0) (sl' := 0) rfl ?_
        exact ih2 _ _ _ _ _ _ h T
      · refine ev_ic_ge (t := 170) rfl rfl (fun c9 => absurd c9 hc) (fun _ => ?_)
        refine ev_go 7 (pc' := 124) (L' := [some (.ref 1), some (.long y2029), none, some (.long y2030), none, some (.int y2031)]) (st' := [.int y2031, .ref 13, .long (31 * y2030)]) (h' := (HX w T)) (cs' := 0) (sl' := 0) rfl ?_
        obtain ⟨v2032, hq, h⟩ := ai_bdE h
        refine ev_iald rfl rfl hq ?_
        refine ev_go 10 (pc' := 142) (L' := [some (.ref 1), some (.long y2029), none, some (.long ((31 * y2030) + (v2032).toInt64)), none, some (.int y2031)]) (st' := [.int y2031, .ref 14, .long (31 * ((31 * y2030) + (v2032).toInt64))]) (h' := (HX w T)) (cs' := 0) (sl' := 0) rfl ?_
        obtain ⟨v2033, hq, h⟩ := ai_bdE h
        refine ev_iald rfl rfl hq ?_
        refine ev_go 10 (pc' := 160) (L' := [some (.ref 1), some (.long y2029), none, some (.long ((31 * ((31 * y2030) + (v2032).toInt64)) + (v2033).toInt64)), none, some (.int y2031)]) (st' := [.int y2031, .ref 15, .long (31 * ((31 * ((31 * y2030) + (v2032).toInt64)) + (v2033).toInt64))]) (h' := (HX w T)) (cs' := 0) (sl' := 0) rfl ?_
        obtain ⟨v2034, hq, h⟩ := ai_bdE h
        refine ev_iald rfl rfl hq ?_
        refine ev_go 5 (pc' := 98) (L' := [some (.ref 1), some (.long y2029), none, some (.long ((31 * ((31 * ((31 * y2030) + (v2032).toInt64)) + (v2033).toInt64)) + (v2034).toInt64)), none, some (.int (y2031 + 1))]) (st' := []) (h' := (HX w T)) (cs' := 0) (sl' := 0) rfl ?_
        exact ih1 _ _ _ _ _ _ h T
    · intro y2035 y2036 y2037 w r w' h T
      simp only [Gsea_digestRows_1] at h
      refine ev_go 3 (pc' := 179) (L' := [some (.ref 1), some (.long y2035), none, some (.long y2036), none, some (.int y2037)]) (st' := [.int (a_s1_towns w), .int y2037]) (h' := (HX w T)) (cs' := 0) (sl' := 0) rfl ?_
      rcases ai_ifE h with ⟨hc, h⟩ | ⟨hc, h⟩
      · refine ev_ic_ge (t := 203) rfl rfl (fun _ => ?_) (fun c9 => absurd hc c9)
        refine ev_go 2 (pc' := 206) (L' := [some (.ref 1), some (.long y2035), none, some (.long y2036), none, some (.int 0)]) (st' := []) (h' := (HX w T)) (cs' := 0) (sl' := 0) rfl ?_
        exact ih3 _ _ _ _ _ _ h T
      · refine ev_ic_ge (t := 203) rfl rfl (fun c9 => absurd c9 hc) (fun _ => ?_)
        refine ev_go 6 (pc' := 193) (L' := [some (.ref 1), some (.long y2035), none, some (.long y2036), none, some (.int y2037)]) (st' := [.int y2037, .ref 16, .long (31 * y2036)]) (h' := (HX w T)) (cs' := 0) (sl' := 0) rfl ?_
        obtain ⟨v2038, hq, h⟩ := ai_bdE h
        refine ev_iald rfl rfl hq ?_
        refine ev_go 5 (pc' := 173) (L' := [some (.ref 1), some (.long y2035), none, some (.long ((31 * y2036) + (v2038).toInt64)), none, some (.int (y2037 + 1))]) (st' := []) (h' := (HX w T)) (cs' := 0) (sl' := 0) rfl ?_
        exact ih2 _ _ _ _ _ _ h T
    · intro y2039 y2040 y2041 w r w' h T
      simp only [Gsea_digestRows_1] at h
      refine ev_go 3 (pc' := 212) (L' := [some (.ref 1), some (.long y2039), none, some (.long y2040), none, some (.int y2041)]) (st' := [.int (a_s1_drops w), .int y2041]) (h' := (HX w T)) (cs' := 0) (sl' := 0) rfl ?_
      rcases ai_ifE h with ⟨hc, h⟩ | ⟨hc, h⟩
      · refine ev_ic_ge (t := 251) rfl rfl (fun _ => ?_) (fun c9 => absurd hc c9)
        refine ev_go 1 (pc' := 252) (L' := [some (.ref 1), some (.long y2039), none, some (.long y2040), none, some (.int y2041)]) (st' := [.long y2040]) (h' := (HX w T)) (cs' := 0) (sl' := 0) rfl ?_
        obtain ⟨rfl, rfl⟩ := ai_smP h
        exact ev_end rfl
      · refine ev_ic_ge (t := 251) rfl rfl (fun c9 => absurd c9 hc) (fun _ => ?_)
        refine ev_go 6 (pc' := 226) (L' := [some (.ref 1), some (.long y2039), none, some (.long y2040), none, some (.int y2041)]) (st' := [.int y2041, .ref 17, .long (31 * y2040)]) (h' := (HX w T)) (cs' := 0) (sl' := 0) rfl ?_
        obtain ⟨v2042, hq, h⟩ := ai_bdE h
        refine ev_iald rfl rfl hq ?_
        refine ev_go 9 (pc' := 241) (L' := [some (.ref 1), some (.long y2039), none, some (.long ((31 * y2040) + (v2042).toInt64)), none, some (.int y2041)]) (st' := [.int y2041, .ref 18, .long (31 * ((31 * y2040) + (v2042).toInt64))]) (h' := (HX w T)) (cs' := 0) (sl' := 0) rfl ?_
        obtain ⟨v2043, hq, h⟩ := ai_bdE h
        refine ev_iald rfl rfl hq ?_
        refine ev_go 5 (pc' := 206) (L' := [some (.ref 1), some (.long y2039), none, some (.long ((31 * ((31 * y2040) + (v2042).toInt64)) + (v2043).toInt64)), none, some (.int (y2041 + 1))]) (st' := []) (h' := (HX w T)) (cs' := 0) (sl' := 0) rfl ?_
        exact ih3 _ _ _ _ _ _ h T
set_option maxHeartbeats 40000000 in
set_option maxRecDepth 100000 in
theorem Esea_digestRows_1 (n : Nat) (x2021 : Int64) (w : WX) (r : Int64) (w' : WX) (h : Fsea_digestRows_1 n x2021 w = some (r, w')) (T : ai_H) : ai_ev D1 msea_digestRows 0 [some (.ref 1), some (.long x2021), none, none, none, none] [] (HX w T) 0 0 (some (.long r), HX w' T) := by
  unfold Fsea_digestRows_1 at h
  obtain ⟨ih0, ih1, ih2, ih3⟩ := EGsea_digestRows_1 n
  refine ev_go 4 (pc' := 5) (L' := [some (.ref 1), some (.long x2021), none, some (.long x2021), none, some (.int 0)]) (st' := []) (h' := (HX w T)) (cs' := 0) (sl' := 0) rfl ?_
  exact ih0 _ _ _ _ _ _ h T
set_option maxHeartbeats 40000000 in
set_option maxRecDepth 100000 in
theorem EGf_digest_0 : ∀ n : Nat, (∀ (y1998 : Int64) (y1999 : Int32) (w : WX) (r : Int64) (w' : WX), Gf_digest_0 n 0 y1999 y1998 w = some (r, w') → ∀ (T : ai_H), ai_ev D1 mf_digest 6 [some (.ref 0), some (.long y1998), none, some (.int y1999)] [] (HX w T) 0 0 (some (.long r), HX w' T)) := by
  intro n
  induction n with
  | zero =>
    exact (fun _ _ _ _ _ h => by cases h)
  | succ n ih0 =>
    intro y1998 y1999 w r w' h T
    simp only [Gf_digest_0] at h
    refine ev_go 2 (pc' := 9) (L' := [some (.ref 0), some (.long y1998), none, some (.int y1999)]) (st' := [.int 8, .int y1999]) (h' := (HX w T)) (cs' := 0) (sl' := 0) rfl ?_
    rcases ai_ifE h with ⟨hc, h⟩ | ⟨hc, h⟩
    · refine ev_ic_ge (t := 34) rfl rfl (fun _ => ?_) (fun c9 => absurd hc c9)
      refine ev_go 12 (pc' := 54) (L' := [some (.ref 0), some (.long ((31 * y1998) + ((a_text_length w)).toInt64)), none, some (.int y1999)]) (st' := [.long ((31 * y1998) + ((a_text_length w)).toInt64), .ref 1]) (h' := (HX w T)) (cs' := 0) (sl' := 0) rfl ?_
      obtain ⟨c2020, hq, h⟩ := ai_bdE h
      refine ev_call (M' := msea_digestWaters) (L' := [some (.ref 1), some (.long ((31 * y1998) + ((a_text_length w)).toInt64)), none, none, none, none, none]) (rest := []) (rv := some (.long c2020.1)) (h' := (HX c2020.2 T)) rfl (Esea_digestWaters_1 n ((31 * y1998) + ((a_text_length w)).toInt64) w _ _ hq T) ?_
      show ai_ev D1 mf_digest 57 [some (.ref 0), some (.long ((31 * y1998) + ((a_text_length w)).toInt64)), none, some (.int y1999)] [.long c2020.1] (HX c2020.2 T) 0 0 _
      refine ev_go 4 (pc' := 63) (L' := [some (.ref 0), some (.long c2020.1), none, some (.int y1999)]) (st' := [.long c2020.1, .ref 1]) (h' := (HX c2020.2 T)) (cs' := 0) (sl' := 0) rfl ?_
      obtain ⟨c2044, hq, h⟩ := ai_bdE h
      refine ev_call (M' := msea_digestRows) (L' := [some (.ref 1), some (.long c2020.1), none, none, none, none]) (rest := []) (rv := some (.long c2044.1)) (h' := (HX c2044.2 T)) rfl (Esea_digestRows_1 n c2020.1 c2020.2 _ _ hq T) ?_
      show ai_ev D1 mf_digest 66 [some (.ref 0), some (.long c2020.1), none, some (.int y1999)] [.long c2044.1] (HX c2044.2 T) 0 0 _
      refine ev_go 14 (pc' := 88) (L' := [some (.ref 0), some (.long ((31 * c2044.1) + (a_f_above c2044.2))), none, some (.int y1999)]) (st' := [.long ((31 * ((31 * c2044.1) + (a_f_above c2044.2))) + (a_f_below c2044.2))]) (h' := (HX c2044.2 T)) (cs' := 0) (sl' := 0) rfl ?_
      obtain ⟨rfl, rfl⟩ := ai_smP h
      exact ev_end rfl
    · refine ev_ic_ge (t := 34) rfl rfl (fun c9 => absurd c9 hc) (fun _ => ?_)
      refine ev_go 6 (pc' := 22) (L' := [some (.ref 0), some (.long y1998), none, some (.int y1999)]) (st' := [.int y1999, .ref 1, .long (31 * y1998)]) (h' := (HX w T)) (cs' := 0) (sl' := 0) rfl ?_
      obtain ⟨c2045, hq, h⟩ := ai_bdE h
      refine ev_call (M' := msea_countOf) (L' := [some (.ref 1), some (.int y1999)]) (rest := [.long (31 * y1998)]) (rv := some (.int c2045.1)) (h' := (HX c2045.2 T)) rfl (Esea_countOf_1 y1999 w _ _ hq T) ?_
      show ai_ev D1 mf_digest 25 [some (.ref 0), some (.long y1998), none, some (.int y1999)] [.int c2045.1, .long (31 * y1998)] (HX c2045.2 T) 0 0 _
      refine ev_go 5 (pc' := 6) (L' := [some (.ref 0), some (.long ((31 * y1998) + (c2045.1).toInt64)), none, some (.int (y1999 + 1))]) (st' := []) (h' := (HX c2045.2 T)) (cs' := 0) (sl' := 0) rfl ?_
      exact ih0 _ _ _ _ _ h T
set_option maxHeartbeats 40000000 in
set_option maxRecDepth 100000 in
theorem Ef_digest_0 (n : Nat) (w : WX) (r : Int64) (w' : WX) (h : Ff_digest_0 n w = some (r, w')) (T : ai_H) : ai_ev D1 mf_digest 0 [some (.ref 0), none, none, none] [] (HX w T) 0 0 (some (.long r), HX w' T) := by
  unfold Ff_digest_0 at h
  have ih0 := EGf_digest_0 n
  refine ev_go 4 (pc' := 6) (L' := [some (.ref 0), some (.long 887), none, some (.int 0)]) (st' := []) (h' := (HX w T)) (cs' := 0) (sl' := 0) rfl ?_
  exact ih0 _ _ _ _ _ h T
