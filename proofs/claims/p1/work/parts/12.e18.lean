set_option maxHeartbeats 40000000 in
set_option maxRecDepth 100000 in
theorem Ef_part_0 (x1890 : Int32) (w : WX) (r : Int64) (w' : WX) (h : Ff_part_0 x1890 w = some (r, w')) (T : ai_H) : ai_ev D1 mf_part 0 [some (.ref 0), some (.int x1890)] [] (HX w T) 0 0 (some (.long r), HX w' T) := by
  unfold Ff_part_0 at h
  refine ev_go 3 (pc' := 3) (L' := [some (.ref 0), some (.int x1890)]) (st' := [.int 1, .int 0, .int x1890]) (h' := (HX w T)) (cs' := 0) (sl' := 0) rfl ?_
  obtain ⟨c1891, hq, h⟩ := ai_bdE h
  refine ev_call (M' := mf_within) (L' := [some (.int x1890), some (.int 0), some (.int 1)]) (rest := []) (rv := some (.int c1891)) (h' := (HX w T)) rfl (Ef_within x1890 0 1 _ hq (HX w T)) ?_
  show ai_ev D1 mf_part 6 [some (.ref 0), some (.int x1890)] [.int c1891] (HX w T) 0 0 _
  rcases ai_ifE h with ⟨hc, h⟩ | ⟨hc, h⟩
  · refine ev_if_ne (t := 17) rfl rfl (fun c9 => absurd hc c9) (fun _ => ?_)
    refine ev_go 2 (pc' := 12) (L' := [some (.ref 0), some (.int x1890)]) (st' := [.int (-2), .ref 0]) (h' := (HX w T)) (cs' := 0) (sl' := 0) rfl ?_
    obtain ⟨c1892, hq, h⟩ := ai_bdE h
    refine ev_call (M' := mf_bad) (L' := [some (.ref 0), some (.int (-2))]) (rest := []) (rv := some (.int c1892.1)) (h' := (HX c1892.2 T)) rfl (Ef_bad_0 (-2) w _ _ hq T) ?_
    show ai_ev D1 mf_part 15 [some (.ref 0), some (.int x1890)] [.int c1892.1] (HX c1892.2 T) 0 0 _
    refine ev_go 1 (pc' := 16) (L' := [some (.ref 0), some (.int x1890)]) (st' := [.long (c1892.1).toInt64]) (h' := (HX c1892.2 T)) (cs' := 0) (sl' := 0) rfl ?_
    obtain ⟨rfl, rfl⟩ := ai_smP h
    exact ev_end rfl
  · refine ev_if_ne (t := 17) rfl rfl (fun _ => ?_) (fun c9 => absurd c9 hc)
    refine ev_go 1 (pc' := 18) (L' := [some (.ref 0), some (.int x1890)]) (st' := [.int x1890]) (h' := (HX w T)) (cs' := 0) (sl' := 0) rfl ?_
    rcases ai_ifE h with ⟨hc, h⟩ | ⟨hc, h⟩
    · refine ev_if_ne (t := 28) rfl rfl (fun c9 => absurd hc c9) (fun _ => ?_)
      refine ev_go 3 (pc' := 32) (L' := [some (.ref 0), some (.int x1890)]) (st' := [.long (a_f_above w)]) (h' := (HX w T)) (cs' := 0) (sl' := 0) rfl ?_
      obtain ⟨rfl, rfl⟩ := ai_smP h
      exact ev_end rfl
    · refine ev_if_ne (t := 28) rfl rfl (fun _ => ?_) (fun c9 => absurd c9 hc)
      refine ev_go 2 (pc' := 32) (L' := [some (.ref 0), some (.int x1890)]) (st' := [.long (a_f_below w)]) (h' := (HX w T)) (cs' := 0) (sl' := 0) rfl ?_
      obtain ⟨rfl, rfl⟩ := ai_smP h
      exact ev_end rfl
set_option maxHeartbeats 40000000 in
set_option maxRecDepth 100000 in
theorem Ethg_copyFrom_45_7 (w : WX) (w' : WX) (h : Fthg_copyFrom_45_7 w = some w') (T : ai_H) : ai_ev D1 mthg_copyFrom 0 [some (.ref 45), some (.ref 7)] [] (HX w T) 0 0 (none, HX w' T) := by
  unfold Fthg_copyFrom_45_7 at h
  refine ev_go 3 (pc' := 5) (L' := [some (.ref 45), some (.ref 7)]) (st' := [.int (a_s1things_count w), .ref 45]) (h' := (HX w T)) (cs' := 0) (sl' := 0) rfl ?_
  refine ev_step rfl rfl rfl (PFX_5_9_45 rfl) ?_
  refine ev_go 7 (pc' := 20) (L' := [some (.ref 45), some (.ref 7)]) (st' := [.int 6, .int 0, .ref 46, .int 0, .ref 8]) (h' := (HX (u_s3things_count w (a_s1things_count w)) T)) (cs' := 0) (sl' := 0) rfl ?_
  obtain ⟨q1900, hq, h⟩ := ai_bdE h
  refine ev_cpy rfl rfl rfl rfl rfl rfl hq ?_
  rw [HXs_46]
  refine ev_go 7 (pc' := 35) (L' := [some (.ref 45), some (.ref 7)]) (st' := [.int 6, .int 0, .ref 47, .int 0, .ref 9]) (h' := (HX (u_s3things_kinds (u_s3things_count w (a_s1things_count w)) q1900) T)) (cs' := 0) (sl' := 0) rfl ?_
  obtain ⟨q1901, hq, h⟩ := ai_bdE h
  refine ev_cpy rfl rfl rfl rfl rfl rfl hq ?_
  rw [HXs_47]
  refine ev_go 7 (pc' := 50) (L' := [some (.ref 45), some (.ref 7)]) (st' := [.int 6, .int 0, .ref 48, .int 0, .ref 10]) (h' := (HX (u_s3things_weights (u_s3things_kinds (u_s3things_count w (a_s1things_count w)) q1900) q1901) T)) (cs' := 0) (sl' := 0) rfl ?_
  obtain ⟨q1902, hq, h⟩ := ai_bdE h
  refine ev_cpy rfl rfl rfl rfl rfl rfl hq ?_
  rw [HXs_48]
  refine ev_go 7 (pc' := 65) (L' := [some (.ref 45), some (.ref 7)]) (st' := [.int 6, .int 0, .ref 49, .int 0, .ref 11]) (h' := (HX (u_s3things_volumes (u_s3things_weights (u_s3things_kinds (u_s3things_count w (a_s1things_count w)) q1900) q1901) q1902) T)) (cs' := 0) (sl' := 0) rfl ?_
  obtain ⟨q1903, hq, h⟩ := ai_bdE h
  refine ev_cpy rfl rfl rfl rfl rfl rfl hq ?_
  rw [HXs_49]
  obtain rfl := Option.some.inj h
  exact ev_end rfl
set_option maxHeartbeats 40000000 in
set_option maxRecDepth 100000 in
theorem Elift_copyFrom_50_12 (w : WX) (w' : WX) (h : Flift_copyFrom_50_12 w = some w') (T : ai_H) : ai_ev D1 mlift_copyFrom 0 [some (.ref 50), some (.ref 12)] [] (HX w T) 0 0 (none, HX w' T) := by
  unfold Flift_copyFrom_50_12 at h
  refine ev_go 3 (pc' := 5) (L' := [some (.ref 50), some (.ref 12)]) (st' := [.int (a_s1lifts_count w), .ref 50]) (h' := (HX w T)) (cs' := 0) (sl' := 0) rfl ?_
  refine ev_step rfl rfl rfl (PFX_1_9_50 rfl) ?_
  refine ev_go 7 (pc' := 20) (L' := [some (.ref 50), some (.ref 12)]) (st' := [.int 10, .int 0, .ref 51, .int 0, .ref 13]) (h' := (HX (u_s3lifts_count w (a_s1lifts_count w)) T)) (cs' := 0) (sl' := 0) rfl ?_
  obtain ⟨q1905, hq, h⟩ := ai_bdE h
  refine ev_cpy rfl rfl rfl rfl rfl rfl hq ?_
  rw [HXs_51]
  refine ev_go 7 (pc' := 35) (L' := [some (.ref 50), some (.ref 12)]) (st' := [.int 10, .int 0, .ref 52, .int 0, .ref 14]) (h' := (HX (u_s3lifts_froms (u_s3lifts_count w (a_s1lifts_count w)) q1905) T)) (cs' := 0) (sl' := 0) rfl ?_
  obtain ⟨q1906, hq, h⟩ := ai_bdE h
  refine ev_cpy rfl rfl rfl rfl rfl rfl hq ?_
  rw [HXs_52]
  refine ev_go 7 (pc' := 50) (L' := [some (.ref 50), some (.ref 12)]) (st' := [.int 10, .int 0, .ref 53, .int 0, .ref 15]) (h' := (HX (u_s3lifts_tos (u_s3lifts_froms (u_s3lifts_count w (a_s1lifts_count w)) q1905) q1906) T)) (cs' := 0) (sl' := 0) rfl ?_
  obtain ⟨q1907, hq, h⟩ := ai_bdE h
  refine ev_cpy rfl rfl rfl rfl rfl rfl hq ?_
  rw [HXs_53]
  obtain rfl := Option.some.inj h
  exact ev_end rfl
set_option maxHeartbeats 40000000 in
set_option maxRecDepth 100000 in
theorem Esea_copyFrom_39_1 (w : WX) (w' : WX) (h : Fsea_copyFrom_39_1 w = some w') (T : ai_H) : ai_ev D1 msea_copyFrom 0 [some (.ref 39), some (.ref 1)] [] (HX w T) 0 0 (none, HX w' T) := by
  unfold Fsea_copyFrom_39_1 at h
  refine ev_go 3 (pc' := 5) (L' := [some (.ref 39), some (.ref 1)]) (st' := [.int (a_s1_cells w), .ref 39]) (h' := (HX w T)) (cs' := 0) (sl' := 0) rfl ?_
  refine ev_step rfl rfl rfl (PFX_2_9_39 rfl) ?_
  refine ev_go 3 (pc' := 13) (L' := [some (.ref 39), some (.ref 1)]) (st' := [.int (a_s1_hour w), .ref 39]) (h' := (HX (u_s3_cells w (a_s1_cells w)) T)) (cs' := 0) (sl' := 0) rfl ?_
  refine ev_step rfl rfl rfl (PFX_2_15_39 rfl) ?_
  refine ev_go 3 (pc' := 21) (L' := [some (.ref 39), some (.ref 1)]) (st' := [.int (a_s1_dams w), .ref 39]) (h' := (HX (u_s3_hour (u_s3_cells w (a_s1_cells w)) (a_s1_hour w)) T)) (cs' := 0) (sl' := 0) rfl ?_
  refine ev_step rfl rfl rfl (PFX_2_18_39 rfl) ?_
  refine ev_go 7 (pc' := 35) (L' := [some (.ref 39), some (.ref 1)]) (st' := [.int 4, .int 0, .ref 40, .int 0, .ref 2]) (h' := (HX (u_s3_dams (u_s3_hour (u_s3_cells w (a_s1_cells w)) (a_s1_hour w)) (a_s1_dams w)) T)) (cs' := 0) (sl' := 0) rfl ?_
  obtain ⟨q1895, hq, h⟩ := ai_bdE h
  refine ev_cpy rfl rfl rfl rfl rfl rfl hq ?_
  rw [HXs_40]
  refine ev_go 7 (pc' := 49) (L' := [some (.ref 39), some (.ref 1)]) (st' := [.int 4, .int 0, .ref 41, .int 0, .ref 3]) (h' := (HX (u_s3_densities (u_s3_dams (u_s3_hour (u_s3_cells w (a_s1_cells w)) (a_s1_hour w)) (a_s1_dams w)) q1895) T)) (cs' := 0) (sl' := 0) rfl ?_
  obtain ⟨q1896, hq, h⟩ := ai_bdE h
  refine ev_cpy rfl rfl rfl rfl rfl rfl hq ?_
  rw [HXs_41]
  refine ev_go 7 (pc' := 64) (L' := [some (.ref 39), some (.ref 1)]) (st' := [.int 24, .int 0, .ref 42, .int 0, .ref 4]) (h' := (HX (u_s3_currents (u_s3_densities (u_s3_dams (u_s3_hour (u_s3_cells w (a_s1_cells w)) (a_s1_hour w)) (a_s1_dams w)) q1895) q1896) T)) (cs' := 0) (sl' := 0) rfl ?_
  obtain ⟨q1897, hq, h⟩ := ai_bdE h
  refine ev_cpy rfl rfl rfl rfl rfl rfl hq ?_
  rw [HXs_42]
  refine ev_go 7 (pc' := 79) (L' := [some (.ref 39), some (.ref 1)]) (st' := [.int 24, .int 0, .ref 43, .int 0, .ref 5]) (h' := (HX (u_s3_tides (u_s3_currents (u_s3_densities (u_s3_dams (u_s3_hour (u_s3_cells w (a_s1_cells w)) (a_s1_hour w)) (a_s1_dams w)) q1895) q1896) q1897) T)) (cs' := 0) (sl' := 0) rfl ?_
  obtain ⟨q1898, hq, h⟩ := ai_bdE h
  refine ev_cpy rfl rfl rfl rfl rfl rfl hq ?_
  rw [HXs_43]
  refine ev_go 7 (pc' := 93) (L' := [some (.ref 39), some (.ref 1)]) (st' := [.int 3, .int 0, .ref 44, .int 0, .ref 6]) (h' := (HX (u_s3_thicks (u_s3_tides (u_s3_currents (u_s3_densities (u_s3_dams (u_s3_hour (u_s3_cells w (a_s1_cells w)) (a_s1_hour w)) (a_s1_dams w)) q1895) q1896) q1897) q1898) T)) (cs' := 0) (sl' := 0) rfl ?_
  obtain ⟨q1899, hq, h⟩ := ai_bdE h
  refine ev_cpy rfl rfl rfl rfl rfl rfl hq ?_
  rw [HXs_44]
  refine ev_go 4 (pc' := 104) (L' := [some (.ref 39), some (.ref 1)]) (st' := [.ref 7, .ref 45]) (h' := (HX (u_s3_skins (u_s3_thicks (u_s3_tides (u_s3_currents (u_s3_densities (u_s3_dams (u_s3_hour (u_s3_cells w (a_s1_cells w)) (a_s1_hour w)) (a_s1_dams w)) q1895) q1896) q1897) q1898) q1899) T)) (cs' := 0) (sl' := 0) rfl ?_
  obtain ⟨c1904, hq, h⟩ := ai_bdE h
  refine ev_call (M' := mthg_copyFrom) (L' := [some (.ref 45), some (.ref 7)]) (rest := []) (rv := none) (h' := (HX c1904 T)) rfl (Ethg_copyFrom_45_7 (u_s3_skins (u_s3_thicks (u_s3_tides (u_s3_currents (u_s3_densities (u_s3_dams (u_s3_hour (u_s3_cells w (a_s1_cells w)) (a_s1_hour w)) (a_s1_dams w)) q1895) q1896) q1897) q1898) q1899) _ hq T) ?_
  show ai_ev D1 msea_copyFrom 107 [some (.ref 39), some (.ref 1)] [] (HX c1904 T) 0 0 _
  refine ev_go 4 (pc' := 115) (L' := [some (.ref 39), some (.ref 1)]) (st' := [.ref 12, .ref 50]) (h' := (HX c1904 T)) (cs' := 0) (sl' := 0) rfl ?_
  obtain ⟨c1908, hq, h⟩ := ai_bdE h
  refine ev_call (M' := mlift_copyFrom) (L' := [some (.ref 50), some (.ref 12)]) (rest := []) (rv := none) (h' := (HX c1908 T)) rfl (Elift_copyFrom_50_12 c1904 _ hq T) ?_
  show ai_ev D1 msea_copyFrom 118 [some (.ref 39), some (.ref 1)] [] (HX c1908 T) 0 0 _
  refine ev_go 3 (pc' := 123) (L' := [some (.ref 39), some (.ref 1)]) (st' := [.int (a_s1_towns c1908), .ref 39]) (h' := (HX c1908 T)) (cs' := 0) (sl' := 0) rfl ?_
  refine ev_step rfl rfl rfl (PFX_2_51_39 rfl) ?_
  refine ev_go 7 (pc' := 138) (L' := [some (.ref 39), some (.ref 1)]) (st' := [.int 6, .int 0, .ref 54, .int 0, .ref 16]) (h' := (HX (u_s3_towns c1908 (a_s1_towns c1908)) T)) (cs' := 0) (sl' := 0) rfl ?_
  obtain ⟨q1909, hq, h⟩ := ai_bdE h
  refine ev_cpy rfl rfl rfl rfl rfl rfl hq ?_
  rw [HXs_54]
  refine ev_go 3 (pc' := 146) (L' := [some (.ref 39), some (.ref 1)]) (st' := [.int (a_s1_drops c1908), .ref 39]) (h' := (HX (u_s3_townPlaces (u_s3_towns c1908 (a_s1_towns c1908)) q1909) T)) (cs' := 0) (sl' := 0) rfl ?_
  refine ev_step rfl rfl rfl (PFX_2_57_39 rfl) ?_
  refine ev_go 7 (pc' := 161) (L' := [some (.ref 39), some (.ref 1)]) (st' := [.int 6, .int 0, .ref 55, .int 0, .ref 17]) (h' := (HX (u_s3_drops (u_s3_townPlaces (u_s3_towns c1908 (a_s1_towns c1908)) q1909) (a_s1_drops c1908)) T)) (cs' := 0) (sl' := 0) rfl ?_
  obtain ⟨q1910, hq, h⟩ := ai_bdE h
  refine ev_cpy rfl rfl rfl rfl rfl rfl hq ?_
  rw [HXs_55]
  refine ev_go 7 (pc' := 176) (L' := [some (.ref 39), some (.ref 1)]) (st' := [.int 6, .int 0, .ref 56, .int 0, .ref 18]) (h' := (HX (u_s3_dropLayers (u_s3_drops (u_s3_townPlaces (u_s3_towns c1908 (a_s1_towns c1908)) q1909) (a_s1_drops c1908)) q1910) T)) (cs' := 0) (sl' := 0) rfl ?_
  obtain ⟨q1911, hq, h⟩ := ai_bdE h
  refine ev_cpy rfl rfl rfl rfl rfl rfl hq ?_
  rw [HXs_56]
  refine ev_go 3 (pc' := 184) (L' := [some (.ref 39), some (.ref 1)]) (st' := [.int (a_s1_undos c1908), .ref 39]) (h' := (HX (u_s3_dropFloats (u_s3_dropLayers (u_s3_drops (u_s3_townPlaces (u_s3_towns c1908 (a_s1_towns c1908)) q1909) (a_s1_drops c1908)) q1910) q1911) T)) (cs' := 0) (sl' := 0) rfl ?_
  refine ev_step rfl rfl rfl (PFX_2_66_39 rfl) ?_
  refine ev_go 7 (pc' := 199) (L' := [some (.ref 39), some (.ref 1)]) (st' := [.int 10, .int 0, .ref 57, .int 0, .ref 19]) (h' := (HX (u_s3_undos (u_s3_dropFloats (u_s3_dropLayers (u_s3_drops (u_s3_townPlaces (u_s3_towns c1908 (a_s1_towns c1908)) q1909) (a_s1_drops c1908)) q1910) q1911) (a_s1_undos c1908)) T)) (cs' := 0) (sl' := 0) rfl ?_
  obtain ⟨q1912, hq, h⟩ := ai_bdE h
  refine ev_cpy rfl rfl rfl rfl rfl rfl hq ?_
  rw [HXs_57]
  obtain rfl := Option.some.inj h
  exact ev_end rfl
set_option maxHeartbeats 40000000 in
set_option maxRecDepth 100000 in
theorem Ethg_copyFrom_64_7 (w : WX) (w' : WX) (h : Fthg_copyFrom_64_7 w = some w') (T : ai_H) : ai_ev D1 mthg_copyFrom 0 [some (.ref 64), some (.ref 7)] [] (HX w T) 0 0 (none, HX w' T) := by
  unfold Fthg_copyFrom_64_7 at h
  refine ev_go 3 (pc' := 5) (L' := [some (.ref 64), some (.ref 7)]) (st' := [.int (a_s1things_count w), .ref 64]) (h' := (HX w T)) (cs' := 0) (sl' := 0) rfl ?_
  refine ev_step rfl rfl rfl (PFX_5_9_64 rfl) ?_
  refine ev_go 7 (pc' := 20) (L' := [some (.ref 64), some (.ref 7)]) (st' := [.int 6, .int 0, .ref 65, .int 0, .ref 8]) (h' := (HX (u_s4things_count w (a_s1things_count w)) T)) (cs' := 0) (sl' := 0) rfl ?_
  obtain ⟨q1920, hq, h⟩ := ai_bdE h
  refine ev_cpy rfl rfl rfl rfl rfl rfl hq ?_
  rw [HXs_65]
  refine ev_go 7 (pc' := 35) (L' := [some (.ref 64), some (.ref 7)]) (st' := [.int 6, .int 0, .ref 66, .int 0, .ref 9]) (h' := (HX (u_s4things_kinds (u_s4things_count w (a_s1things_count w)) q1920) T)) (cs' := 0) (sl' := 0) rfl ?_
  obtain ⟨q1921, hq, h⟩ := ai_bdE h
  refine ev_cpy rfl rfl rfl rfl rfl rfl hq ?_
  rw [HXs_66]
  refine ev_go 7 (pc' := 50) (L' := [some (.ref 64), some (.ref 7)]) (st' := [.int 6, .int 0, .ref 67, .int 0, .ref 10]) (h' := (HX (u_s4things_weights (u_s4things_kinds (u_s4things_count w (a_s1things_count w)) q1920) q1921) T)) (cs' := 0) (sl' := 0) rfl ?_
  obtain ⟨q1922, hq, h⟩ := ai_bdE h
  refine ev_cpy rfl rfl rfl rfl rfl rfl hq ?_
  rw [HXs_67]
  refine ev_go 7 (pc' := 65) (L' := [some (.ref 64), some (.ref 7)]) (st' := [.int 6, .int 0, .ref 68, .int 0, .ref 11]) (h' := (HX (u_s4things_volumes (u_s4things_weights (u_s4things_kinds (u_s4things_count w (a_s1things_count w)) q1920) q1921) q1922) T)) (cs' := 0) (sl' := 0) rfl ?_
  obtain ⟨q1923, hq, h⟩ := ai_bdE h
  refine ev_cpy rfl rfl rfl rfl rfl rfl hq ?_
  rw [HXs_68]
  obtain rfl := Option.some.inj h
  exact ev_end rfl
set_option maxHeartbeats 40000000 in
set_option maxRecDepth 100000 in
theorem Elift_copyFrom_69_12 (w : WX) (w' : WX) (h : Flift_copyFrom_69_12 w = some w') (T : ai_H) : ai_ev D1 mlift_copyFrom 0 [some (.ref 69), some (.ref 12)] [] (HX w T) 0 0 (none, HX w' T) := by
  unfold Flift_copyFrom_69_12 at h
  refine ev_go 3 (pc' := 5) (L' := [some (.ref 69), some (.ref 12)]) (st' := [.int (a_s1lifts_count w), .ref 69]) (h' := (HX w T)) (cs' := 0) (sl' := 0) rfl ?_
  refine ev_step rfl rfl rfl (PFX_1_9_69 rfl) ?_
  refine ev_go 7 (pc' := 20) (L' := [some (.ref 69), some (.ref 12)]) (st' := [.int 10, .int 0, .ref 70, .int 0, .ref 13]) (h' := (HX (u_s4lifts_count w (a_s1lifts_count w)) T)) (cs' := 0) (sl' := 0) rfl ?_
  obtain ⟨q1925, hq, h⟩ := ai_bdE h
  refine ev_cpy rfl rfl rfl rfl rfl rfl hq ?_
  rw [HXs_70]
  refine ev_go 7 (pc' := 35) (L' := [some (.ref 69), some (.ref 12)]) (st' := [.int 10, .int 0, .ref 71, .int 0, .ref 14]) (h' := (HX (u_s4lifts_froms (u_s4lifts_count w (a_s1lifts_count w)) q1925) T)) (cs' := 0) (sl' := 0) rfl ?_
  obtain ⟨q1926, hq, h⟩ := ai_bdE h
  refine ev_cpy rfl rfl rfl rfl rfl rfl hq ?_
  rw [HXs_71]
  refine ev_go 7 (pc' := 50) (L' := [some (.ref 69), some (.ref 12)]) (st' := [.int 10, .int 0, .ref 72, .int 0, .ref 15]) (h' := (HX (u_s4lifts_tos (u_s4lifts_froms (u_s4lifts_count w (a_s1lifts_count w)) q1925) q1926) T)) (cs' := 0) (sl' := 0) rfl ?_
  obtain ⟨q1927, hq, h⟩ := ai_bdE h
  refine ev_cpy rfl rfl rfl rfl rfl rfl hq ?_
  rw [HXs_72]
  obtain rfl := Option.some.inj h
  exact ev_end rfl
set_option maxHeartbeats 40000000 in
set_option maxRecDepth 100000 in
theorem Esea_copyFrom_58_1 (w : WX) (w' : WX) (h : Fsea_copyFrom_58_1 w = some w') (T : ai_H) : ai_ev D1 msea_copyFrom 0 [some (.ref 58), some (.ref 1)] [] (HX w T) 0 0 (none, HX w' T) := by
  unfold Fsea_copyFrom_58_1 at h
  refine ev_go 3 (pc' := 5) (L' := [some (.ref 58), some (.ref 1)]) (st' := [.int (a_s1_cells w), .ref 58]) (h' := (HX w T)) (cs' := 0) (sl' := 0) rfl ?_
  refine ev_step rfl rfl rfl (PFX_2_9_58 rfl) ?_
  refine ev_go 3 (pc' := 13) (L' := [some (.ref 58), some (.ref 1)]) (st' := [.int (a_s1_hour w), .ref 58]) (h' := (HX (u_s4_cells w (a_s1_cells w)) T)) (cs' := 0) (sl' := 0) rfl ?_
  refine ev_step rfl rfl rfl (PFX_2_15_58 rfl) ?_
  refine ev_go 3 (pc' := 21) (L' := [some (.ref 58), some (.ref 1)]) (st' := [.int (a_s1_dams w), .ref 58]) (h' := (HX (u_s4_hour (u_s4_cells w (a_s1_cells w)) (a_s1_hour w)) T)) (cs' := 0) (sl' := 0) rfl ?_
  refine ev_step rfl rfl rfl (PFX_2_18_58 rfl) ?_
  refine ev_go 7 (pc' := 35) (L' := [some (.ref 58), some (.ref 1)]) (st' := [.int 4, .int 0, .ref 59, .int 0, .ref 2]) (h' := (HX (u_s4_dams (u_s4_hour (u_s4_cells w (a_s1_cells w)) (a_s1_hour w)) (a_s1_dams w)) T)) (cs' := 0) (sl' := 0) rfl ?_
  obtain ⟨q1915, hq, h⟩ := ai_bdE h
  refine ev_cpy rfl rfl rfl rfl rfl rfl hq ?_
  rw [HXs_59]
  refine ev_go 7 (pc' := 49) (L' := [some (.ref 58), some (.ref 1)]) (st' := [.int 4, .int 0, .ref 60, .int 0, .ref 3]) (h' := (HX (u_s4_densities (u_s4_dams (u_s4_hour (u_s4_cells w (a_s1_cells w)) (a_s1_hour w)) (a_s1_dams w)) q1915) T)) (cs' := 0) (sl' := 0) rfl ?_
  obtain ⟨q1916, hq, h⟩ := ai_bdE h
  refine ev_cpy rfl rfl rfl rfl rfl rfl hq ?_
  rw [HXs_60]
  refine ev_go 7 (pc' := 64) (L' := [some (.ref 58), some (.ref 1)]) (st' := [.int 24, .int 0, .ref 61, .int 0, .ref 4]) (h' := (HX (u_s4_currents (u_s4_densities (u_s4_dams (u_s4_hour (u_s4_cells w (a_s1_cells w)) (a_s1_hour w)) (a_s1_dams w)) q1915) q1916) T)) (cs' := 0) (sl' := 0) rfl ?_
  obtain ⟨q1917, hq, h⟩ := ai_bdE h
  refine ev_cpy rfl rfl rfl rfl rfl rfl hq ?_
  rw [HXs_61]
  refine ev_go 7 (pc' := 79) (L' := [some (.ref 58), some (.ref 1)]) (st' := [.int 24, .int 0, .ref 62, .int 0, .ref 5]) (h' := (HX (u_s4_tides (u_s4_currents (u_s4_densities (u_s4_dams (u_s4_hour (u_s4_cells w (a_s1_cells w)) (a_s1_hour w)) (a_s1_dams w)) q1915) q1916) q1917) T)) (cs' := 0) (sl' := 0) rfl ?_
  obtain ⟨q1918, hq, h⟩ := ai_bdE h
  refine ev_cpy rfl rfl rfl rfl rfl rfl hq ?_
  rw [HXs_62]
  refine ev_go 7 (pc' := 93) (L' := [some (.ref 58), some (.ref 1)]) (st' := [.int 3, .int 0, .ref 63, .int 0, .ref 6]) (h' := (HX (u_s4_thicks (u_s4_tides (u_s4_currents (u_s4_densities (u_s4_dams (u_s4_hour (u_s4_cells w (a_s1_cells w)) (a_s1_hour w)) (a_s1_dams w)) q1915) q1916) q1917) q1918) T)) (cs' := 0) (sl' := 0) rfl ?_
  obtain ⟨q1919, hq, h⟩ := ai_bdE h
  refine ev_cpy rfl rfl rfl rfl rfl rfl hq ?_
  rw [HXs_63]
  refine ev_go 4 (pc' := 104) (L' := [some (.ref 58), some (.ref 1)]) (st' := [.ref 7, .ref 64]) (h' := (HX (u_s4_skins (u_s4_thicks (u_s4_tides (u_s4_currents (u_s4_densities (u_s4_dams (u_s4_hour (u_s4_cells w (a_s1_cells w)) (a_s1_hour w)) (a_s1_dams w)) q1915) q1916) q1917) q1918) q1919) T)) (cs' := 0) (sl' := 0) rfl ?_
  obtain ⟨c1924, hq, h⟩ := ai_bdE h
  refine ev_call (M' := mthg_copyFrom) (L' := [some (.ref 64), some (.ref 7)]) (rest := []) (rv := none) (h' := (HX c1924 T)) rfl (Ethg_copyFrom_64_7 (u_s4_skins (u_s4_thicks (u_s4_tides (u_s4_currents (u_s4_densities (u_s4_dams (u_s4_hour (u_s4_cells w (a_s1_cells w)) (a_s1_hour w)) (a_s1_dams w)) q1915) q1916) q1917) q1918) q1919) _ hq T) ?_
  show ai_ev D1 msea_copyFrom 107 [some (.ref 58), some (.ref 1)] [] (HX c1924 T) 0 0 _
  refine ev_go 4 (pc' := 115) (L' := [some (.ref 58), some (.ref 1)]) (st' := [.ref 12, .ref 69]) (h' := (HX c1924 T)) (cs' := 0) (sl' := 0) rfl ?_
  obtain ⟨c1928, hq, h⟩ := ai_bdE h
  refine ev_call (M' := mlift_copyFrom) (L' := [some (.ref 69), some (.ref 12)]) (rest := []) (rv := none) (h' := (HX c1928 T)) rfl (Elift_copyFrom_69_12 c1924 _ hq T) ?_
  show ai_ev D1 msea_copyFrom 118 [some (.ref 58), some (.ref 1)] [] (HX c1928 T) 0 0 _
  refine ev_go 3 (pc' := 123) (L' := [some (.ref 58), some (.ref 1)]) (st' := [.int (a_s1_towns c1928), .ref 58]) (h' := (HX c1928 T)) (cs' := 0) (sl' := 0) rfl ?_
  refine ev_step rfl rfl rfl (PFX_2_51_58 rfl) ?_
  refine ev_go 7 (pc' := 138) (L' := [some (.ref 58), some (.ref 1)]) (st' := [.int 6, .int 0, .ref 73, .int 0, .ref 16]) (h' := (HX (u_s4_towns c1928 (a_s1_towns c1928)) T)) (cs' := 0) (sl' := 0) rfl ?_
  obtain ⟨q1929, hq, h⟩ := ai_bdE h
  refine ev_cpy rfl rfl rfl rfl rfl rfl hq ?_
  rw [HXs_73]
  refine ev_go 3 (pc' := 146) (L' := [some (.ref 58), some (.ref 1)]) (st' := [.int (a_s1_drops c1928), .ref 58]) (h' := (HX (u_s4_townPlaces (u_s4_towns c1928 (a_s1_towns c1928)) q1929) T)) (cs' := 0) (sl' := 0) rfl ?_
  refine ev_step rfl rfl rfl (PFX_2_57_58 rfl) ?_
  refine ev_go 7 (pc' := 161) (L' := [some (.ref 58), some (.ref 1)]) (st' := [.int 6, .int 0, .ref 74, .int 0, .ref 17]) (h' := (HX (u_s4_drops (u_s4_townPlaces (u_s4_towns c1928 (a_s1_towns c1928)) q1929) (a_s1_drops c1928)) T)) (cs' := 0) (sl' := 0) rfl ?_
  obtain ⟨q1930, hq, h⟩ := ai_bdE h
  refine ev_cpy rfl rfl rfl rfl rfl rfl hq ?_
  rw [HXs_74]
  refine ev_go 7 (pc' := 176) (L' := [some (.ref 58), some (.ref 1)]) (st' := [.int 6, .int 0, .ref 75, .int 0, .ref 18]) (h' := (HX (u_s4_dropLayers (u_s4_drops (u_s4_townPlaces (u_s4_towns c1928 (a_s1_towns c1928)) q1929) (a_s1_drops c1928)) q1930) T)) (cs' := 0) (sl' := 0) rfl ?_
  obtain ⟨q1931, hq, h⟩ := ai_bdE h
  refine ev_cpy rfl rfl rfl rfl rfl rfl hq ?_
  rw [HXs_75]
  refine ev_go 3 (pc' := 184) (L' := [some (.ref 58), some (.ref 1)]) (st' := [.int (a_s1_undos c1928), .ref 58]) (h' := (HX (u_s4_dropFloats (u_s4_dropLayers (u_s4_drops (u_s4_townPlaces (u_s4_towns c1928 (a_s1_towns c1928)) q1929) (a_s1_drops c1928)) q1930) q1931) T)) (cs' := 0) (sl' := 0) rfl ?_
  refine ev_step rfl rfl rfl (PFX_2_66_58 rfl) ?_
  refine ev_go 7 (pc' := 199) (L' := [some (.ref 58), some (.ref 1)]) (st' := [.int 10, .int 0, .ref 76, .int 0, .ref 19]) (h' := (HX (u_s4_undos (u_s4_dropFloats (u_s4_dropLayers (u_s4_drops (u_s4_townPlaces (u_s4_towns c1928 (a_s1_towns c1928)) q1929) (a_s1_drops c1928)) q1930) q1931) (a_s1_undos c1928)) T)) (cs' := 0) (sl' := 0) rfl ?_
  obtain ⟨q1932, hq, h⟩ := ai_bdE h
  refine ev_cpy rfl rfl rfl rfl rfl rfl hq ?_
  rw [HXs_76]
  obtain rfl := Option.some.inj h
  exact ev_end rfl
set_option maxHeartbeats 40000000 in
set_option maxRecDepth 100000 in
theorem Ef_image_0 (x1893 : Int32) (w : WX) (r : Int32) (w' : WX) (h : Ff_image_0 x1893 w = some (r, w')) (T : ai_H) : ai_ev D1 mf_image 0 [some (.ref 0), some (.int x1893)] [] (HX w T) 0 0 (some (.int r), HX w' T) := by
  unfold Ff_image_0 at h
  refine ev_go 3 (pc' := 3) (L' := [some (.ref 0), some (.int x1893)]) (st' := [.int 1, .int 0, .int x1893]) (h' := (HX w T)) (cs' := 0) (sl' := 0) rfl ?_
  obtain ⟨c1894, hq, h⟩ := ai_bdE h
  refine ev_call (M' := mf_within) (L' := [some (.int x1893), some (.int 0), some (.int 1)]) (rest := []) (rv := some (.int c1894)) (h' := (HX w T)) rfl (Ef_within x1893 0 1 _ hq (HX w T)) ?_
  show ai_ev D1 mf_image 6 [some (.ref 0), some (.int x1893)] [.int c1894] (HX w T) 0 0 _
  rcases ai_ifE h with ⟨hc, h⟩ | ⟨hc, h⟩
  · refine ev_if_ne (t := 16) rfl rfl (fun c9 => absurd hc c9) (fun _ => ?_)
    refine ev_go 2 (pc' := 12) (L' := [some (.ref 0), some (.int x1893)]) (st' := [.int (-2), .ref 0]) (h' := (HX w T)) (cs' := 0) (sl' := 0) rfl ?_
    obtain ⟨c1935, hq, h⟩ := ai_bdE h
    refine ev_call (M' := mf_bad) (L' := [some (.ref 0), some (.int (-2))]) (rest := []) (rv := some (.int c1935.1)) (h' := (HX c1935.2 T)) rfl (Ef_bad_0 (-2) w _ _ hq T) ?_
    show ai_ev D1 mf_image 15 [some (.ref 0), some (.int x1893)] [.int c1935.1] (HX c1935.2 T) 0 0 _
    obtain ⟨rfl, rfl⟩ := ai_smP h
    exact ev_end rfl
  · refine ev_if_ne (t := 16) rfl rfl (fun _ => ?_) (fun c9 => absurd c9 hc)
    refine ev_go 2 (pc' := 18) (L' := [some (.ref 0), some (.int x1893)]) (st' := [.int x1893, .ref 0]) (h' := (HX w T)) (cs' := 0) (sl' := 0) rfl ?_
    rcases ai_ifE h with ⟨hc, h⟩ | ⟨hc, h⟩
    · refine ev_call (M' := mf_imageAt) (L' := [some (.ref 0), some (.int x1893)]) (rest := []) (rv := some (.ref 39)) (h' := (HX w T)) rfl (Eimg0 hc _ T) ?_
      show ai_ev D1 mf_image 21 [some (.ref 0), some (.int x1893)] [.ref 39] (HX w T) 0 0 _
      refine ev_go 2 (pc' := 25) (L' := [some (.ref 0), some (.int x1893)]) (st' := [.ref 1, .ref 39]) (h' := (HX w T)) (cs' := 0) (sl' := 0) rfl ?_
      obtain ⟨c1913, hq, h⟩ := ai_bdE h
      refine ev_call (M' := msea_copyFrom) (L' := [some (.ref 39), some (.ref 1)]) (rest := []) (rv := none) (h' := (HX c1913 T)) rfl (Esea_copyFrom_39_1 w _ hq T) ?_
      show ai_ev D1 mf_image 28 [some (.ref 0), some (.int x1893)] [] (HX c1913 T) 0 0 _
      refine ev_go 4 (pc' := 34) (L' := [some (.ref 0), some (.int x1893)]) (st' := [.int 1, .int x1893, .ref 77]) (h' := (HX c1913 T)) (cs' := 0) (sl' := 0) rfl ?_
      obtain ⟨q1914, hq, h⟩ := ai_bdE h
      refine ev_zast rfl rfl hq ?_
      rw [HXs_77]
      refine ev_go 1 (pc' := 36) (L' := [some (.ref 0), some (.int x1893)]) (st' := [.int 1]) (h' := (HX (u_f_imageKept c1913 q1914) T)) (cs' := 0) (sl' := 0) rfl ?_
      obtain ⟨rfl, rfl⟩ := ai_smP h
      exact ev_end rfl
    · refine ev_call (M' := mf_imageAt) (L' := [some (.ref 0), some (.int x1893)]) (rest := []) (rv := some (.ref 58)) (h' := (HX w T)) rfl (Eimg1 hc _ T) ?_
      show ai_ev D1 mf_image 21 [some (.ref 0), some (.int x1893)] [.ref 58] (HX w T) 0 0 _
      refine ev_go 2 (pc' := 25) (L' := [some (.ref 0), some (.int x1893)]) (st' := [.ref 1, .ref 58]) (h' := (HX w T)) (cs' := 0) (sl' := 0) rfl ?_
      obtain ⟨c1933, hq, h⟩ := ai_bdE h
      refine ev_call (M' := msea_copyFrom) (L' := [some (.ref 58), some (.ref 1)]) (rest := []) (rv := none) (h' := (HX c1933 T)) rfl (Esea_copyFrom_58_1 w _ hq T) ?_
      show ai_ev D1 mf_image 28 [some (.ref 0), some (.int x1893)] [] (HX c1933 T) 0 0 _
      refine ev_go 4 (pc' := 34) (L' := [some (.ref 0), some (.int x1893)]) (st' := [.int 1, .int x1893, .ref 77]) (h' := (HX c1933 T)) (cs' := 0) (sl' := 0) rfl ?_
      obtain ⟨q1934, hq, h⟩ := ai_bdE h
      refine ev_zast rfl rfl hq ?_
      rw [HXs_77]
      refine ev_go 1 (pc' := 36) (L' := [some (.ref 0), some (.int x1893)]) (st' := [.int 1]) (h' := (HX (u_f_imageKept c1933 q1934) T)) (cs' := 0) (sl' := 0) rfl ?_
      obtain ⟨rfl, rfl⟩ := ai_smP h
      exact ev_end rfl
set_option maxHeartbeats 40000000 in
set_option maxRecDepth 100000 in
theorem Ethg_copyFrom_7_45 (w : WX) (w' : WX) (h : Fthg_copyFrom_7_45 w = some w') (T : ai_H) : ai_ev D1 mthg_copyFrom 0 [some (.ref 7), some (.ref 45)] [] (HX w T) 0 0 (none, HX w' T) := by
  unfold Fthg_copyFrom_7_45 at h
  refine ev_go 3 (pc' := 5) (L' := [some (.ref 7), some (.ref 45)]) (st' := [.int (a_s3things_count w), .ref 7]) (h' := (HX w T)) (cs' := 0) (sl' := 0) rfl ?_
  refine ev_step rfl rfl rfl (PFX_5_9_7 rfl) ?_
  refine ev_go 7 (pc' := 20) (L' := [some (.ref 7), some (.ref 45)]) (st' := [.int 6, .int 0, .ref 8, .int 0, .ref 46]) (h' := (HX (u_s1things_count w (a_s3things_count w)) T)) (cs' := 0) (sl' := 0) rfl ?_
  obtain ⟨q1944, hq, h⟩ := ai_bdE h
  refine ev_cpy rfl rfl rfl rfl rfl rfl hq ?_
  rw [HXs_8]
  refine ev_go 7 (pc' := 35) (L' := [some (.ref 7), some (.ref 45)]) (st' := [.int 6, .int 0, .ref 9, .int 0, .ref 47]) (h' := (HX (u_s1things_kinds (u_s1things_count w (a_s3things_count w)) q1944) T)) (cs' := 0) (sl' := 0) rfl ?_
  obtain ⟨q1945, hq, h⟩ := ai_bdE h
  refine ev_cpy rfl rfl rfl rfl rfl rfl hq ?_
  rw [HXs_9]
  refine ev_go 7 (pc' := 50) (L' := [some (.ref 7), some (.ref 45)]) (st' := [.int 6, .int 0, .ref 10, .int 0, .ref 48]) (h' := (HX (u_s1things_weights (u_s1things_kinds (u_s1things_count w (a_s3things_count w)) q1944) q1945) T)) (cs' := 0) (sl' := 0) rfl ?_
  obtain ⟨q1946, hq, h⟩ := ai_bdE h
  refine ev_cpy rfl rfl rfl rfl rfl rfl hq ?_
  rw [HXs_10]
  refine ev_go 7 (pc' := 65) (L' := [some (.ref 7), some (.ref 45)]) (st' := [.int 6, .int 0, .ref 11, .int 0, .ref 49]) (h' := (HX (u_s1things_volumes (u_s1things_weights (u_s1things_kinds (u_s1things_count w (a_s3things_count w)) q1944) q1945) q1946) T)) (cs' := 0) (sl' := 0) rfl ?_
  obtain ⟨q1947, hq, h⟩ := ai_bdE h
  refine ev_cpy rfl rfl rfl rfl rfl rfl hq ?_
  rw [HXs_11]
  obtain rfl := Option.some.inj h
  exact ev_end rfl
set_option maxHeartbeats 40000000 in
set_option maxRecDepth 100000 in
theorem Elift_copyFrom_12_50 (w : WX) (w' : WX) (h : Flift_copyFrom_12_50 w = some w') (T : ai_H) : ai_ev D1 mlift_copyFrom 0 [some (.ref 12), some (.ref 50)] [] (HX w T) 0 0 (none, HX w' T) := by
  unfold Flift_copyFrom_12_50 at h
  refine ev_go 3 (pc' := 5) (L' := [some (.ref 12), some (.ref 50)]) (st' := [.int (a_s3lifts_count w), .ref 12]) (h' := (HX w T)) (cs' := 0) (sl' := 0) rfl ?_
  refine ev_step rfl rfl rfl (PFX_1_9_12 rfl) ?_
  refine ev_go 7 (pc' := 20) (L' := [some (.ref 12), some (.ref 50)]) (st' := [.int 10, .int 0, .ref 13, .int 0, .ref 51]) (h' := (HX (u_s1lifts_count w (a_s3lifts_count w)) T)) (cs' := 0) (sl' := 0) rfl ?_
  obtain ⟨q1949, hq, h⟩ := ai_bdE h
  refine ev_cpy rfl rfl rfl rfl rfl rfl hq ?_
  rw [HXs_13]
  refine ev_go 7 (pc' := 35) (L' := [some (.ref 12), some (.ref 50)]) (st' := [.int 10, .int 0, .ref 14, .int 0, .ref 52]) (h' := (HX (u_s1lifts_froms (u_s1lifts_count w (a_s3lifts_count w)) q1949) T)) (cs' := 0) (sl' := 0) rfl ?_
  obtain ⟨q1950, hq, h⟩ := ai_bdE h
  refine ev_cpy rfl rfl rfl rfl rfl rfl hq ?_
  rw [HXs_14]
  refine ev_go 7 (pc' := 50) (L' := [some (.ref 12), some (.ref 50)]) (st' := [.int 10, .int 0, .ref 15, .int 0, .ref 53]) (h' := (HX (u_s1lifts_tos (u_s1lifts_froms (u_s1lifts_count w (a_s3lifts_count w)) q1949) q1950) T)) (cs' := 0) (sl' := 0) rfl ?_
  obtain ⟨q1951, hq, h⟩ := ai_bdE h
  refine ev_cpy rfl rfl rfl rfl rfl rfl hq ?_
  rw [HXs_15]
  obtain rfl := Option.some.inj h
  exact ev_end rfl
set_option maxHeartbeats 40000000 in
set_option maxRecDepth 100000 in
theorem Esea_copyFrom_1_39 (w : WX) (w' : WX) (h : Fsea_copyFrom_1_39 w = some w') (T : ai_H) : ai_ev D1 msea_copyFrom 0 [some (.ref 1), some (.ref 39)] [] (HX w T) 0 0 (none, HX w' T) := by
  unfold Fsea_copyFrom_1_39 at h
  refine ev_go 3 (pc' := 5) (L' := [some (.ref 1), some (.ref 39)]) (st' := [.int (a_s3_cells w), .ref 1]) (h' := (HX w T)) (cs' := 0) (sl' := 0) rfl ?_
  refine ev_step rfl rfl rfl (PFX_2_9_1 rfl) ?_
  refine ev_go 3 (pc' := 13) (L' := [some (.ref 1), some (.ref 39)]) (st' := [.int (a_s3_hour w), .ref 1]) (h' := (HX (u_s1_cells w (a_s3_cells w)) T)) (cs' := 0) (sl' := 0) rfl ?_
  refine ev_step rfl rfl rfl (PFX_2_15_1 rfl) ?_
  refine ev_go 3 (pc' := 21) (L' := [some (.ref 1), some (.ref 39)]) (st' := [.int (a_s3_dams w), .ref 1]) (h' := (HX (u_s1_hour (u_s1_cells w (a_s3_cells w)) (a_s3_hour w)) T)) (cs' := 0) (sl' := 0) rfl ?_
  refine ev_step rfl rfl rfl (PFX_2_18_1 rfl) ?_
  refine ev_go 7 (pc' := 35) (L' := [some (.ref 1), some (.ref 39)]) (st' := [.int 4, .int 0, .ref 2, .int 0, .ref 40]) (h' := (HX (u_s1_dams (u_s1_hour (u_s1_cells w (a_s3_cells w)) (a_s3_hour w)) (a_s3_dams w)) T)) (cs' := 0) (sl' := 0) rfl ?_
  obtain ⟨q1939, hq, h⟩ := ai_bdE h
  refine ev_cpy rfl rfl rfl rfl rfl rfl hq ?_
  rw [HXs_2]
  refine ev_go 7 (pc' := 49) (L' := [some (.ref 1), some (.ref 39)]) (st' := [.int 4, .int 0, .ref 3, .int 0, .ref 41]) (h' := (HX (u_s1_densities (u_s1_dams (u_s1_hour (u_s1_cells w (a_s3_cells w)) (a_s3_hour w)) (a_s3_dams w)) q1939) T)) (cs' := 0) (sl' := 0) rfl ?_
  obtain ⟨q1940, hq, h⟩ := ai_bdE h
  refine ev_cpy rfl rfl rfl rfl rfl rfl hq ?_
  rw [HXs_3]
  refine ev_go 7 (pc' := 64) (L' := [some (.ref 1), some (.ref 39)]) (st' := [.int 24, .int 0, .ref 4, .int 0, .ref 42]) (h' := (HX (u_s1_currents (u_s1_densities (u_s1_dams (u_s1_hour (u_s1_cells w (a_s3_cells w)) (a_s3_hour w)) (a_s3_dams w)) q1939) q1940) T)) (cs' := 0) (sl' := 0) rfl ?_
  obtain ⟨q1941, hq, h⟩ := ai_bdE h
  refine ev_cpy rfl rfl rfl rfl rfl rfl hq ?_
  rw [HXs_4]
  refine ev_go 7 (pc' := 79) (L' := [some (.ref 1), some (.ref 39)]) (st' := [.int 24, .int 0, .ref 5, .int 0, .ref 43]) (h' := (HX (u_s1_tides (u_s1_currents (u_s1_densities (u_s1_dams (u_s1_hour (u_s1_cells w (a_s3_cells w)) (a_s3_hour w)) (a_s3_dams w)) q1939) q1940) q1941) T)) (cs' := 0) (sl' := 0) rfl ?_
  obtain ⟨q1942, hq, h⟩ := ai_bdE h
  refine ev_cpy rfl rfl rfl rfl rfl rfl hq ?_
  rw [HXs_5]
  refine ev_go 7 (pc' := 93) (L' := [some (.ref 1), some (.ref 39)]) (st' := [.int 3, .int 0, .ref 6, .int 0, .ref 44]) (h' := (HX (u_s1_thicks (u_s1_tides (u_s1_currents (u_s1_densities (u_s1_dams (u_s1_hour (u_s1_cells w (a_s3_cells w)) (a_s3_hour w)) (a_s3_dams w)) q1939) q1940) q1941) q1942) T)) (cs' := 0) (sl' := 0) rfl ?_
  obtain ⟨q1943, hq, h⟩ := ai_bdE h
  refine ev_cpy rfl rfl rfl rfl rfl rfl hq ?_
  rw [HXs_6]
  refine ev_go 4 (pc' := 104) (L' := [some (.ref 1), some (.ref 39)]) (st' := [.ref 45, .ref 7]) (h' := (HX (u_s1_skins (u_s1_thicks (u_s1_tides (u_s1_currents (u_s1_densities (u_s1_dams (u_s1_hour (u_s1_cells w (a_s3_cells w)) (a_s3_hour w)) (a_s3_dams w)) q1939) q1940) q1941) q1942) q1943) T)) (cs' := 0) (sl' := 0) rfl ?_
  obtain ⟨c1948, hq, h⟩ := ai_bdE h
  refine ev_call (M' := mthg_copyFrom) (L' := [some (.ref 7), some (.ref 45)]) (rest := []) (rv := none) (h' := (HX c1948 T)) rfl (Ethg_copyFrom_7_45 (u_s1_skins (u_s1_thicks (u_s1_tides (u_s1_currents (u_s1_densities (u_s1_dams (u_s1_hour (u_s1_cells w (a_s3_cells w)) (a_s3_hour w)) (a_s3_dams w)) q1939) q1940) q1941) q1942) q1943) _ hq T) ?_
  show ai_ev D1 msea_copyFrom 107 [some (.ref 1), some (.ref 39)] [] (HX c1948 T) 0 0 _
  refine ev_go 4 (pc' := 115) (L' := [some (.ref 1), some (.ref 39)]) (st' := [.ref 50, .ref 12]) (h' := (HX c1948 T)) (cs' := 0) (sl' := 0) rfl ?_
  obtain ⟨c1952, hq, h⟩ := ai_bdE h
  refine ev_call (M' := mlift_copyFrom) (L' := [some (.ref 12), some (.ref 50)]) (rest := []) (rv := none) (h' := (HX c1952 T)) rfl (Elift_copyFrom_12_50 c1948 _ hq T) ?_
  show ai_ev D1 msea_copyFrom 118 [some (.ref 1), some (.ref 39)] [] (HX c1952 T) 0 0 _
  refine ev_go 3 (pc' := 123) (L' := [some (.ref 1), some (.ref 39)]) (st' := [.int (a_s3_towns c1952), .ref 1]) (h' := (HX c1952 T)) (cs' := 0) (sl' := 0) rfl ?_
  refine ev_step rfl rfl rfl (PFX_2_51_1 rfl) ?_
  refine ev_go 7 (pc' := 138) (L' := [some (.ref 1), some (.ref 39)]) (st' := [.int 6, .int 0, .ref 16, .int 0, .ref 54]) (h' := (HX (u_s1_towns c1952 (a_s3_towns c1952)) T)) (cs' := 0) (sl' := 0) rfl ?_
  obtain ⟨q1953, hq, h⟩ := ai_bdE h
  refine ev_cpy rfl rfl rfl rfl rfl rfl hq ?_
  rw [HXs_16]
  refine ev_go 3 (pc' := 146) (L' := [some (.ref 1), some (.ref 39)]) (st' := [.int (a_s3_drops c1952), .ref 1]) (h' := (HX (u_s1_townPlaces (u_s1_towns c1952 (a_s3_towns c1952)) q1953) T)) (cs' := 0) (sl' := 0) rfl ?_
  refine ev_step rfl rfl rfl (PFX_2_57_1 rfl) ?_
  refine ev_go 7 (pc' := 161) (L' := [some (.ref 1), some (.ref 39)]) (st' := [.int 6, .int 0, .ref 17, .int 0, .ref 55]) (h' := (HX (u_s1_drops (u_s1_townPlaces (u_s1_towns c1952 (a_s3_towns c1952)) q1953) (a_s3_drops c1952)) T)) (cs' := 0) (sl' := 0) rfl ?_
  obtain ⟨q1954, hq, h⟩ := ai_bdE h
  refine ev_cpy rfl rfl rfl rfl rfl rfl hq ?_
  rw [HXs_17]
  refine ev_go 7 (pc' := 176) (L' := [some (.ref 1), some (.ref 39)]) (st' := [.int 6, .int 0, .ref 18, .int 0, .ref 56]) (h' := (HX (u_s1_dropLayers (u_s1_drops (u_s1_townPlaces (u_s1_towns c1952 (a_s3_towns c1952)) q1953) (a_s3_drops c1952)) q1954) T)) (cs' := 0) (sl' := 0) rfl ?_
  obtain ⟨q1955, hq, h⟩ := ai_bdE h
  refine ev_cpy rfl rfl rfl rfl rfl rfl hq ?_
  rw [HXs_18]
  refine ev_go 3 (pc' := 184) (L' := [some (.ref 1), some (.ref 39)]) (st' := [.int (a_s3_undos c1952), .ref 1]) (h' := (HX (u_s1_dropFloats (u_s1_dropLayers (u_s1_drops (u_s1_townPlaces (u_s1_towns c1952 (a_s3_towns c1952)) q1953) (a_s3_drops c1952)) q1954) q1955) T)) (cs' := 0) (sl' := 0) rfl ?_
  refine ev_step rfl rfl rfl (PFX_2_66_1 rfl) ?_
  refine ev_go 7 (pc' := 199) (L' := [some (.ref 1), some (.ref 39)]) (st' := [.int 10, .int 0, .ref 19, .int 0, .ref 57]) (h' := (HX (u_s1_undos (u_s1_dropFloats (u_s1_dropLayers (u_s1_drops (u_s1_townPlaces (u_s1_towns c1952 (a_s3_towns c1952)) q1953) (a_s3_drops c1952)) q1954) q1955) (a_s3_undos c1952)) T)) (cs' := 0) (sl' := 0) rfl ?_
  obtain ⟨q1956, hq, h⟩ := ai_bdE h
  refine ev_cpy rfl rfl rfl rfl rfl rfl hq ?_
  rw [HXs_19]
  obtain rfl := Option.some.inj h
  exact ev_end rfl
set_option maxHeartbeats 40000000 in
set_option maxRecDepth 100000 in
theorem Ethg_copyFrom_7_64 (w : WX) (w' : WX) (h : Fthg_copyFrom_7_64 w = some w') (T : ai_H) : ai_ev D1 mthg_copyFrom 0 [some (.ref 7), some (.ref 64)] [] (HX w T) 0 0 (none, HX w' T) := by
  unfold Fthg_copyFrom_7_64 at h
  refine ev_go 3 (pc' := 5) (L' := [some (.ref 7), some (.ref 64)]) (st' := [.int (a_s4things_count w), .ref 7]) (h' := (HX w T)) (cs' := 0) (sl' := 0) rfl ?_
  refine ev_step rfl rfl rfl (PFX_5_9_7 rfl) ?_
  refine ev_go 7 (pc' := 20) (L' := [some (.ref 7), some (.ref 64)]) (st' := [.int 6, .int 0, .ref 8, .int 0, .ref 65]) (h' := (HX (u_s1things_count w (a_s4things_count w)) T)) (cs' := 0) (sl' := 0) rfl ?_
  obtain ⟨q1963, hq, h⟩ := ai_bdE h
  refine ev_cpy rfl rfl rfl rfl rfl rfl hq ?_
  rw [HXs_8]
  refine ev_go 7 (pc' := 35) (L' := [some (.ref 7), some (.ref 64)]) (st' := [.int 6, .int 0, .ref 9, .int 0, .ref 66]) (h' := (HX (u_s1things_kinds (u_s1things_count w (a_s4things_count w)) q1963) T)) (cs' := 0) (sl' := 0) rfl ?_
  obtain ⟨q1964, hq, h⟩ := ai_bdE h
  refine ev_cpy rfl rfl rfl rfl rfl rfl hq ?_
  rw [HXs_9]
  refine ev_go 7 (pc' := 50) (L' := [some (.ref 7), some (.ref 64)]) (st' := [.int 6, .int 0, .ref 10, .int 0, .ref 67]) (h' := (HX (u_s1things_weights (u_s1things_kinds (u_s1things_count w (a_s4things_count w)) q1963) q1964) T)) (cs' := 0) (sl' := 0) rfl ?_
  obtain ⟨q1965, hq, h⟩ := ai_bdE h
  refine ev_cpy rfl rfl rfl rfl rfl rfl hq ?_
  rw [HXs_10]
  refine ev_go 7 (pc' := 65) (L' := [some (.ref 7), some (.ref 64)]) (st' := [.int 6, .int 0, .ref 11, .int 0, .ref 68]) (h' := (HX (u_s1things_volumes (u_s1things_weights (u_s1things_kinds (u_s1things_count w (a_s4things_count w)) q1963) q1964) q1965) T)) (cs' := 0) (sl' := 0) rfl ?_
  obtain ⟨q1966, hq, h⟩ := ai_bdE h
  refine ev_cpy rfl rfl rfl rfl rfl rfl hq ?_
  rw [HXs_11]
  obtain rfl := Option.some.inj h
  exact ev_end rfl
set_option maxHeartbeats 40000000 in
set_option maxRecDepth 100000 in
theorem Elift_copyFrom_12_69 (w : WX) (w' : WX) (h : Flift_copyFrom_12_69 w = some w') (T : ai_H) : ai_ev D1 mlift_copyFrom 0 [some (.ref 12), some (.ref 69)] [] (HX w T) 0 0 (none, HX w' T) := by
  unfold Flift_copyFrom_12_69 at h
  refine ev_go 3 (pc' := 5) (L' := [some (.ref 12), some (.ref 69)]) (st' := [.int (a_s4lifts_count w), .ref 12]) (h' := (HX w T)) (cs' := 0) (sl' := 0) rfl ?_
  refine ev_step rfl rfl rfl (PFX_1_9_12 rfl) ?_
  refine ev_go 7 (pc' := 20) (L' := [some (.ref 12), some (.ref 69)]) (st' := [.int 10, .int 0, .ref 13, .int 0, .ref 70]) (h' := (HX (u_s1lifts_count w (a_s4lifts_count w)) T)) (cs' := 0) (sl' := 0) rfl ?_
  obtain ⟨q1968, hq, h⟩ := ai_bdE h
  refine ev_cpy rfl rfl rfl rfl rfl rfl hq ?_
  rw [HXs_13]
  refine ev_go 7 (pc' := 35) (L' := [some (.ref 12), some (.ref 69)]) (st' := [.int 10, .int 0, .ref 14, .int 0, .ref 71]) (h' := (HX (u_s1lifts_froms (u_s1lifts_count w (a_s4lifts_count w)) q1968) T)) (cs' := 0) (sl' := 0) rfl ?_
  obtain ⟨q1969, hq, h⟩ := ai_bdE h
  refine ev_cpy rfl rfl rfl rfl rfl rfl hq ?_
  rw [HXs_14]
  refine ev_go 7 (pc' := 50) (L' := [some (.ref 12), some (.ref 69)]) (st' := [.int 10, .int 0, .ref 15, .int 0, .ref 72]) (h' := (HX (u_s1lifts_tos (u_s1lifts_froms (u_s1lifts_count w (a_s4lifts_count w)) q1968) q1969) T)) (cs' := 0) (sl' := 0) rfl ?_
  obtain ⟨q1970, hq, h⟩ := ai_bdE h
  refine ev_cpy rfl rfl rfl rfl rfl rfl hq ?_
  rw [HXs_15]
  obtain rfl := Option.some.inj h
  exact ev_end rfl
set_option maxHeartbeats 40000000 in
set_option maxRecDepth 100000 in
theorem Esea_copyFrom_1_58 (w : WX) (w' : WX) (h : Fsea_copyFrom_1_58 w = some w') (T : ai_H) : ai_ev D1 msea_copyFrom 0 [some (.ref 1), some (.ref 58)] [] (HX w T) 0 0 (none, HX w' T) := by
  unfold Fsea_copyFrom_1_58 at h
  refine ev_go 3 (pc' := 5) (L' := [some (.ref 1), some (.ref 58)]) (st' := [.int (a_s4_cells w), .ref 1]) (h' := (HX w T)) (cs' := 0) (sl' := 0) rfl ?_
  refine ev_step rfl rfl rfl (PFX_2_9_1 rfl) ?_
  refine ev_go 3 (pc' := 13) (L' := [some (.ref 1), some (.ref 58)]) (st' := [.int (a_s4_hour w), .ref 1]) (h' := (HX (u_s1_cells w (a_s4_cells w)) T)) (cs' := 0) (sl' := 0) rfl ?_
  refine ev_step rfl rfl rfl (PFX_2_15_1 rfl) ?_
  refine ev_go 3 (pc' := 21) (L' := [some (.ref 1), some (.ref 58)]) (st' := [.int (a_s4_dams w), .ref 1]) (h' := (HX (u_s1_hour (u_s1_cells w (a_s4_cells w)) (a_s4_hour w)) T)) (cs' := 0) (sl' := 0) rfl ?_
  refine ev_step rfl rfl rfl (PFX_2_18_1 rfl) ?_
  refine ev_go 7 (pc' := 35) (L' := [some (.ref 1), some (.ref 58)]) (st' := [.int 4, .int 0, .ref 2, .int 0, .ref 59]) (h' := (HX (u_s1_dams (u_s1_hour (u_s1_cells w (a_s4_cells w)) (a_s4_hour w)) (a_s4_dams w)) T)) (cs' := 0) (sl' := 0) rfl ?_
  obtain ⟨q1958, hq, h⟩ := ai_bdE h
  refine ev_cpy rfl rfl rfl rfl rfl rfl hq ?_
  rw [HXs_2]
  refine ev_go 7 (pc' := 49) (L' := [some (.ref 1), some (.ref 58)]) (st' := [.int 4, .int 0, .ref 3, .int 0, .ref 60]) (h' := (HX (u_s1_densities (u_s1_dams (u_s1_hour (u_s1_cells w (a_s4_cells w)) (a_s4_hour w)) (a_s4_dams w)) q1958) T)) (cs' := 0) (sl' := 0) rfl ?_
  obtain ⟨q1959, hq, h⟩ := ai_bdE h
  refine ev_cpy rfl rfl rfl rfl rfl rfl hq ?_
  rw [HXs_3]
  refine ev_go 7 (pc' := 64) (L' := [some (.ref 1), some (.ref 58)]) (st' := [.int 24, .int 0, .ref 4, .int 0, .ref 61]) (h' := (HX (u_s1_currents (u_s1_densities (u_s1_dams (u_s1_hour (u_s1_cells w (a_s4_cells w)) (a_s4_hour w)) (a_s4_dams w)) q1958) q1959) T)) (cs' := 0) (sl' := 0) rfl ?_
  obtain ⟨q1960, hq, h⟩ := ai_bdE h
  refine ev_cpy rfl rfl rfl rfl rfl rfl hq ?_
  rw [HXs_4]
  refine ev_go 7 (pc' := 79) (L' := [some (.ref 1), some (.ref 58)]) (st' := [.int 24, .int 0, .ref 5, .int 0, .ref 62]) (h' := (HX (u_s1_tides (u_s1_currents (u_s1_densities (u_s1_dams (u_s1_hour (u_s1_cells w (a_s4_cells w)) (a_s4_hour w)) (a_s4_dams w)) q1958) q1959) q1960) T)) (cs' := 0) (sl' := 0) rfl ?_
  obtain ⟨q1961, hq, h⟩ := ai_bdE h
  refine ev_cpy rfl rfl rfl rfl rfl rfl hq ?_
  rw [HXs_5]
  refine ev_go 7 (pc' := 93) (L' := [some (.ref 1), some (.ref 58)]) (st' := [.int 3, .int 0, .ref 6, .int 0, .ref 63]) (h' := (HX (u_s1_thicks (u_s1_tides (u_s1_currents (u_s1_densities (u_s1_dams (u_s1_hour (u_s1_cells w (a_s4_cells w)) (a_s4_hour w)) (a_s4_dams w)) q1958) q1959) q1960) q1961) T)) (cs' := 0) (sl' := 0) rfl ?_
  obtain ⟨q1962, hq, h⟩ := ai_bdE h
  refine ev_cpy rfl rfl rfl rfl rfl rfl hq ?_
  rw [HXs_6]
  refine ev_go 4 (pc' := 104) (L' := [some (.ref 1), some (.ref 58)]) (st' := [.ref 64, .ref 7]) (h' := (HX (u_s1_skins (u_s1_thicks (u_s1_tides (u_s1_currents (u_s1_densities (u_s1_dams (u_s1_hour (u_s1_cells w (a_s4_cells w)) (a_s4_hour w)) (a_s4_dams w)) q1958) q1959) q1960) q1961) q1962) T)) (cs' := 0) (sl' := 0) rfl ?_
  obtain ⟨c1967, hq, h⟩ := ai_bdE h
  refine ev_call (M' := mthg_copyFrom) (L' := [some (.ref 7), some (.ref 64)]) (rest := []) (rv := none) (h' := (HX c1967 T)) rfl (Ethg_copyFrom_7_64 (u_s1_skins (u_s1_thicks (u_s1_tides (u_s1_currents (u_s1_densities (u_s1_dams (u_s1_hour (u_s1_cells w (a_s4_cells w)) (a_s4_hour w)) (a_s4_dams w)) q1958) q1959) q1960) q1961) q1962) _ hq T) ?_
  show ai_ev D1 msea_copyFrom 107 [some (.ref 1), some (.ref 58)] [] (HX c1967 T) 0 0 _
  refine ev_go 4 (pc' := 115) (L' := [some (.ref 1), some (.ref 58)]) (st' := [.ref 69, .ref 12]) (h' := (HX c1967 T)) (cs' := 0) (sl' := 0) rfl ?_
  obtain ⟨c1971, hq, h⟩ := ai_bdE h
  refine ev_call (M' := mlift_copyFrom) (L' := [some (.ref 12), some (.ref 69)]) (rest := []) (rv := none) (h' := (HX c1971 T)) rfl (Elift_copyFrom_12_69 c1967 _ hq T) ?_
  show ai_ev D1 msea_copyFrom 118 [some (.ref 1), some (.ref 58)] [] (HX c1971 T) 0 0 _
  refine ev_go 3 (pc' := 123) (L' := [some (.ref 1), some (.ref 58)]) (st' := [.int (a_s4_towns c1971), .ref 1]) (h' := (HX c1971 T)) (cs' := 0) (sl' := 0) rfl ?_
  refine ev_step rfl rfl rfl (PFX_2_51_1 rfl) ?_
  refine ev_go 7 (pc' := 138) (L' := [some (.ref 1), some (.ref 58)]) (st' := [.int 6, .int 0, .ref 16, .int 0, .ref 73]) (h' := (HX (u_s1_towns c1971 (a_s4_towns c1971)) T)) (cs' := 0) (sl' := 0) rfl ?_
  obtain ⟨q1972, hq, h⟩ := ai_bdE h
  refine ev_cpy rfl rfl rfl rfl rfl rfl hq ?_
  rw [HXs_16]
  refine ev_go 3 (pc' := 146) (L' := [some (.ref 1), some (.ref 58)]) (st' := [.int (a_s4_drops c1971), .ref 1]) (h' := (HX (u_s1_townPlaces (u_s1_towns c1971 (a_s4_towns c1971)) q1972) T)) (cs' := 0) (sl' := 0) rfl ?_
  refine ev_step rfl rfl rfl (PFX_2_57_1 rfl) ?_
  refine ev_go 7 (pc' := 161) (L' := [some (.ref 1), some (.ref 58)]) (st' := [.int 6, .int 0, .ref 17, .int 0, .ref 74]) (h' := (HX (u_s1_drops (u_s1_townPlaces (u_s1_towns c1971 (a_s4_towns c1971)) q1972) (a_s4_drops c1971)) T)) (cs' := 0) (sl' := 0) rfl ?_
  obtain ⟨q1973, hq, h⟩ := ai_bdE h
  refine ev_cpy rfl rfl rfl rfl rfl rfl hq ?_
  rw [HXs_17]
  refine ev_go 7 (pc' := 176) (L' := [some (.ref 1), some (.ref 58)]) (st' := [.int 6, .int 0, .ref 18, .int 0, .ref 75]) (h' := (HX (u_s1_dropLayers (u_s1_drops (u_s1_townPlaces (u_s1_towns c1971 (a_s4_towns c1971)) q1972) (a_s4_drops c1971)) q1973) T)) (cs' := 0) (sl' := 0) rfl ?_
  obtain ⟨q1974, hq, h⟩ := ai_bdE h
  refine ev_cpy rfl rfl rfl rfl rfl rfl hq ?_
  rw [HXs_18]
  refine ev_go 3 (pc' := 184) (L' := [some (.ref 1), some (.ref 58)]) (st' := [.int (a_s4_undos c1971), .ref 1]) (h' := (HX (u_s1_dropFloats (u_s1_dropLayers (u_s1_drops (u_s1_townPlaces (u_s1_towns c1971 (a_s4_towns c1971)) q1972) (a_s4_drops c1971)) q1973) q1974) T)) (cs' := 0) (sl' := 0) rfl ?_
  refine ev_step rfl rfl rfl (PFX_2_66_1 rfl) ?_
  refine ev_go 7 (pc' := 199) (L' := [some (.ref 1), some (.ref 58)]) (st' := [.int 10, .int 0, .ref 19, .int 0, .ref 76]) (h' := (HX (u_s1_undos (u_s1_dropFloats (u_s1_dropLayers (u_s1_drops (u_s1_townPlaces (u_s1_towns c1971 (a_s4_towns c1971)) q1972) (a_s4_drops c1971)) q1973) q1974) (a_s4_undos c1971)) T)) (cs' := 0) (sl' := 0) rfl ?_
  obtain ⟨q1975, hq, h⟩ := ai_bdE h
  refine ev_cpy rfl rfl rfl rfl rfl rfl hq ?_
  rw [HXs_19]
  obtain rfl := Option.some.inj h
  exact ev_end rfl
set_option maxHeartbeats 40000000 in
set_option maxRecDepth 100000 in
theorem Ef_from_0 (x1936 : Int32) (w : WX) (r : Int32) (w' : WX) (h : Ff_from_0 x1936 w = some (r, w')) (T : ai_H) : ai_ev D1 mf_from 0 [some (.ref 0), some (.int x1936)] [] (HX w T) 0 0 (some (.int r), HX w' T) := by
  unfold Ff_from_0 at h
  refine ev_go 3 (pc' := 3) (L' := [some (.ref 0), some (.int x1936)]) (st' := [.int 1, .int 0, .int x1936]) (h' := (HX w T)) (cs' := 0) (sl' := 0) rfl ?_
  obtain ⟨c1937, hq, h⟩ := ai_bdE h
  refine ev_call (M' := mf_within) (L' := [some (.int x1936), some (.int 0), some (.int 1)]) (rest := []) (rv := some (.int c1937)) (h' := (HX w T)) rfl (Ef_within x1936 0 1 _ hq (HX w T)) ?_
  show ai_ev D1 mf_from 6 [some (.ref 0), some (.int x1936)] [.int c1937] (HX w T) 0 0 _
  rcases ai_ifE h with ⟨hc, h⟩ | ⟨hc, h⟩
  · refine ev_if_ne (t := 16) rfl rfl (fun c9 => absurd hc c9) (fun _ => ?_)
    refine ev_go 2 (pc' := 12) (L' := [some (.ref 0), some (.int x1936)]) (st' := [.int (-2), .ref 0]) (h' := (HX w T)) (cs' := 0) (sl' := 0) rfl ?_
    obtain ⟨c1978, hq, h⟩ := ai_bdE h
    refine ev_call (M' := mf_bad) (L' := [some (.ref 0), some (.int (-2))]) (rest := []) (rv := some (.int c1978.1)) (h' := (HX c1978.2 T)) rfl (Ef_bad_0 (-2) w _ _ hq T) ?_
    show ai_ev D1 mf_from 15 [some (.ref 0), some (.int x1936)] [.int c1978.1] (HX c1978.2 T) 0 0 _
    obtain ⟨rfl, rfl⟩ := ai_smP h
    exact ev_end rfl
  · refine ev_if_ne (t := 16) rfl rfl (fun _ => ?_) (fun c9 => absurd c9 hc)
    refine ev_go 3 (pc' := 21) (L' := [some (.ref 0), some (.int x1936)]) (st' := [.int x1936, .ref 77]) (h' := (HX w T)) (cs' := 0) (sl' := 0) rfl ?_
    obtain ⟨v1938, hq, h⟩ := ai_bdE h
    refine ev_zald rfl rfl hq ?_
    rcases ai_ifE h with ⟨hc, h⟩ | ⟨hc, h⟩
    · refine ev_if_ne (t := 32) rfl rfl (fun c9 => absurd hc c9) (fun _ => ?_)
      refine ev_go 2 (pc' := 28) (L' := [some (.ref 0), some (.int x1936)]) (st' := [.int (-3), .ref 0]) (h' := (HX w T)) (cs' := 0) (sl' := 0) rfl ?_
      obtain ⟨c1977, hq, h⟩ := ai_bdE h
      refine ev_call (M' := mf_counted) (L' := [some (.ref 0), some (.int (-3))]) (rest := []) (rv := some (.int c1977.1)) (h' := (HX c1977.2 T)) rfl (Ef_counted_0 (-3) w _ _ hq T) ?_
      show ai_ev D1 mf_from 31 [some (.ref 0), some (.int x1936)] [.int c1977.1] (HX c1977.2 T) 0 0 _
      obtain ⟨rfl, rfl⟩ := ai_smP h
      exact ev_end rfl
    · refine ev_if_ne (t := 32) rfl rfl (fun _ => ?_) (fun c9 => absurd c9 hc)
      refine ev_go 4 (pc' := 38) (L' := [some (.ref 0), some (.int x1936)]) (st' := [.int x1936, .ref 0, .ref 1]) (h' := (HX w T)) (cs' := 0) (sl' := 0) rfl ?_
      rcases ai_ifE h with ⟨hc, h⟩ | ⟨hc, h⟩
      · refine ev_call (M' := mf_imageAt) (L' := [some (.ref 0), some (.int x1936)]) (rest := [.ref 1]) (rv := some (.ref 39)) (h' := (HX w T)) rfl (Eimg0 hc _ T) ?_
        show ai_ev D1 mf_from 41 [some (.ref 0), some (.int x1936)] [.ref 39, .ref 1] (HX w T) 0 0 _
        obtain ⟨c1957, hq, h⟩ := ai_bdE h
        refine ev_call (M' := msea_copyFrom) (L' := [some (.ref 1), some (.ref 39)]) (rest := []) (rv := none) (h' := (HX c1957 T)) rfl (Esea_copyFrom_1_39 w _ hq T) ?_
        show ai_ev D1 mf_from 44 [some (.ref 0), some (.int x1936)] [] (HX c1957 T) 0 0 _
        refine ev_go 1 (pc' := 45) (L' := [some (.ref 0), some (.int x1936)]) (st' := [.int 1]) (h' := (HX c1957 T)) (cs' := 0) (sl' := 0) rfl ?_
        obtain ⟨rfl, rfl⟩ := ai_smP h
        exact ev_end rfl
      · refine ev_call (M' := mf_imageAt) (L' := [some (.ref 0), some (.int x1936)]) (rest := [.ref 1]) (rv := some (.ref 58)) (h' := (HX w T)) rfl (Eimg1 hc _ T) ?_
        show ai_ev D1 mf_from 41 [some (.ref 0), some (.int x1936)] [.ref 58, .ref 1] (HX w T) 0 0 _
        obtain ⟨c1976, hq, h⟩ := ai_bdE h
        refine ev_call (M' := msea_copyFrom) (L' := [some (.ref 1), some (.ref 58)]) (rest := []) (rv := none) (h' := (HX c1976 T)) rfl (Esea_copyFrom_1_58 w _ hq T) ?_
        show ai_ev D1 mf_from 44 [some (.ref 0), some (.int x1936)] [] (HX c1976 T) 0 0 _
        refine ev_go 1 (pc' := 45) (L' := [some (.ref 0), some (.int x1936)]) (st' := [.int 1]) (h' := (HX c1976 T)) (cs' := 0) (sl' := 0) rfl ?_
        obtain ⟨rfl, rfl⟩ := ai_smP h
        exact ev_end rfl
set_option maxHeartbeats 40000000 in
set_option maxRecDepth 100000 in
theorem Ef_status_0 (x1979 : Int32) (w : WX) (r : Int32) (w' : WX) (h : Ff_status_0 x1979 w = some (r, w')) (T : ai_H) : ai_ev D1 mf_status 0 [some (.ref 0), some (.int x1979)] [] (HX w T) 0 0 (some (.int r), HX w' T) := by
  unfold Ff_status_0 at h
  refine ev_go 1 (pc' := 1) (L' := [some (.ref 0), some (.int x1979)]) (st' := [.int x1979]) (h' := (HX w T)) (cs' := 0) (sl' := 0) rfl ?_
  rcases ai_ifE h with ⟨hc, h⟩ | ⟨hs0, h⟩
  · refine ev_swi (k := 0) (t := 28) rfl hc (by decide) (by decide) rfl rfl ?_
    refine ev_go 2 (pc' := 32) (L' := [some (.ref 0), some (.int x1979)]) (st' := [.int (a_f_refusedBad w)]) (h' := (HX w T)) (cs' := 0) (sl' := 0) rfl ?_
    obtain ⟨rfl, rfl⟩ := ai_smP h
    exact ev_end rfl
  rcases ai_ifE h with ⟨hc, h⟩ | ⟨hs1, h⟩
  · refine ev_swi (k := 1) (t := 33) rfl hc (by decide) (by decide) rfl rfl ?_
    refine ev_go 2 (pc' := 37) (L' := [some (.ref 0), some (.int x1979)]) (st' := [.int (a_f_refusedNo w)]) (h' := (HX w T)) (cs' := 0) (sl' := 0) rfl ?_
    obtain ⟨rfl, rfl⟩ := ai_smP h
    exact ev_end rfl
  rcases ai_ifE h with ⟨hc, h⟩ | ⟨hs2, h⟩
  · refine ev_swi (k := 2) (t := 38) rfl hc (by decide) (by decide) rfl rfl ?_
    refine ev_go 2 (pc' := 42) (L' := [some (.ref 0), some (.int x1979)]) (st' := [.int (a_f_refusedFull w)]) (h' := (HX w T)) (cs' := 0) (sl' := 0) rfl ?_
    obtain ⟨rfl, rfl⟩ := ai_smP h
    exact ev_end rfl
  refine ev_swo (t := 43) (lo := 0) (n := 3) rfl (sw_out 0 3 (fun k hk => by match k, hk with | 0, _ => exact hs0 | 1, _ => exact hs1 | 2, _ => exact hs2 | k + 3, hk => exact absurd hk (by omega))) ⟨rfl, by decide⟩ rfl ?_
  refine ev_go 2 (pc' := 45) (L' := [some (.ref 0), some (.int x1979)]) (st' := [.int (-1), .ref 0]) (h' := (HX w T)) (cs' := 0) (sl' := 0) rfl ?_
  obtain ⟨c1980, hq, h⟩ := ai_bdE h
  refine ev_call (M' := mf_bad) (L' := [some (.ref 0), some (.int (-1))]) (rest := []) (rv := some (.int c1980.1)) (h' := (HX c1980.2 T)) rfl (Ef_bad_0 (-1) w _ _ hq T) ?_
  show ai_ev D1 mf_status 48 [some (.ref 0), some (.int x1979)] [.int c1980.1] (HX c1980.2 T) 0 0 _
  obtain ⟨rfl, rfl⟩ := ai_smP h
  exact ev_end rfl
set_option maxHeartbeats 40000000 in
set_option maxRecDepth 100000 in
theorem Esea_countOf_1 (x1983 : Int32) (w : WX) (r : Int32) (w' : WX) (h : Fsea_countOf_1 x1983 w = some (r, w')) (T : ai_H) : ai_ev D1 msea_countOf 0 [some (.ref 1), some (.int x1983)] [] (HX w T) 0 0 (some (.int r), HX w' T) := by
  unfold Fsea_countOf_1 at h
  refine ev_go 1 (pc' := 1) (L' := [some (.ref 1), some (.int x1983)]) (st' := [.int x1983]) (h' := (HX w T)) (cs' := 0) (sl' := 0) rfl ?_
  rcases ai_ifE h with ⟨hc, h⟩ | ⟨hs0, h⟩
  · refine ev_swi (k := 0) (t := 44) rfl hc (by decide) (by decide) rfl rfl ?_
    refine ev_go 2 (pc' := 48) (L' := [some (.ref 1), some (.int x1983)]) (st' := [.int (a_s1_cells w)]) (h' := (HX w T)) (cs' := 0) (sl' := 0) rfl ?_
    obtain ⟨rfl, rfl⟩ := ai_smP h
    exact ev_end rfl
  rcases ai_ifE h with ⟨hc, h⟩ | ⟨hs1, h⟩
  · refine ev_swi (k := 1) (t := 49) rfl hc (by decide) (by decide) rfl rfl ?_
    refine ev_go 2 (pc' := 53) (L' := [some (.ref 1), some (.int x1983)]) (st' := [.int (a_s1_hour w)]) (h' := (HX w T)) (cs' := 0) (sl' := 0) rfl ?_
    obtain ⟨rfl, rfl⟩ := ai_smP h
    exact ev_end rfl
  rcases ai_ifE h with ⟨hc, h⟩ | ⟨hs2, h⟩
  · refine ev_swi (k := 2) (t := 54) rfl hc (by decide) (by decide) rfl rfl ?_
    refine ev_go 3 (pc' := 61) (L' := [some (.ref 1), some (.int x1983)]) (st' := [.int (a_s1things_count w)]) (h' := (HX w T)) (cs' := 0) (sl' := 0) rfl ?_
    obtain ⟨rfl, rfl⟩ := ai_smP h
    exact ev_end rfl
  rcases ai_ifE h with ⟨hc, h⟩ | ⟨hs3, h⟩
  · refine ev_swi (k := 3) (t := 62) rfl hc (by decide) (by decide) rfl rfl ?_
    refine ev_go 3 (pc' := 69) (L' := [some (.ref 1), some (.int x1983)]) (st' := [.int (a_s1lifts_count w)]) (h' := (HX w T)) (cs' := 0) (sl' := 0) rfl ?_
    obtain ⟨rfl, rfl⟩ := ai_smP h
    exact ev_end rfl
  rcases ai_ifE h with ⟨hc, h⟩ | ⟨hs4, h⟩
  · refine ev_swi (k := 4) (t := 70) rfl hc (by decide) (by decide) rfl rfl ?_
    refine ev_go 2 (pc' := 74) (L' := [some (.ref 1), some (.int x1983)]) (st' := [.int (a_s1_towns w)]) (h' := (HX w T)) (cs' := 0) (sl' := 0) rfl ?_
    obtain ⟨rfl, rfl⟩ := ai_smP h
    exact ev_end rfl
  rcases ai_ifE h with ⟨hc, h⟩ | ⟨hs5, h⟩
  · refine ev_swi (k := 5) (t := 75) rfl hc (by decide) (by decide) rfl rfl ?_
    refine ev_go 2 (pc' := 79) (L' := [some (.ref 1), some (.int x1983)]) (st' := [.int (a_s1_dams w)]) (h' := (HX w T)) (cs' := 0) (sl' := 0) rfl ?_
    obtain ⟨rfl, rfl⟩ := ai_smP h
    exact ev_end rfl
  rcases ai_ifE h with ⟨hc, h⟩ | ⟨hs6, h⟩
  · refine ev_swi (k := 6) (t := 80) rfl hc (by decide) (by decide) rfl rfl ?_
    refine ev_go 2 (pc' := 84) (L' := [some (.ref 1), some (.int x1983)]) (st' := [.int (a_s1_drops w)]) (h' := (HX w T)) (cs' := 0) (sl' := 0) rfl ?_
    obtain ⟨rfl, rfl⟩ := ai_smP h
    exact ev_end rfl
  refine ev_swo (t := 85) (lo := 0) (n := 7) rfl (sw_out 0 7 (fun k hk => by match k, hk with | 0, _ => exact hs0 | 1, _ => exact hs1 | 2, _ => exact hs2 | 3, _ => exact hs3 | 4, _ => exact hs4 | 5, _ => exact hs5 | 6, _ => exact hs6 | k + 7, hk => exact absurd hk (by omega))) ⟨rfl, by decide⟩ rfl ?_
  refine ev_go 2 (pc' := 89) (L' := [some (.ref 1), some (.int x1983)]) (st' := [.int (a_s1_undos w)]) (h' := (HX w T)) (cs' := 0) (sl' := 0) rfl ?_
  obtain ⟨rfl, rfl⟩ := ai_smP h
  exact ev_end rfl
set_option maxHeartbeats 40000000 in
set_option maxRecDepth 100000 in
theorem Ef_count_0 (x1981 : Int32) (w : WX) (r : Int32) (w' : WX) (h : Ff_count_0 x1981 w = some (r, w')) (T : ai_H) : ai_ev D1 mf_count 0 [some (.ref 0), some (.int x1981)] [] (HX w T) 0 0 (some (.int r), HX w' T) := by
  unfold Ff_count_0 at h
  refine ev_go 3 (pc' := 4) (L' := [some (.ref 0), some (.int x1981)]) (st' := [.int 8, .int 0, .int x1981]) (h' := (HX w T)) (cs' := 0) (sl' := 0) rfl ?_
  obtain ⟨c1982, hq, h⟩ := ai_bdE h
  refine ev_call (M' := mf_within) (L' := [some (.int x1981), some (.int 0), some (.int 8)]) (rest := []) (rv := some (.int c1982)) (h' := (HX w T)) rfl (Ef_within x1981 0 8 _ hq (HX w T)) ?_
  show ai_ev D1 mf_count 7 [some (.ref 0), some (.int x1981)] [.int c1982] (HX w T) 0 0 _
  rcases ai_ifE h with ⟨hc, h⟩ | ⟨hc, h⟩
  · refine ev_if_ne (t := 17) rfl rfl (fun c9 => absurd hc c9) (fun _ => ?_)
    refine ev_go 2 (pc' := 13) (L' := [some (.ref 0), some (.int x1981)]) (st' := [.int (-2), .ref 0]) (h' := (HX w T)) (cs' := 0) (sl' := 0) rfl ?_
    obtain ⟨c1985, hq, h⟩ := ai_bdE h
    refine ev_call (M' := mf_bad) (L' := [some (.ref 0), some (.int (-2))]) (rest := []) (rv := some (.int c1985.1)) (h' := (HX c1985.2 T)) rfl (Ef_bad_0 (-2) w _ _ hq T) ?_
    show ai_ev D1 mf_count 16 [some (.ref 0), some (.int x1981)] [.int c1985.1] (HX c1985.2 T) 0 0 _
    obtain ⟨rfl, rfl⟩ := ai_smP h
    exact ev_end rfl
  · refine ev_if_ne (t := 17) rfl rfl (fun _ => ?_) (fun c9 => absurd c9 hc)
    refine ev_go 2 (pc' := 20) (L' := [some (.ref 0), some (.int x1981)]) (st' := [.int 8, .int x1981]) (h' := (HX w T)) (cs' := 0) (sl' := 0) rfl ?_
    rcases ai_ifE h with ⟨hc, h⟩ | ⟨hc, h⟩
    · refine ev_ic_ne (t := 33) rfl rfl (fun c9 => absurd hc c9) (fun _ => ?_)
      refine ev_go 4 (pc' := 41) (L' := [some (.ref 0), some (.int x1981)]) (st' := [.int (a_text_length w)]) (h' := (HX w T)) (cs' := 0) (sl' := 0) rfl ?_
      obtain ⟨rfl, rfl⟩ := ai_smP h
      exact ev_end rfl
    · refine ev_ic_ne (t := 33) rfl rfl (fun _ => ?_) (fun c9 => absurd c9 hc)
      refine ev_go 3 (pc' := 38) (L' := [some (.ref 0), some (.int x1981)]) (st' := [.int x1981, .ref 1]) (h' := (HX w T)) (cs' := 0) (sl' := 0) rfl ?_
      obtain ⟨c1984, hq, h⟩ := ai_bdE h
      refine ev_call (M' := msea_countOf) (L' := [some (.ref 1), some (.int x1981)]) (rest := []) (rv := some (.int c1984.1)) (h' := (HX c1984.2 T)) rfl (Esea_countOf_1 x1981 w _ _ hq T) ?_
      show ai_ev D1 mf_count 41 [some (.ref 0), some (.int x1981)] [.int c1984.1] (HX c1984.2 T) 0 0 _
      obtain ⟨rfl, rfl⟩ := ai_smP h
      exact ev_end rfl
set_option maxHeartbeats 40000000 in
set_option maxRecDepth 100000 in
theorem EGsea_digestWaters_1 : ∀ n : Nat, (∀ (y1989 : Int64) (y1990 : Int64) (y1991 : Int32) (w : WX) (r : Int64) (w' : WX), Gsea_digestWaters_1 n 0 y1991 0 y1989 y1990 w = some (r, w') → ∀ (T : ai_H) (o6 : Option Value), ai_ev D1 msea_digestWaters 5 [some (.ref 1), some (.long y1989), none, some (.long y1990), none, some (.int y1991), o6] [] (HX w T) 0 0 (some (.long r), HX w' T)) ∧ (∀ (y1998 : Int64) (y1999 : Int64) (y2000 : Int32) (y2001 : Int32) (w : WX) (r : Int64) (w' : WX), Gsea_digestWaters_1 n 1 y2000 y2001 y1998 y1999 w = some (r, w') → ∀ (T : ai_H), ai_ev D1 msea_digestWaters 44 [some (.ref 1), some (.long y1998), none, some (.long y1999), none, some (.int y2000), some (.int y2001)] [] (HX w T) 0 0 (some (.long r), HX w' T)) ∧ (∀ (y2003 : Int64) (y2004 : Int64) (y2005 : Int32) (y2006 : Int32) (w : WX) (r : Int64) (w' : WX), Gsea_digestWaters_1 n 2 y2005 y2006 y2003 y2004 w = some (r, w') → ∀ (T : ai_H), ai_ev D1 msea_digestWaters 81 [some (.ref 1), some (.long y2003), none, some (.long y2004), none, some (.int y2005), some (.int y2006)] [] (HX w T) 0 0 (some (.long r), HX w' T)) ∧ (∀ (y1994 : Int64) (y1995 : Int64) (y1996 : Int32) (w : WX) (r : Int64) (w' : WX), Gsea_digestWaters_1 n 3 y1996 0 y1994 y1995 w = some (r, w') → ∀ (T : ai_H) (o6 : Option Value), ai_ev D1 msea_digestWaters 126 [some (.ref 1), some (.long y1994), none, some (.long y1995), none, some (.int y1996), o6] [] (HX w T) 0 0 (some (.long r), HX w' T)) := by
  intro n
  induction n with
  | zero =>
    exact ⟨(fun _ _ _ _ _ _ h => by cases h), (fun _ _ _ _ _ _ _ h => by cases h), (fun _ _ _ _ _ _ _ h => by cases h), (fun _ _ _ _ _ _ h => by cases h)⟩
  | succ n ih =>
    obtain ⟨ih0, ih1, ih2, ih3⟩ := ih
    refine ⟨?_, ?_, ?_, ?_⟩
    · intro y1989 y1990 y1991 w r w' h T o6
      simp only [Gsea_digestWaters_1] at h
      refine ev_go 2 (pc' := 8) (L' := [some (.ref 1), some (.long y1989), none, some (.long y1990), none, some (.int y1991), o6]) (st' := [.int 4, .int y1991]) (h' := (HX w T)) (cs' := 0) (sl' := 0) rfl ?_
      rcases ai_ifE h with ⟨hc, h⟩ | ⟨hc, h⟩
      · refine ev_ic_ge (t := 123) rfl rfl (fun _ => ?_) (fun c9 => absurd hc c9)
        refine ev_go 2 (pc' := 126) (L' := [some (.ref 1), some (.long y1989), none, some (.long y1990), none, some (.int 0), o6]) (st' := []) (h' := (HX w T)) (cs' := 0) (sl' := 0) rfl ?_
        exact ih3 _ _ _ _ _ _ h T _
      · refine ev_ic_ge (t := 123) rfl rfl (fun c9 => absurd c9 hc) (fun _ => ?_)
        refine ev_go 6 (pc' := 22) (L' := [some (.ref 1), some (.long y1989), none, some (.long y1990), none, some (.int y1991), o6]) (st' := [.int y1991, .ref 2, .long (31 * y1990)]) (h' := (HX w T)) (cs' := 0) (sl' := 0) rfl ?_
        obtain ⟨v1992, hq, h⟩ := ai_bdE h
        refine ev_iald rfl rfl hq ?_
        refine ev_go 9 (pc' := 37) (L' := [some (.ref 1), some (.long y1989), none, some (.long ((31 * y1990) + (v1992).toInt64)), none, some (.int y1991), o6]) (st' := [.int y1991, .ref 3, .long (31 * ((31 * y1990) + (v1992).toInt64))]) (h' := (HX w T)) (cs' := 0) (sl' := 0) rfl ?_
        obtain ⟨v1993, hq, h⟩ := ai_bdE h
        refine ev_iald rfl rfl hq ?_
        refine ev_go 5 (pc' := 44) (L' := [some (.ref 1), some (.long y1989), none, some (.long ((31 * ((31 * y1990) + (v1992).toInt64)) + (v1993).toInt64)), none, some (.int y1991), some (.int 0)]) (st' := []) (h' := (HX w T)) (cs' := 0) (sl' := 0) rfl ?_
        exact ih1 _ _ _ _ _ _ _ h T
    · intro y1998 y1999 y2000 y2001 w r w' h T
      simp only [Gsea_digestWaters_1] at h
      refine ev_go 2 (pc' := 48) (L' := [some (.ref 1), some (.long y1998), none, some (.long y1999), none, some (.int y2000), some (.int y2001)]) (st' := [.int 6, .int y2001]) (h' := (HX w T)) (cs' := 0) (sl' := 0) rfl ?_
      rcases ai_ifE h with ⟨hc, h⟩ | ⟨hc, h⟩
      · refine ev_ic_ge (t := 78) rfl rfl (fun _ => ?_) (fun c9 => absurd hc c9)
        refine ev_go 2 (pc' := 81) (L' := [some (.ref 1), some (.long y1998), none, some (.long y1999), none, some (.int y2000), some (.int 0)]) (st' := []) (h' := (HX w T)) (cs' := 0) (sl' := 0) rfl ?_
        exact ih2 _ _ _ _ _ _ _ h T
      · refine ev_ic_ge (t := 78) rfl rfl (fun c9 => absurd c9 hc) (fun _ => ?_)
        refine ev_go 10 (pc' := 68) (L' := [some (.ref 1), some (.long y1998), none, some (.long y1999), none, some (.int y2000), some (.int y2001)]) (st' := [.int ((y2000 * 6) + y2001), .ref 4, .long (31 * y1999)]) (h' := (HX w T)) (cs' := 0) (sl' := 0) rfl ?_
        obtain ⟨v2002, hq, h⟩ := ai_bdE h
        refine ev_iald rfl rfl hq ?_
        refine ev_go 5 (pc' := 44) (L' := [some (.ref 1), some (.long y1998), none, some (.long ((31 * y1999) + (v2002).toInt64)), none, some (.int y2000), some (.int (y2001 + 1))]) (st' := []) (h' := (HX w T)) (cs' := 0) (sl' := 0) rfl ?_
        exact ih1 _ _ _ _ _ _ _ h T
    · intro y2003 y2004 y2005 y2006 w r w' h T
      simp only [Gsea_digestWaters_1] at h
      refine ev_go 3 (pc' := 87) (L' := [some (.ref 1), some (.long y2003), none, some (.long y2004), none, some (.int y2005), some (.int y2006)]) (st' := [.int (a_s1_cells w), .int y2006]) (h' := (HX w T)) (cs' := 0) (sl' := 0) rfl ?_
      rcases ai_ifE h with ⟨hc, h⟩ | ⟨hc, h⟩
      · refine ev_ic_ge (t := 117) rfl rfl (fun _ => ?_) (fun c9 => absurd hc c9)
        refine ev_go 2 (pc' := 5) (L' := [some (.ref 1), some (.long y2003), none, some (.long y2004), none, some (.int (y2005 + 1)), some (.int y2006)]) (st' := []) (h' := (HX w T)) (cs' := 0) (sl' := 0) rfl ?_
        exact ih0 _ _ _ _ _ _ h T _
      · refine ev_ic_ge (t := 117) rfl rfl (fun c9 => absurd c9 hc) (fun _ => ?_)
        refine ev_go 10 (pc' := 107) (L' := [some (.ref 1), some (.long y2003), none, some (.long y2004), none, some (.int y2005), some (.int y2006)]) (st' := [.int ((y2005 * 6) + y2006), .ref 5, .long (31 * y2004)]) (h' := (HX w T)) (cs' := 0) (sl' := 0) rfl ?_
        obtain ⟨v2007, hq, h⟩ := ai_bdE h
        refine ev_iald rfl rfl hq ?_
        refine ev_go 5 (pc' := 81) (L' := [some (.ref 1), some (.long y2003), none, some (.long ((31 * y2004) + (v2007).toInt64)), none, some (.int y2005), some (.int (y2006 + 1))]) (st' := []) (h' := (HX w T)) (cs' := 0) (sl' := 0) rfl ?_
        exact ih2 _ _ _ _ _ _ _ h T
    · intro y1994 y1995 y1996 w r w' h T o6
      simp only [Gsea_digestWaters_1] at h
      refine ev_go 2 (pc' := 129) (L' := [some (.ref 1), some (.long y1994), none, some (.long y1995), none, some (.int y1996), o6]) (st' := [.int 3, .int y1996]) (h' := (HX w T)) (cs' := 0) (sl' := 0) rfl ?_
      rcases ai_ifE h with ⟨hc, h⟩ | ⟨hc, h⟩
      · refine ev_ic_ge (t := 153) rfl rfl (fun _ => ?_) (fun c9 => absurd hc c9)
        refine ev_go 1 (pc' := 154) (L' := [some (.ref 1), some (.long y1994), none, some (.long y1995), none, some (.int y1996), o6]) (st' := [.long y1995]) (h' := (HX w T)) (cs' := 0) (sl' := 0) rfl ?_
        obtain ⟨rfl, rfl⟩ := ai_smP h
        exact ev_end rfl
      · refine ev_ic_ge (t := 153) rfl rfl (fun c9 => absurd c9 hc) (fun _ => ?_)
        refine ev_go 6 (pc' := 143) (L' := [some (.ref 1), some (.long y1994), none, some (.long y1995), none, some (.int y1996), o6]) (st' := [.int y1996, .ref 6, .long (31 * y1995)]) (h' := (HX w T)) (cs' := 0) (sl' := 0) rfl ?_
        obtain ⟨v1997, hq, h⟩ := ai_bdE h
        refine ev_iald rfl rfl hq ?_
        refine ev_go 5 (pc' := 126) (L' := [some (.ref 1), some (.long y1994), none, some (.long ((31 * y1995) + (v1997).toInt64)), none, some (.int (y1996 + 1)), o6]) (st' := []) (h' := (HX w T)) (cs' := 0) (sl' := 0) rfl ?_
        exact ih3 _ _ _ _ _ _ h T _
set_option maxHeartbeats 40000000 in
set_option maxRecDepth 100000 in
theorem Esea_digestWaters_1 (n : Nat) (x1988 : Int64) (w : WX) (r : Int64) (w' : WX) (h : Fsea_digestWaters_1 n x1988 w = some (r, w')) (T : ai_H) : ai_ev D1 msea_digestWaters 0 [some (.ref 1), some (.long x1988), none, none, none, none, none] [] (HX w T) 0 0 (some (.long r), HX w' T) := by
  unfold Fsea_digestWaters_1 at h
  obtain ⟨ih0, ih1, ih2, ih3⟩ := EGsea_digestWaters_1 n
  refine ev_go 4 (pc' := 5) (L' := [some (.ref 1), some (.long x1988), none, some (.long x1988), none, some (.int 0), none]) (st' := []) (h' := (HX w T)) (cs' := 0) (sl' := 0) rfl ?_
  exact ih0 _ _ _ _ _ _ h T _
