set_option maxHeartbeats 40000000 in
set_option maxRecDepth 100000 in
theorem Ethg_copyFrom_7_26 (w : WX) (w' : WX) (h : Fthg_copyFrom_7_26 w = some w') (T : ai_H) : ai_ev D1 mthg_copyFrom 0 [some (.ref 7), some (.ref 26)] [] (HX w T) 0 0 (none, HX w' T) := by
  unfold Fthg_copyFrom_7_26 at h
  refine ev_go 3 (pc' := 5) (L' := [some (.ref 7), some (.ref 26)]) (st' := [.int (a_s2things_count w), .ref 7]) (h' := (HX w T)) (cs' := 0) (sl' := 0) rfl ?_
  refine ev_step rfl rfl rfl (PFX_5_9_7 rfl) ?_
  refine ev_go 7 (pc' := 20) (L' := [some (.ref 7), some (.ref 26)]) (st' := [.int 6, .int 0, .ref 8, .int 0, .ref 27]) (h' := (HX (u_s1things_count w (a_s2things_count w)) T)) (cs' := 0) (sl' := 0) rfl ?_
  obtain ⟨q1337, hq, h⟩ := ai_bdE h
  refine ev_cpy rfl rfl rfl rfl rfl rfl hq ?_
  rw [HXs_8]
  refine ev_go 7 (pc' := 35) (L' := [some (.ref 7), some (.ref 26)]) (st' := [.int 6, .int 0, .ref 9, .int 0, .ref 28]) (h' := (HX (u_s1things_kinds (u_s1things_count w (a_s2things_count w)) q1337) T)) (cs' := 0) (sl' := 0) rfl ?_
  obtain ⟨q1338, hq, h⟩ := ai_bdE h
  refine ev_cpy rfl rfl rfl rfl rfl rfl hq ?_
  rw [HXs_9]
  refine ev_go 7 (pc' := 50) (L' := [some (.ref 7), some (.ref 26)]) (st' := [.int 6, .int 0, .ref 10, .int 0, .ref 29]) (h' := (HX (u_s1things_weights (u_s1things_kinds (u_s1things_count w (a_s2things_count w)) q1337) q1338) T)) (cs' := 0) (sl' := 0) rfl ?_
  obtain ⟨q1339, hq, h⟩ := ai_bdE h
  refine ev_cpy rfl rfl rfl rfl rfl rfl hq ?_
  rw [HXs_10]
  refine ev_go 7 (pc' := 65) (L' := [some (.ref 7), some (.ref 26)]) (st' := [.int 6, .int 0, .ref 11, .int 0, .ref 30]) (h' := (HX (u_s1things_volumes (u_s1things_weights (u_s1things_kinds (u_s1things_count w (a_s2things_count w)) q1337) q1338) q1339) T)) (cs' := 0) (sl' := 0) rfl ?_
  obtain ⟨q1340, hq, h⟩ := ai_bdE h
  refine ev_cpy rfl rfl rfl rfl rfl rfl hq ?_
  rw [HXs_11]
  obtain rfl := Option.some.inj h
  exact ev_end rfl
set_option maxHeartbeats 40000000 in
set_option maxRecDepth 100000 in
theorem Elift_copyFrom_12_31 (w : WX) (w' : WX) (h : Flift_copyFrom_12_31 w = some w') (T : ai_H) : ai_ev D1 mlift_copyFrom 0 [some (.ref 12), some (.ref 31)] [] (HX w T) 0 0 (none, HX w' T) := by
  unfold Flift_copyFrom_12_31 at h
  refine ev_go 3 (pc' := 5) (L' := [some (.ref 12), some (.ref 31)]) (st' := [.int (a_s2lifts_count w), .ref 12]) (h' := (HX w T)) (cs' := 0) (sl' := 0) rfl ?_
  refine ev_step rfl rfl rfl (PFX_1_9_12 rfl) ?_
  refine ev_go 7 (pc' := 20) (L' := [some (.ref 12), some (.ref 31)]) (st' := [.int 10, .int 0, .ref 13, .int 0, .ref 32]) (h' := (HX (u_s1lifts_count w (a_s2lifts_count w)) T)) (cs' := 0) (sl' := 0) rfl ?_
  obtain ⟨q1342, hq, h⟩ := ai_bdE h
  refine ev_cpy rfl rfl rfl rfl rfl rfl hq ?_
  rw [HXs_13]
  refine ev_go 7 (pc' := 35) (L' := [some (.ref 12), some (.ref 31)]) (st' := [.int 10, .int 0, .ref 14, .int 0, .ref 33]) (h' := (HX (u_s1lifts_froms (u_s1lifts_count w (a_s2lifts_count w)) q1342) T)) (cs' := 0) (sl' := 0) rfl ?_
  obtain ⟨q1343, hq, h⟩ := ai_bdE h
  refine ev_cpy rfl rfl rfl rfl rfl rfl hq ?_
  rw [HXs_14]
  refine ev_go 7 (pc' := 50) (L' := [some (.ref 12), some (.ref 31)]) (st' := [.int 10, .int 0, .ref 15, .int 0, .ref 34]) (h' := (HX (u_s1lifts_tos (u_s1lifts_froms (u_s1lifts_count w (a_s2lifts_count w)) q1342) q1343) T)) (cs' := 0) (sl' := 0) rfl ?_
  obtain ⟨q1344, hq, h⟩ := ai_bdE h
  refine ev_cpy rfl rfl rfl rfl rfl rfl hq ?_
  rw [HXs_15]
  obtain rfl := Option.some.inj h
  exact ev_end rfl
set_option maxHeartbeats 40000000 in
set_option maxRecDepth 100000 in
theorem Esea_copyFrom_1_20 (w : WX) (w' : WX) (h : Fsea_copyFrom_1_20 w = some w') (T : ai_H) : ai_ev D1 msea_copyFrom 0 [some (.ref 1), some (.ref 20)] [] (HX w T) 0 0 (none, HX w' T) := by
  unfold Fsea_copyFrom_1_20 at h
  refine ev_go 3 (pc' := 5) (L' := [some (.ref 1), some (.ref 20)]) (st' := [.int (a_s2_cells w), .ref 1]) (h' := (HX w T)) (cs' := 0) (sl' := 0) rfl ?_
  refine ev_step rfl rfl rfl (PFX_2_9_1 rfl) ?_
  refine ev_go 3 (pc' := 13) (L' := [some (.ref 1), some (.ref 20)]) (st' := [.int (a_s2_hour w), .ref 1]) (h' := (HX (u_s1_cells w (a_s2_cells w)) T)) (cs' := 0) (sl' := 0) rfl ?_
  refine ev_step rfl rfl rfl (PFX_2_15_1 rfl) ?_
  refine ev_go 3 (pc' := 21) (L' := [some (.ref 1), some (.ref 20)]) (st' := [.int (a_s2_dams w), .ref 1]) (h' := (HX (u_s1_hour (u_s1_cells w (a_s2_cells w)) (a_s2_hour w)) T)) (cs' := 0) (sl' := 0) rfl ?_
  refine ev_step rfl rfl rfl (PFX_2_18_1 rfl) ?_
  refine ev_go 7 (pc' := 35) (L' := [some (.ref 1), some (.ref 20)]) (st' := [.int 4, .int 0, .ref 2, .int 0, .ref 21]) (h' := (HX (u_s1_dams (u_s1_hour (u_s1_cells w (a_s2_cells w)) (a_s2_hour w)) (a_s2_dams w)) T)) (cs' := 0) (sl' := 0) rfl ?_
  obtain ⟨q1332, hq, h⟩ := ai_bdE h
  refine ev_cpy rfl rfl rfl rfl rfl rfl hq ?_
  rw [HXs_2]
  refine ev_go 7 (pc' := 49) (L' := [some (.ref 1), some (.ref 20)]) (st' := [.int 4, .int 0, .ref 3, .int 0, .ref 22]) (h' := (HX (u_s1_densities (u_s1_dams (u_s1_hour (u_s1_cells w (a_s2_cells w)) (a_s2_hour w)) (a_s2_dams w)) q1332) T)) (cs' := 0) (sl' := 0) rfl ?_
  obtain ⟨q1333, hq, h⟩ := ai_bdE h
  refine ev_cpy rfl rfl rfl rfl rfl rfl hq ?_
  rw [HXs_3]
  refine ev_go 7 (pc' := 64) (L' := [some (.ref 1), some (.ref 20)]) (st' := [.int 24, .int 0, .ref 4, .int 0, .ref 23]) (h' := (HX (u_s1_currents (u_s1_densities (u_s1_dams (u_s1_hour (u_s1_cells w (a_s2_cells w)) (a_s2_hour w)) (a_s2_dams w)) q1332) q1333) T)) (cs' := 0) (sl' := 0) rfl ?_
  obtain ⟨q1334, hq, h⟩ := ai_bdE h
  refine ev_cpy rfl rfl rfl rfl rfl rfl hq ?_
  rw [HXs_4]
  refine ev_go 7 (pc' := 79) (L' := [some (.ref 1), some (.ref 20)]) (st' := [.int 24, .int 0, .ref 5, .int 0, .ref 24]) (h' := (HX (u_s1_tides (u_s1_currents (u_s1_densities (u_s1_dams (u_s1_hour (u_s1_cells w (a_s2_cells w)) (a_s2_hour w)) (a_s2_dams w)) q1332) q1333) q1334) T)) (cs' := 0) (sl' := 0) rfl ?_
  obtain ⟨q1335, hq, h⟩ := ai_bdE h
  refine ev_cpy rfl rfl rfl rfl rfl rfl hq ?_
  rw [HXs_5]
  refine ev_go 7 (pc' := 93) (L' := [some (.ref 1), some (.ref 20)]) (st' := [.int 3, .int 0, .ref 6, .int 0, .ref 25]) (h' := (HX (u_s1_thicks (u_s1_tides (u_s1_currents (u_s1_densities (u_s1_dams (u_s1_hour (u_s1_cells w (a_s2_cells w)) (a_s2_hour w)) (a_s2_dams w)) q1332) q1333) q1334) q1335) T)) (cs' := 0) (sl' := 0) rfl ?_
  obtain ⟨q1336, hq, h⟩ := ai_bdE h
  refine ev_cpy rfl rfl rfl rfl rfl rfl hq ?_
  rw [HXs_6]
  refine ev_go 4 (pc' := 104) (L' := [some (.ref 1), some (.ref 20)]) (st' := [.ref 26, .ref 7]) (h' := (HX (u_s1_skins (u_s1_thicks (u_s1_tides (u_s1_currents (u_s1_densities (u_s1_dams (u_s1_hour (u_s1_cells w (a_s2_cells w)) (a_s2_hour w)) (a_s2_dams w)) q1332) q1333) q1334) q1335) q1336) T)) (cs' := 0) (sl' := 0) rfl ?_
  obtain ⟨c1341, hq, h⟩ := ai_bdE h
  refine ev_call (M' := mthg_copyFrom) (L' := [some (.ref 7), some (.ref 26)]) (rest := []) (rv := none) (h' := (HX c1341 T)) rfl (Ethg_copyFrom_7_26 (u_s1_skins (u_s1_thicks (u_s1_tides (u_s1_currents (u_s1_densities (u_s1_dams (u_s1_hour (u_s1_cells w (a_s2_cells w)) (a_s2_hour w)) (a_s2_dams w)) q1332) q1333) q1334) q1335) q1336) _ hq T) ?_
  show ai_ev D1 msea_copyFrom 107 [some (.ref 1), some (.ref 20)] [] (HX c1341 T) 0 0 _
  refine ev_go 4 (pc' := 115) (L' := [some (.ref 1), some (.ref 20)]) (st' := [.ref 31, .ref 12]) (h' := (HX c1341 T)) (cs' := 0) (sl' := 0) rfl ?_
  obtain ⟨c1345, hq, h⟩ := ai_bdE h
  refine ev_call (M' := mlift_copyFrom) (L' := [some (.ref 12), some (.ref 31)]) (rest := []) (rv := none) (h' := (HX c1345 T)) rfl (Elift_copyFrom_12_31 c1341 _ hq T) ?_
  show ai_ev D1 msea_copyFrom 118 [some (.ref 1), some (.ref 20)] [] (HX c1345 T) 0 0 _
  refine ev_go 3 (pc' := 123) (L' := [some (.ref 1), some (.ref 20)]) (st' := [.int (a_s2_towns c1345), .ref 1]) (h' := (HX c1345 T)) (cs' := 0) (sl' := 0) rfl ?_
  refine ev_step rfl rfl rfl (PFX_2_51_1 rfl) ?_
  refine ev_go 7 (pc' := 138) (L' := [some (.ref 1), some (.ref 20)]) (st' := [.int 6, .int 0, .ref 16, .int 0, .ref 35]) (h' := (HX (u_s1_towns c1345 (a_s2_towns c1345)) T)) (cs' := 0) (sl' := 0) rfl ?_
  obtain ⟨q1346, hq, h⟩ := ai_bdE h
  refine ev_cpy rfl rfl rfl rfl rfl rfl hq ?_
  rw [HXs_16]
  refine ev_go 3 (pc' := 146) (L' := [some (.ref 1), some (.ref 20)]) (st' := [.int (a_s2_drops c1345), .ref 1]) (h' := (HX (u_s1_townPlaces (u_s1_towns c1345 (a_s2_towns c1345)) q1346) T)) (cs' := 0) (sl' := 0) rfl ?_
  refine ev_step rfl rfl rfl (PFX_2_57_1 rfl) ?_
  refine ev_go 7 (pc' := 161) (L' := [some (.ref 1), some (.ref 20)]) (st' := [.int 6, .int 0, .ref 17, .int 0, .ref 36]) (h' := (HX (u_s1_drops (u_s1_townPlaces (u_s1_towns c1345 (a_s2_towns c1345)) q1346) (a_s2_drops c1345)) T)) (cs' := 0) (sl' := 0) rfl ?_
  obtain ⟨q1347, hq, h⟩ := ai_bdE h
  refine ev_cpy rfl rfl rfl rfl rfl rfl hq ?_
  rw [HXs_17]
  refine ev_go 7 (pc' := 176) (L' := [some (.ref 1), some (.ref 20)]) (st' := [.int 6, .int 0, .ref 18, .int 0, .ref 37]) (h' := (HX (u_s1_dropLayers (u_s1_drops (u_s1_townPlaces (u_s1_towns c1345 (a_s2_towns c1345)) q1346) (a_s2_drops c1345)) q1347) T)) (cs' := 0) (sl' := 0) rfl ?_
  obtain ⟨q1348, hq, h⟩ := ai_bdE h
  refine ev_cpy rfl rfl rfl rfl rfl rfl hq ?_
  rw [HXs_18]
  refine ev_go 3 (pc' := 184) (L' := [some (.ref 1), some (.ref 20)]) (st' := [.int (a_s2_undos c1345), .ref 1]) (h' := (HX (u_s1_dropFloats (u_s1_dropLayers (u_s1_drops (u_s1_townPlaces (u_s1_towns c1345 (a_s2_towns c1345)) q1346) (a_s2_drops c1345)) q1347) q1348) T)) (cs' := 0) (sl' := 0) rfl ?_
  refine ev_step rfl rfl rfl (PFX_2_66_1 rfl) ?_
  refine ev_go 7 (pc' := 199) (L' := [some (.ref 1), some (.ref 20)]) (st' := [.int 10, .int 0, .ref 19, .int 0, .ref 38]) (h' := (HX (u_s1_undos (u_s1_dropFloats (u_s1_dropLayers (u_s1_drops (u_s1_townPlaces (u_s1_towns c1345 (a_s2_towns c1345)) q1346) (a_s2_drops c1345)) q1347) q1348) (a_s2_undos c1345)) T)) (cs' := 0) (sl' := 0) rfl ?_
  obtain ⟨q1349, hq, h⟩ := ai_bdE h
  refine ev_cpy rfl rfl rfl rfl rfl rfl hq ?_
  rw [HXs_19]
  obtain rfl := Option.some.inj h
  exact ev_end rfl
set_option maxHeartbeats 40000000 in
set_option maxRecDepth 100000 in
theorem Ef_read_0 (n : Nat) (w : WX) (r : Int32) (w' : WX) (h : Ff_read_0 n w = some (r, w')) (T : ai_H) : ai_ev D1 mf_read 0 [some (.ref 0), none] [] (HX w T) 0 0 (some (.int r), HX w' T) := by
  unfold Ff_read_0 at h
  refine ev_go 4 (pc' := 8) (L' := [some (.ref 0), none]) (st' := [.ref 20, .ref 78]) (h' := (HX w T)) (cs' := 0) (sl' := 0) rfl ?_
  obtain ⟨c1331, hq, h⟩ := ai_bdE h
  refine ev_call (M' := mtxt_tell) (L' := [some (.ref 78), some (.ref 20), none, none, none, none]) (rest := []) (rv := some (.int c1331.1)) (h' := (HX c1331.2 T)) rfl (Etxt_tell_78_20 n w _ _ hq T) ?_
  show ai_ev D1 mf_read 11 [some (.ref 0), none] [.int c1331.1] (HX c1331.2 T) 0 0 _
  refine ev_go 3 (pc' := 14) (L' := [some (.ref 0), some (.int c1331.1)]) (st' := [.int (-1), .int c1331.1]) (h' := (HX c1331.2 T)) (cs' := 0) (sl' := 0) rfl ?_
  rcases ai_ifE h with ⟨hc, h⟩ | ⟨hc, h⟩
  · refine ev_ic_eq (t := 22) rfl rfl (fun _ => ?_) (fun c9 => absurd hc c9)
    refine ev_go 4 (pc' := 30) (L' := [some (.ref 0), some (.int c1331.1)]) (st' := [.int (-1), .int (a_text_refusedItem c1331.2)]) (h' := (HX c1331.2 T)) (cs' := 0) (sl' := 0) rfl ?_
    rcases ai_ifE h with ⟨hc, h⟩ | ⟨hc, h⟩
    · refine ev_ic_eq (t := 45) rfl rfl (fun _ => ?_) (fun c9 => absurd hc c9)
      refine ev_go 4 (pc' := 53) (L' := [some (.ref 0), some (.int c1331.1)]) (st' := [.ref 20, .ref 1]) (h' := (HX c1331.2 T)) (cs' := 0) (sl' := 0) rfl ?_
      obtain ⟨c1350, hq, h⟩ := ai_bdE h
      refine ev_call (M' := msea_copyFrom) (L' := [some (.ref 1), some (.ref 20)]) (rest := []) (rv := none) (h' := (HX c1350 T)) rfl (Esea_copyFrom_1_20 c1331.2 _ hq T) ?_
      show ai_ev D1 mf_read 56 [some (.ref 0), some (.int c1331.1)] [] (HX c1350 T) 0 0 _
      refine ev_go 3 (pc' := 63) (L' := [some (.ref 0), some (.int c1331.1)]) (st' := [.int (a_text_items c1350)]) (h' := (HX c1350 T)) (cs' := 0) (sl' := 0) rfl ?_
      obtain ⟨rfl, rfl⟩ := ai_smP h
      exact ev_end rfl
    · refine ev_ic_eq (t := 45) rfl rfl (fun c9 => absurd c9 hc) (fun _ => ?_)
      refine ev_go 5 (pc' := 44) (L' := [some (.ref 0), some (.int c1331.1)]) (st' := [.int ((-1000) - (a_text_refusedItem c1331.2))]) (h' := (HX c1331.2 T)) (cs' := 0) (sl' := 0) rfl ?_
      obtain ⟨rfl, rfl⟩ := ai_smP h
      exact ev_end rfl
  · refine ev_ic_eq (t := 22) rfl rfl (fun c9 => absurd c9 hc) (fun _ => ?_)
    refine ev_go 3 (pc' := 21) (L' := [some (.ref 0), some (.int c1331.1)]) (st' := [.int ((-10) - c1331.1)]) (h' := (HX c1331.2 T)) (cs' := 0) (sl' := 0) rfl ?_
    obtain ⟨rfl, rfl⟩ := ai_smP h
    exact ev_end rfl
set_option maxHeartbeats 40000000 in
set_option maxRecDepth 100000 in
theorem Esea_goOn_1 (x1352 : Int32) (w : WX) (r : Int32) (w' : WX) (h : Fsea_goOn_1 x1352 w = some (r, w')) (T : ai_H) : ai_ev D1 msea_goOn 0 [some (.ref 1), some (.int x1352)] [] (HX w T) 0 0 (some (.int r), HX w' T) := by
  unfold Fsea_goOn_1 at h
  refine ev_go 3 (pc' := 4) (L' := [some (.ref 1), some (.int x1352)]) (st' := [.int 99, .int 1, .int x1352]) (h' := (HX w T)) (cs' := 0) (sl' := 0) rfl ?_
  obtain ⟨c1353, hq, h⟩ := ai_bdE h
  refine ev_call (M' := mf_within) (L' := [some (.int x1352), some (.int 1), some (.int 99)]) (rest := []) (rv := some (.int c1353)) (h' := (HX w T)) rfl (Ef_within x1352 1 99 _ hq (HX w T)) ?_
  show ai_ev D1 msea_goOn 7 [some (.ref 1), some (.int x1352)] [.int c1353] (HX w T) 0 0 _
  rcases ai_ifE h with ⟨hc, h⟩ | ⟨hc, h⟩
  · refine ev_if_ne (t := 13) rfl rfl (fun c9 => absurd hc c9) (fun _ => ?_)
    refine ev_go 1 (pc' := 12) (L' := [some (.ref 1), some (.int x1352)]) (st' := [.int (-2)]) (h' := (HX w T)) (cs' := 0) (sl' := 0) rfl ?_
    obtain ⟨rfl, rfl⟩ := ai_smP h
    exact ev_end rfl
  · refine ev_if_ne (t := 13) rfl rfl (fun _ => ?_) (fun c9 => absurd c9 hc)
    refine ev_go 5 (pc' := 22) (L' := [some (.ref 1), some (.int x1352)]) (st' := [.int 999, .int ((a_s1_hour w) + x1352)]) (h' := (HX w T)) (cs' := 0) (sl' := 0) rfl ?_
    rcases ai_ifE h with ⟨hc, h⟩ | ⟨hc, h⟩
    · refine ev_ic_le (t := 28) rfl rfl (fun _ => ?_) (fun c9 => absurd hc c9)
      refine ev_go 3 (pc' := 34) (L' := [some (.ref 1), some (.int x1352)]) (st' := [.int 10, .int (a_s1_undos w)]) (h' := (HX w T)) (cs' := 0) (sl' := 0) rfl ?_
      rcases ai_ifE h with ⟨hc, h⟩ | ⟨hc, h⟩
      · refine ev_ic_lt (t := 58) rfl rfl (fun _ => ?_) (fun c9 => absurd hc c9)
        refine ev_go 6 (pc' := 70) (L' := [some (.ref 1), some (.int x1352)]) (st' := [.int (a_s1_hour w), .int (a_s1_undos w), .ref 19]) (h' := (HX w T)) (cs' := 0) (sl' := 0) rfl ?_
        obtain ⟨q1354, hq, h⟩ := ai_bdE h
        refine ev_iast rfl rfl hq ?_
        rw [HXs_19]
        refine ev_go 5 (pc' := 78) (L' := [some (.ref 1), some (.int x1352)]) (st' := [.int ((a_s1_undos w) + 1), .ref 1]) (h' := (HX (u_s1_hoursBefore w q1354) T)) (cs' := 0) (sl' := 0) rfl ?_
        refine ev_step rfl rfl rfl (PFX_2_66_1 rfl) ?_
        refine ev_go 5 (pc' := 88) (L' := [some (.ref 1), some (.int x1352)]) (st' := [.int ((a_s1_hour w) + x1352), .ref 1]) (h' := (HX (u_s1_undos (u_s1_hoursBefore w q1354) ((a_s1_undos w) + 1)) T)) (cs' := 0) (sl' := 0) rfl ?_
        refine ev_step rfl rfl rfl (PFX_2_15_1 rfl) ?_
        refine ev_go 2 (pc' := 95) (L' := [some (.ref 1), some (.int x1352)]) (st' := [.int ((a_s1_hour w) + x1352)]) (h' := (HX (u_s1_hour (u_s1_undos (u_s1_hoursBefore w q1354) ((a_s1_undos w) + 1)) ((a_s1_hour w) + x1352)) T)) (cs' := 0) (sl' := 0) rfl ?_
        obtain ⟨rfl, rfl⟩ := ai_smP h
        exact ev_end rfl
      · refine ev_ic_lt (t := 58) rfl rfl (fun c9 => absurd c9 hc) (fun _ => ?_)
        refine ev_go 7 (pc' := 49) (L' := [some (.ref 1), some (.int x1352)]) (st' := [.int 9, .int 0, .ref 19, .int 1, .ref 19]) (h' := (HX w T)) (cs' := 0) (sl' := 0) rfl ?_
        obtain ⟨q1355, hq, h⟩ := ai_bdE h
        refine ev_cpy rfl rfl rfl rfl rfl rfl hq ?_
        rw [HXs_19]
        refine ev_go 2 (pc' := 55) (L' := [some (.ref 1), some (.int x1352)]) (st' := [.int 9, .ref 1]) (h' := (HX (u_s1_hoursBefore w q1355) T)) (cs' := 0) (sl' := 0) rfl ?_
        refine ev_step rfl rfl rfl (PFX_2_66_1 rfl) ?_
        refine ev_go 6 (pc' := 70) (L' := [some (.ref 1), some (.int x1352)]) (st' := [.int (a_s1_hour w), .int 9, .ref 19]) (h' := (HX (u_s1_undos (u_s1_hoursBefore w q1355) 9) T)) (cs' := 0) (sl' := 0) rfl ?_
        obtain ⟨q1356, hq, h⟩ := ai_bdE h
        refine ev_iast rfl rfl hq ?_
        rw [HXs_19]
        refine ev_go 5 (pc' := 78) (L' := [some (.ref 1), some (.int x1352)]) (st' := [.int 10, .ref 1]) (h' := (HX (u_s1_hoursBefore (u_s1_undos (u_s1_hoursBefore w q1355) 9) q1356) T)) (cs' := 0) (sl' := 0) rfl ?_
        refine ev_step rfl rfl rfl (PFX_2_66_1 rfl) ?_
        refine ev_go 5 (pc' := 88) (L' := [some (.ref 1), some (.int x1352)]) (st' := [.int ((a_s1_hour w) + x1352), .ref 1]) (h' := (HX (u_s1_undos (u_s1_hoursBefore (u_s1_undos (u_s1_hoursBefore w q1355) 9) q1356) 10) T)) (cs' := 0) (sl' := 0) rfl ?_
        refine ev_step rfl rfl rfl (PFX_2_15_1 rfl) ?_
        refine ev_go 2 (pc' := 95) (L' := [some (.ref 1), some (.int x1352)]) (st' := [.int ((a_s1_hour w) + x1352)]) (h' := (HX (u_s1_hour (u_s1_undos (u_s1_hoursBefore (u_s1_undos (u_s1_hoursBefore w q1355) 9) q1356) 10) ((a_s1_hour w) + x1352)) T)) (cs' := 0) (sl' := 0) rfl ?_
        obtain ⟨rfl, rfl⟩ := ai_smP h
        exact ev_end rfl
    · refine ev_ic_le (t := 28) rfl rfl (fun c9 => absurd c9 hc) (fun _ => ?_)
      refine ev_go 1 (pc' := 27) (L' := [some (.ref 1), some (.int x1352)]) (st' := [.int (-3)]) (h' := (HX w T)) (cs' := 0) (sl' := 0) rfl ?_
      obtain ⟨rfl, rfl⟩ := ai_smP h
      exact ev_end rfl
set_option maxHeartbeats 40000000 in
set_option maxRecDepth 100000 in
theorem Ef_hours_0 (x1351 : Int32) (w : WX) (r : Int32) (w' : WX) (h : Ff_hours_0 x1351 w = some (r, w')) (T : ai_H) : ai_ev D1 mf_hours 0 [some (.ref 0), some (.int x1351)] [] (HX w T) 0 0 (some (.int r), HX w' T) := by
  unfold Ff_hours_0 at h
  refine ev_go 4 (pc' := 6) (L' := [some (.ref 0), some (.int x1351)]) (st' := [.int x1351, .ref 1, .ref 0]) (h' := (HX w T)) (cs' := 0) (sl' := 0) rfl ?_
  obtain ⟨c1357, hq, h⟩ := ai_bdE h
  refine ev_call (M' := msea_goOn) (L' := [some (.ref 1), some (.int x1351)]) (rest := [.ref 0]) (rv := some (.int c1357.1)) (h' := (HX c1357.2 T)) rfl (Esea_goOn_1 x1351 w _ _ hq T) ?_
  show ai_ev D1 mf_hours 9 [some (.ref 0), some (.int x1351)] [.int c1357.1, .ref 0] (HX c1357.2 T) 0 0 _
  obtain ⟨c1358, hq, h⟩ := ai_bdE h
  refine ev_call (M' := mf_counted) (L' := [some (.ref 0), some (.int c1357.1)]) (rest := []) (rv := some (.int c1358.1)) (h' := (HX c1358.2 T)) rfl (Ef_counted_0 c1357.1 c1357.2 _ _ hq T) ?_
  show ai_ev D1 mf_hours 12 [some (.ref 0), some (.int x1351)] [.int c1358.1] (HX c1358.2 T) 0 0 _
  obtain ⟨rfl, rfl⟩ := ai_smP h
  exact ev_end rfl
set_option maxHeartbeats 40000000 in
set_option maxRecDepth 100000 in
theorem Esea_goBack_1 (w : WX) (r : Int32) (w' : WX) (h : Fsea_goBack_1 w = some (r, w')) (T : ai_H) : ai_ev D1 msea_goBack 0 [some (.ref 1)] [] (HX w T) 0 0 (some (.int r), HX w' T) := by
  unfold Fsea_goBack_1 at h
  refine ev_go 2 (pc' := 4) (L' := [some (.ref 1)]) (st' := [.int (a_s1_undos w)]) (h' := (HX w T)) (cs' := 0) (sl' := 0) rfl ?_
  rcases ai_ifE h with ⟨hc, h⟩ | ⟨hc, h⟩
  · refine ev_if_gt (t := 10) rfl rfl (fun _ => ?_) (fun c9 => absurd hc c9)
    refine ev_go 5 (pc' := 17) (L' := [some (.ref 1)]) (st' := [.int ((a_s1_undos w) - 1), .ref 1]) (h' := (HX w T)) (cs' := 0) (sl' := 0) rfl ?_
    refine ev_step rfl rfl rfl (PFX_2_66_1 rfl) ?_
    refine ev_go 5 (pc' := 29) (L' := [some (.ref 1)]) (st' := [.int ((a_s1_undos w) - 1), .ref 19, .ref 1]) (h' := (HX (u_s1_undos w ((a_s1_undos w) - 1)) T)) (cs' := 0) (sl' := 0) rfl ?_
    obtain ⟨v1359, hq, h⟩ := ai_bdE h
    refine ev_iald rfl rfl hq ?_
    refine ev_step rfl rfl rfl (PFX_2_15_1 rfl) ?_
    refine ev_go 1 (pc' := 34) (L' := [some (.ref 1)]) (st' := [.int 1]) (h' := (HX (u_s1_hour (u_s1_undos w ((a_s1_undos w) - 1)) v1359) T)) (cs' := 0) (sl' := 0) rfl ?_
    obtain ⟨rfl, rfl⟩ := ai_smP h
    exact ev_end rfl
  · refine ev_if_gt (t := 10) rfl rfl (fun c9 => absurd c9 hc) (fun _ => ?_)
    refine ev_go 1 (pc' := 9) (L' := [some (.ref 1)]) (st' := [.int (-3)]) (h' := (HX w T)) (cs' := 0) (sl' := 0) rfl ?_
    obtain ⟨rfl, rfl⟩ := ai_smP h
    exact ev_end rfl
set_option maxHeartbeats 40000000 in
set_option maxRecDepth 100000 in
theorem Ef_undo_0 (w : WX) (r : Int32) (w' : WX) (h : Ff_undo_0 w = some (r, w')) (T : ai_H) : ai_ev D1 mf_undo 0 [some (.ref 0)] [] (HX w T) 0 0 (some (.int r), HX w' T) := by
  unfold Ff_undo_0 at h
  refine ev_go 3 (pc' := 5) (L' := [some (.ref 0)]) (st' := [.ref 1, .ref 0]) (h' := (HX w T)) (cs' := 0) (sl' := 0) rfl ?_
  obtain ⟨c1360, hq, h⟩ := ai_bdE h
  refine ev_call (M' := msea_goBack) (L' := [some (.ref 1)]) (rest := [.ref 0]) (rv := some (.int c1360.1)) (h' := (HX c1360.2 T)) rfl (Esea_goBack_1 w _ _ hq T) ?_
  show ai_ev D1 mf_undo 8 [some (.ref 0)] [.int c1360.1, .ref 0] (HX c1360.2 T) 0 0 _
  obtain ⟨c1361, hq, h⟩ := ai_bdE h
  refine ev_call (M' := mf_counted) (L' := [some (.ref 0), some (.int c1360.1)]) (rest := []) (rv := some (.int c1361.1)) (h' := (HX c1361.2 T)) rfl (Ef_counted_0 c1360.1 c1360.2 _ _ hq T) ?_
  show ai_ev D1 mf_undo 11 [some (.ref 0)] [.int c1361.1] (HX c1361.2 T) 0 0 _
  obtain ⟨rfl, rfl⟩ := ai_smP h
  exact ev_end rfl
set_option maxHeartbeats 40000000 in
set_option maxRecDepth 100000 in
theorem Efall_weightOf (x1380 : Int32) (x1381 : Int32) (x1382 : Int32) (x1383 : Int32) (r : Int32) (h : Ffall_weightOf x1380 x1381 x1382 x1383 = some r) (hh : ai_H) : ai_ev D1 mfall_weightOf 0 [some (.int x1380), some (.int x1381), some (.int x1382), some (.int x1383)] [] hh 0 0 (some (.int r), hh) := by
  unfold Ffall_weightOf at h
  refine ev_go 1 (pc' := 1) (L' := [some (.int x1380), some (.int x1381), some (.int x1382), some (.int x1383)]) (st' := [.int x1380]) (h' := hh) (cs' := 0) (sl' := 0) rfl ?_
  rcases ai_ifE h with ⟨hc, h⟩ | ⟨hs1, h⟩
  · refine ev_swi (k := 1) (t := 28) rfl hc (by decide) (by decide) rfl rfl ?_
    refine ev_go 3 (pc' := 31) (L' := [some (.int x1380), some (.int x1381), some (.int x1382), some (.int x1383)]) (st' := [.int (x1381 + x1382)]) (h' := hh) (cs' := 0) (sl' := 0) rfl ?_
    obtain rfl := Option.some.inj h
    exact ev_end rfl
  rcases ai_ifE h with ⟨hc, h⟩ | ⟨hs2, h⟩
  · refine ev_swi (k := 2) (t := 28) rfl hc (by decide) (by decide) rfl rfl ?_
    refine ev_go 3 (pc' := 31) (L' := [some (.int x1380), some (.int x1381), some (.int x1382), some (.int x1383)]) (st' := [.int (x1381 + x1382)]) (h' := hh) (cs' := 0) (sl' := 0) rfl ?_
    obtain rfl := Option.some.inj h
    exact ev_end rfl
  rcases ai_ifE h with ⟨hc, h⟩ | ⟨hs3, h⟩
  · refine ev_swi (k := 3) (t := 32) rfl hc (by decide) (by decide) rfl rfl ?_
    refine ev_go 9 (pc' := 44) (L' := [some (.int x1380), some (.int x1381), some (.int x1382), some (.int x1383)]) (st' := [.int ((x1381 + x1382) + (2 * (if 10 < x1383 then 10 else x1383)))]) (h' := hh) (cs' := 0) (sl' := 0) rfl ?_
    obtain rfl := Option.some.inj h
    exact ev_end rfl
  refine ev_swo (t := 45) (lo := 1) (n := 3) rfl (sw_out 1 3 (fun k hk => by match k, hk with | 0, _ => exact hs1 | 1, _ => exact hs2 | 2, _ => exact hs3 | k + 3, hk => exact absurd hk (by omega))) ⟨rfl, by decide⟩ rfl ?_
  refine ev_go 1 (pc' := 46) (L' := [some (.int x1380), some (.int x1381), some (.int x1382), some (.int x1383)]) (st' := [.int x1381]) (h' := hh) (cs' := 0) (sl' := 0) rfl ?_
  obtain rfl := Option.some.inj h
  exact ev_end rfl
set_option maxHeartbeats 40000000 in
set_option maxRecDepth 100000 in
theorem Efall_roomOf (x1385 : Int32) (x1386 : Int32) (x1387 : Int32) (r : Int32) (h : Ffall_roomOf x1385 x1386 x1387 = some r) (hh : ai_H) : ai_ev D1 mfall_roomOf 0 [some (.int x1385), some (.int x1386), some (.int x1387)] [] hh 0 0 (some (.int r), hh) := by
  unfold Ffall_roomOf at h
  refine ev_go 1 (pc' := 1) (L' := [some (.int x1385), some (.int x1386), some (.int x1387)]) (st' := [.int x1385]) (h' := hh) (cs' := 0) (sl' := 0) rfl ?_
  rcases ai_ifE h with ⟨hc, h⟩ | ⟨hs2, h⟩
  · refine ev_swi (k := 2) (t := 28) rfl hc (by decide) (by decide) rfl rfl ?_
    refine ev_go 3 (pc' := 31) (L' := [some (.int x1385), some (.int x1386), some (.int x1387)]) (st' := [.int (x1386 + 1)]) (h' := hh) (cs' := 0) (sl' := 0) rfl ?_
    obtain rfl := Option.some.inj h
    exact ev_end rfl
  rcases ai_ifE h with ⟨hc, h⟩ | ⟨hs3, h⟩
  · refine ev_swi (k := 3) (t := 28) rfl hc (by decide) (by decide) rfl rfl ?_
    refine ev_go 3 (pc' := 31) (L' := [some (.int x1385), some (.int x1386), some (.int x1387)]) (st' := [.int (x1386 + 1)]) (h' := hh) (cs' := 0) (sl' := 0) rfl ?_
    obtain rfl := Option.some.inj h
    exact ev_end rfl
  rcases ai_ifE h with ⟨hc, h⟩ | ⟨hs4, h⟩
  · refine ev_swi (k := 4) (t := 32) rfl hc (by decide) (by decide) rfl rfl ?_
    refine ev_go 7 (pc' := 41) (L' := [some (.int x1385), some (.int x1386), some (.int x1387)]) (st' := [.int (x1386 + (if 5 < (x1387 / 4) then 5 else (x1387 / 4)))]) (h' := hh) (cs' := 0) (sl' := 0) rfl ?_
    obtain rfl := Option.some.inj h
    exact ev_end rfl
  refine ev_swo (t := 42) (lo := 2) (n := 3) rfl (sw_out 2 3 (fun k hk => by match k, hk with | 0, _ => exact hs2 | 1, _ => exact hs3 | 2, _ => exact hs4 | k + 3, hk => exact absurd hk (by omega))) ⟨rfl, by decide⟩ rfl ?_
  refine ev_go 1 (pc' := 43) (L' := [some (.int x1385), some (.int x1386), some (.int x1387)]) (st' := [.int x1386]) (h' := hh) (cs' := 0) (sl' := 0) rfl ?_
  obtain rfl := Option.some.inj h
  exact ev_end rfl
set_option maxHeartbeats 40000000 in
set_option maxRecDepth 100000 in
theorem Efall_forceOf (x1389 : Int32) (x1390 : Int32) (r : Int32) (h : Ffall_forceOf x1389 x1390 = some r) (hh : ai_H) : ai_ev D1 mfall_forceOf 0 [some (.int x1389), some (.int x1390)] [] hh 0 0 (some (.int r), hh) := by
  unfold Ffall_forceOf at h
  refine ev_go 1 (pc' := 1) (L' := [some (.int x1389), some (.int x1390)]) (st' := [.int x1389]) (h' := hh) (cs' := 0) (sl' := 0) rfl ?_
  rcases ai_ifE h with ⟨hc, h⟩ | ⟨hs2, h⟩
  · refine ev_swi (k := 2) (t := 32) rfl hc (by decide) (by decide) rfl rfl ?_
    refine ev_go 3 (pc' := 35) (L' := [some (.int x1389), some (.int x1390)]) (st' := [.int (x1390 / 2)]) (h' := hh) (cs' := 0) (sl' := 0) rfl ?_
    obtain rfl := Option.some.inj h
    exact ev_end rfl
  rcases ai_ifE h with ⟨hc, h⟩ | ⟨hs3, h⟩
  · refine ev_swi (k := 3) (t := 36) rfl hc (by decide) (by decide) rfl rfl ?_
    refine ev_go 1 (pc' := 38) (L' := [some (.int x1389), some (.int x1390)]) (st' := [.int 100]) (h' := hh) (cs' := 0) (sl' := 0) rfl ?_
    obtain rfl := Option.some.inj h
    exact ev_end rfl
  rcases ai_ifE h with ⟨hc, h⟩ | ⟨hs4, h⟩
  · refine ev_swi (k := 4) (t := 41) rfl hc (by decide) (by decide) rfl rfl ?_
    refine ev_go 1 (pc' := 42) (L' := [some (.int x1389), some (.int x1390)]) (st' := [.int x1390]) (h' := hh) (cs' := 0) (sl' := 0) rfl ?_
    obtain rfl := Option.some.inj h
    exact ev_end rfl
  rcases ai_ifE h with ⟨hc, h⟩ | ⟨hs5, h⟩
  · refine ev_swi (k := 5) (t := 39) rfl hc (by decide) (by decide) rfl rfl ?_
    refine ev_go 1 (pc' := 40) (L' := [some (.int x1389), some (.int x1390)]) (st' := [.int 0]) (h' := hh) (cs' := 0) (sl' := 0) rfl ?_
    obtain rfl := Option.some.inj h
    exact ev_end rfl
  refine ev_swo (t := 41) (lo := 2) (n := 4) rfl (sw_out 2 4 (fun k hk => by match k, hk with | 0, _ => exact hs2 | 1, _ => exact hs3 | 2, _ => exact hs4 | 3, _ => exact hs5 | k + 4, hk => exact absurd hk (by omega))) ⟨rfl, by decide⟩ rfl ?_
  refine ev_go 1 (pc' := 42) (L' := [some (.int x1389), some (.int x1390)]) (st' := [.int x1390]) (h' := hh) (cs' := 0) (sl' := 0) rfl ?_
  obtain rfl := Option.some.inj h
  exact ev_end rfl
set_option maxHeartbeats 40000000 in
set_option maxRecDepth 100000 in
theorem Efall_shape_81 (x1375 : Int32) (x1376 : Int32) (x1377 : Int32) (x1378 : Int32) (x1379 : Int32) (w : WX) (w' : WX) (h : Ffall_shape_81 x1375 x1376 x1377 x1378 x1379 w = some w') (T : ai_H) : ai_ev D1 mfall_shape 0 [some (.ref 81), some (.int x1375), some (.int x1376), some (.int x1377), some (.int x1378), some (.int x1379)] [] (HX w T) 0 0 (none, HX w' T) := by
  unfold Ffall_shape_81 at h
  refine ev_go 5 (pc' := 7) (L' := [some (.ref 81), some (.int x1375), some (.int x1376), some (.int x1377), some (.int x1378), some (.int x1379)]) (st' := [.int x1379, .int x1378, .int x1376, .int x1375, .ref 81]) (h' := (HX w T)) (cs' := 0) (sl' := 0) rfl ?_
  obtain ⟨c1384, hq, h⟩ := ai_bdE h
  refine ev_call (M' := mfall_weightOf) (L' := [some (.int x1375), some (.int x1376), some (.int x1378), some (.int x1379)]) (rest := [.ref 81]) (rv := some (.int c1384)) (h' := (HX w T)) rfl (Efall_weightOf x1375 x1376 x1378 x1379 _ hq (HX w T)) ?_
  show ai_ev D1 mfall_shape 10 [some (.ref 81), some (.int x1375), some (.int x1376), some (.int x1377), some (.int x1378), some (.int x1379)] [.int c1384, .ref 81] (HX w T) 0 0 _
  refine ev_step rfl rfl rfl (PFX_0_9_81 rfl) ?_
  refine ev_go 4 (pc' := 18) (L' := [some (.ref 81), some (.int x1375), some (.int x1376), some (.int x1377), some (.int x1378), some (.int x1379)]) (st' := [.int x1379, .int x1377, .int x1375, .ref 81]) (h' := (HX (u_fall_weighs w c1384) T)) (cs' := 0) (sl' := 0) rfl ?_
  obtain ⟨c1388, hq, h⟩ := ai_bdE h
  refine ev_call (M' := mfall_roomOf) (L' := [some (.int x1375), some (.int x1377), some (.int x1379)]) (rest := [.ref 81]) (rv := some (.int c1388)) (h' := (HX (u_fall_weighs w c1384) T)) rfl (Efall_roomOf x1375 x1377 x1379 _ hq (HX (u_fall_weighs w c1384) T)) ?_
  show ai_ev D1 mfall_shape 21 [some (.ref 81), some (.int x1375), some (.int x1376), some (.int x1377), some (.int x1378), some (.int x1379)] [.int c1388, .ref 81] (HX (u_fall_weighs w c1384) T) 0 0 _
  refine ev_step rfl rfl rfl (PFX_0_15_81 rfl) ?_
  refine ev_go 4 (pc' := 30) (L' := [some (.ref 81), some (.int x1375), some (.int x1376), some (.int x1377), some (.int x1378), some (.int x1379)]) (st' := [.int c1384, .int x1375, .ref 81]) (h' := (HX (u_fall_room (u_fall_weighs w c1384) c1388) T)) (cs' := 0) (sl' := 0) rfl ?_
  obtain ⟨c1391, hq, h⟩ := ai_bdE h
  refine ev_call (M' := mfall_forceOf) (L' := [some (.int x1375), some (.int c1384)]) (rest := [.ref 81]) (rv := some (.int c1391)) (h' := (HX (u_fall_room (u_fall_weighs w c1384) c1388) T)) rfl (Efall_forceOf x1375 c1384 _ hq (HX (u_fall_room (u_fall_weighs w c1384) c1388) T)) ?_
  show ai_ev D1 mfall_shape 33 [some (.ref 81), some (.int x1375), some (.int x1376), some (.int x1377), some (.int x1378), some (.int x1379)] [.int c1391, .ref 81] (HX (u_fall_room (u_fall_weighs w c1384) c1388) T) 0 0 _
  refine ev_step rfl rfl rfl (PFX_0_18_81 rfl) ?_
  obtain rfl := Option.some.inj h
  exact ev_end rfl
set_option maxHeartbeats 40000000 in
set_option maxRecDepth 100000 in
theorem Ef_shapeWithBallast_0 (x1369 : Int32) (x1370 : Int32) (x1371 : Int32) (w : WX) (w' : WX) (h : Ff_shapeWithBallast_0 x1369 x1370 x1371 w = some w') (T : ai_H) : ai_ev D1 mf_shapeWithBallast 0 [some (.ref 0), some (.int x1369), some (.int x1370), some (.int x1371), none] [] (HX w T) 0 0 (none, HX w' T) := by
  unfold Ff_shapeWithBallast_0 at h
  refine ev_go 9 (pc' := 19) (L' := [some (.ref 0), some (.int x1369), some (.int x1370), some (.int x1371), some (.ref 7)]) (st' := [.int x1369, .ref 8, .ref 81]) (h' := (HX w T)) (cs' := 0) (sl' := 0) rfl ?_
  obtain ⟨v1372, hq, h⟩ := ai_bdE h
  refine ev_iald rfl rfl hq ?_
  refine ev_go 3 (pc' := 26) (L' := [some (.ref 0), some (.int x1369), some (.int x1370), some (.int x1371), some (.ref 7)]) (st' := [.int x1369, .ref 9, .int v1372, .ref 81]) (h' := (HX w T)) (cs' := 0) (sl' := 0) rfl ?_
  obtain ⟨v1373, hq, h⟩ := ai_bdE h
  refine ev_iald rfl rfl hq ?_
  refine ev_go 3 (pc' := 33) (L' := [some (.ref 0), some (.int x1369), some (.int x1370), some (.int x1371), some (.ref 7)]) (st' := [.int x1369, .ref 10, .int v1373, .int v1372, .ref 81]) (h' := (HX w T)) (cs' := 0) (sl' := 0) rfl ?_
  obtain ⟨v1374, hq, h⟩ := ai_bdE h
  refine ev_iald rfl rfl hq ?_
  refine ev_go 2 (pc' := 36) (L' := [some (.ref 0), some (.int x1369), some (.int x1370), some (.int x1371), some (.ref 7)]) (st' := [.int x1371, .int x1370, .int v1374, .int v1373, .int v1372, .ref 81]) (h' := (HX w T)) (cs' := 0) (sl' := 0) rfl ?_
  obtain ⟨c1392, hq, h⟩ := ai_bdE h
  refine ev_call (M' := mfall_shape) (L' := [some (.ref 81), some (.int v1372), some (.int v1373), some (.int v1374), some (.int x1370), some (.int x1371)]) (rest := []) (rv := none) (h' := (HX c1392 T)) rfl (Efall_shape_81 v1372 v1373 v1374 x1370 x1371 w _ hq T) ?_
  show ai_ev D1 mf_shapeWithBallast 39 [some (.ref 0), some (.int x1369), some (.int x1370), some (.int x1371), some (.ref 7)] [] (HX c1392 T) 0 0 _
  obtain rfl := Option.some.inj h
  exact ev_end rfl
set_option maxHeartbeats 40000000 in
set_option maxRecDepth 100000 in
theorem Ef_shapeNow_0 (x1367 : Int32) (w : WX) (w' : WX) (h : Ff_shapeNow_0 x1367 w = some w') (T : ai_H) : ai_ev D1 mf_shapeNow 0 [some (.ref 0), some (.int x1367)] [] (HX w T) 0 0 (none, HX w' T) := by
  unfold Ff_shapeNow_0 at h
  refine ev_go 7 (pc' := 13) (L' := [some (.ref 0), some (.int x1367)]) (st' := [.int x1367, .ref 11, .int x1367, .ref 0]) (h' := (HX w T)) (cs' := 0) (sl' := 0) rfl ?_
  obtain ⟨v1368, hq, h⟩ := ai_bdE h
  refine ev_iald rfl rfl hq ?_
  refine ev_go 3 (pc' := 21) (L' := [some (.ref 0), some (.int x1367)]) (st' := [.int (a_s1_hour w), .int v1368, .int x1367, .ref 0]) (h' := (HX w T)) (cs' := 0) (sl' := 0) rfl ?_
  obtain ⟨c1393, hq, h⟩ := ai_bdE h
  refine ev_call (M' := mf_shapeWithBallast) (L' := [some (.ref 0), some (.int x1367), some (.int v1368), some (.int (a_s1_hour w)), none]) (rest := []) (rv := none) (h' := (HX c1393 T)) rfl (Ef_shapeWithBallast_0 x1367 v1368 (a_s1_hour w) w _ hq T) ?_
  show ai_ev D1 mf_shapeNow 24 [some (.ref 0), some (.int x1367)] [] (HX c1393 T) 0 0 _
  obtain rfl := Option.some.inj h
  exact ev_end rfl
set_option maxHeartbeats 40000000 in
set_option maxRecDepth 100000 in
theorem Ef_of_0 (x1362 : Int32) (x1363 : Int32) (w : WX) (r : Int32) (w' : WX) (h : Ff_of_0 x1362 x1363 w = some (r, w')) (T : ai_H) : ai_ev D1 mf_of 0 [some (.ref 0), some (.int x1362), some (.int x1363)] [] (HX w T) 0 0 (some (.int r), HX w' T) := by
  unfold Ff_of_0 at h
  refine ev_go 4 (pc' := 8) (L' := [some (.ref 0), some (.int x1362), some (.int x1363)]) (st' := [.int x1362, .ref 7]) (h' := (HX w T)) (cs' := 0) (sl' := 0) rfl ?_
  obtain ⟨c1364, hq, h⟩ := ai_bdE h
  refine ev_call (M' := mthg_has) (L' := [some (.ref 7), some (.int x1362)]) (rest := []) (rv := some (.int c1364.1)) (h' := (HX c1364.2 T)) rfl (Ethg_has_7 x1362 w _ _ hq T) ?_
  show ai_ev D1 mf_of 11 [some (.ref 0), some (.int x1362), some (.int x1363)] [.int c1364.1] (HX c1364.2 T) 0 0 _
  rcases ai_ifE h with ⟨hc, h⟩ | ⟨hc, h⟩
  · refine ev_if_eq (t := 23) rfl rfl (fun _ => ?_) (fun c9 => absurd hc c9)
    refine ev_go 2 (pc' := 26) (L' := [some (.ref 0), some (.int x1362), some (.int x1363)]) (st' := [.int (-2), .ref 0]) (h' := (HX c1364.2 T)) (cs' := 0) (sl' := 0) rfl ?_
    obtain ⟨c1365, hq, h⟩ := ai_bdE h
    refine ev_call (M' := mf_bad) (L' := [some (.ref 0), some (.int (-2))]) (rest := []) (rv := some (.int c1365.1)) (h' := (HX c1365.2 T)) rfl (Ef_bad_0 (-2) c1364.2 _ _ hq T) ?_
    show ai_ev D1 mf_of 29 [some (.ref 0), some (.int x1362), some (.int x1363)] [.int c1365.1] (HX c1365.2 T) 0 0 _
    obtain ⟨rfl, rfl⟩ := ai_smP h
    exact ev_end rfl
  · refine ev_if_eq (t := 23) rfl rfl (fun c9 => absurd c9 hc) (fun _ => ?_)
    refine ev_go 3 (pc' := 17) (L' := [some (.ref 0), some (.int x1362), some (.int x1363)]) (st' := [.int 2, .int 0, .int x1363]) (h' := (HX c1364.2 T)) (cs' := 0) (sl' := 0) rfl ?_
    obtain ⟨c1366, hq, h⟩ := ai_bdE h
    refine ev_call (M' := mf_within) (L' := [some (.int x1363), some (.int 0), some (.int 2)]) (rest := []) (rv := some (.int c1366)) (h' := (HX c1364.2 T)) rfl (Ef_within x1363 0 2 _ hq (HX c1364.2 T)) ?_
    show ai_ev D1 mf_of 20 [some (.ref 0), some (.int x1362), some (.int x1363)] [.int c1366] (HX c1364.2 T) 0 0 _
    rcases ai_ifE h with ⟨hc, h⟩ | ⟨hc, h⟩
    · refine ev_if_ne (t := 30) rfl rfl (fun c9 => absurd hc c9) (fun _ => ?_)
      refine ev_go 2 (pc' := 26) (L' := [some (.ref 0), some (.int x1362), some (.int x1363)]) (st' := [.int (-2), .ref 0]) (h' := (HX c1364.2 T)) (cs' := 0) (sl' := 0) rfl ?_
      obtain ⟨c1396, hq, h⟩ := ai_bdE h
      refine ev_call (M' := mf_bad) (L' := [some (.ref 0), some (.int (-2))]) (rest := []) (rv := some (.int c1396.1)) (h' := (HX c1396.2 T)) rfl (Ef_bad_0 (-2) c1364.2 _ _ hq T) ?_
      show ai_ev D1 mf_of 29 [some (.ref 0), some (.int x1362), some (.int x1363)] [.int c1396.1] (HX c1396.2 T) 0 0 _
      obtain ⟨rfl, rfl⟩ := ai_smP h
      exact ev_end rfl
    · refine ev_if_ne (t := 30) rfl rfl (fun _ => ?_) (fun c9 => absurd c9 hc)
      refine ev_go 1 (pc' := 31) (L' := [some (.ref 0), some (.int x1362), some (.int x1363)]) (st' := [.int x1363]) (h' := (HX c1364.2 T)) (cs' := 0) (sl' := 0) rfl ?_
      rcases ai_ifE h with ⟨hc, h⟩ | ⟨hc, h⟩
      · refine ev_if_ne (t := 47) rfl rfl (fun c9 => absurd hc c9) (fun _ => ?_)
        refine ev_go 5 (pc' := 45) (L' := [some (.ref 0), some (.int x1362), some (.int x1363)]) (st' := [.int x1362, .ref 8]) (h' := (HX c1364.2 T)) (cs' := 0) (sl' := 0) rfl ?_
        obtain ⟨v1395, hq, h⟩ := ai_bdE h
        refine ev_iald rfl rfl hq ?_
        obtain ⟨rfl, rfl⟩ := ai_smP h
        exact ev_end rfl
      · refine ev_if_ne (t := 47) rfl rfl (fun _ => ?_) (fun c9 => absurd c9 hc)
        refine ev_go 2 (pc' := 49) (L' := [some (.ref 0), some (.int x1362), some (.int x1363)]) (st' := [.int x1362, .ref 0]) (h' := (HX c1364.2 T)) (cs' := 0) (sl' := 0) rfl ?_
        obtain ⟨c1394, hq, h⟩ := ai_bdE h
        refine ev_call (M' := mf_shapeNow) (L' := [some (.ref 0), some (.int x1362)]) (rest := []) (rv := none) (h' := (HX c1394 T)) rfl (Ef_shapeNow_0 x1362 c1364.2 _ hq T) ?_
        show ai_ev D1 mf_of 52 [some (.ref 0), some (.int x1362), some (.int x1363)] [] (HX c1394 T) 0 0 _
        refine ev_go 2 (pc' := 54) (L' := [some (.ref 0), some (.int x1362), some (.int x1363)]) (st' := [.int 1, .int x1363]) (h' := (HX c1394 T)) (cs' := 0) (sl' := 0) rfl ?_
        rcases ai_ifE h with ⟨hc, h⟩ | ⟨hc, h⟩
        · refine ev_ic_ne (t := 67) rfl rfl (fun c9 => absurd hc c9) (fun _ => ?_)
          refine ev_go 4 (pc' := 74) (L' := [some (.ref 0), some (.int x1362), some (.int x1363)]) (st' := [.int (a_fall_weighs c1394)]) (h' := (HX c1394 T)) (cs' := 0) (sl' := 0) rfl ?_
          obtain ⟨rfl, rfl⟩ := ai_smP h
          exact ev_end rfl
        · refine ev_ic_ne (t := 67) rfl rfl (fun _ => ?_) (fun c9 => absurd c9 hc)
          refine ev_go 3 (pc' := 74) (L' := [some (.ref 0), some (.int x1362), some (.int x1363)]) (st' := [.int (a_fall_room c1394)]) (h' := (HX c1394 T)) (cs' := 0) (sl' := 0) rfl ?_
          obtain ⟨rfl, rfl⟩ := ai_smP h
          exact ev_end rfl
set_option maxHeartbeats 40000000 in
set_option maxRecDepth 100000 in
theorem Esea_thickAt_1 (x1402 : Int32) (x1403 : Int32) (x1404 : Int32) (w : WX) (r : Int32) (w' : WX) (h : Fsea_thickAt_1 x1402 x1403 x1404 w = some (r, w')) (T : ai_H) : ai_ev D1 msea_thickAt 0 [some (.ref 1), some (.int x1402), some (.int x1403), some (.int x1404)] [] (HX w T) 0 0 (some (.int r), HX w' T) := by
  unfold Fsea_thickAt_1 at h
  refine ev_go 8 (pc' := 11) (L' := [some (.ref 1), some (.int x1402), some (.int x1403), some (.int x1404)]) (st' := [.int ((x1402 * 6) + x1403), .ref 5, .int 0]) (h' := (HX w T)) (cs' := 0) (sl' := 0) rfl ?_
  obtain ⟨v1405, hq, h⟩ := ai_bdE h
  refine ev_iald rfl rfl hq ?_
  refine ev_go 9 (pc' := 25) (L' := [some (.ref 1), some (.int x1402), some (.int x1403), some (.int x1404)]) (st' := [.int ((x1402 * 6) + (x1404 - x1404 / 6 * 6)), .ref 4, .int v1405, .int 0]) (h' := (HX w T)) (cs' := 0) (sl' := 0) rfl ?_
  obtain ⟨v1406, hq, h⟩ := ai_bdE h
  refine ev_iald rfl rfl hq ?_
  refine ev_go 2 (pc' := 30) (L' := [some (.ref 1), some (.int x1402), some (.int x1403), some (.int x1404)]) (st' := [.int (if 0 < (v1405 + v1406) then (v1405 + v1406) else 0)]) (h' := (HX w T)) (cs' := 0) (sl' := 0) rfl ?_
  obtain ⟨rfl, rfl⟩ := ai_smP h
  exact ev_end rfl
set_option maxHeartbeats 40000000 in
set_option maxRecDepth 100000 in
theorem Ef_deep_0 (x1397 : Int32) (x1398 : Int32) (w : WX) (r : Int32) (w' : WX) (h : Ff_deep_0 x1397 x1398 w = some (r, w')) (T : ai_H) : ai_ev D1 mf_deep 0 [some (.ref 0), some (.int x1397), some (.int x1398)] [] (HX w T) 0 0 (some (.int r), HX w' T) := by
  unfold Ff_deep_0 at h
  refine ev_go 1 (pc' := 1) (L' := [some (.ref 0), some (.int x1397), some (.int x1398)]) (st' := [.int x1397]) (h' := (HX w T)) (cs' := 0) (sl' := 0) rfl ?_
  obtain ⟨c1399, hq, h⟩ := ai_bdE h
  refine ev_call (M' := mf_isLayer) (L' := [some (.int x1397)]) (rest := []) (rv := some (.int c1399)) (h' := (HX w T)) rfl (Ef_isLayer x1397 _ hq (HX w T)) ?_
  show ai_ev D1 mf_deep 4 [some (.ref 0), some (.int x1397), some (.int x1398)] [.int c1399] (HX w T) 0 0 _
  rcases ai_ifE h with ⟨hc, h⟩ | ⟨hc, h⟩
  · refine ev_if_eq (t := 18) rfl rfl (fun _ => ?_) (fun c9 => absurd hc c9)
    refine ev_go 2 (pc' := 21) (L' := [some (.ref 0), some (.int x1397), some (.int x1398)]) (st' := [.int (-2), .ref 0]) (h' := (HX w T)) (cs' := 0) (sl' := 0) rfl ?_
    obtain ⟨c1400, hq, h⟩ := ai_bdE h
    refine ev_call (M' := mf_bad) (L' := [some (.ref 0), some (.int (-2))]) (rest := []) (rv := some (.int c1400.1)) (h' := (HX c1400.2 T)) rfl (Ef_bad_0 (-2) w _ _ hq T) ?_
    show ai_ev D1 mf_deep 24 [some (.ref 0), some (.int x1397), some (.int x1398)] [.int c1400.1] (HX c1400.2 T) 0 0 _
    obtain ⟨rfl, rfl⟩ := ai_smP h
    exact ev_end rfl
  · refine ev_if_eq (t := 18) rfl rfl (fun c9 => absurd c9 hc) (fun _ => ?_)
    refine ev_go 3 (pc' := 12) (L' := [some (.ref 0), some (.int x1397), some (.int x1398)]) (st' := [.int x1398, .ref 1]) (h' := (HX w T)) (cs' := 0) (sl' := 0) rfl ?_
    obtain ⟨c1401, hq, h⟩ := ai_bdE h
    refine ev_call (M' := msea_hasCell) (L' := [some (.ref 1), some (.int x1398)]) (rest := []) (rv := some (.int c1401.1)) (h' := (HX c1401.2 T)) rfl (Esea_hasCell_1 x1398 w _ _ hq T) ?_
    show ai_ev D1 mf_deep 15 [some (.ref 0), some (.int x1397), some (.int x1398)] [.int c1401.1] (HX c1401.2 T) 0 0 _
    rcases ai_ifE h with ⟨hc, h⟩ | ⟨hc, h⟩
    · refine ev_if_ne (t := 25) rfl rfl (fun c9 => absurd hc c9) (fun _ => ?_)
      refine ev_go 2 (pc' := 21) (L' := [some (.ref 0), some (.int x1397), some (.int x1398)]) (st' := [.int (-2), .ref 0]) (h' := (HX c1401.2 T)) (cs' := 0) (sl' := 0) rfl ?_
      obtain ⟨c1408, hq, h⟩ := ai_bdE h
      refine ev_call (M' := mf_bad) (L' := [some (.ref 0), some (.int (-2))]) (rest := []) (rv := some (.int c1408.1)) (h' := (HX c1408.2 T)) rfl (Ef_bad_0 (-2) c1401.2 _ _ hq T) ?_
      show ai_ev D1 mf_deep 24 [some (.ref 0), some (.int x1397), some (.int x1398)] [.int c1408.1] (HX c1408.2 T) 0 0 _
      obtain ⟨rfl, rfl⟩ := ai_smP h
      exact ev_end rfl
    · refine ev_if_ne (t := 25) rfl rfl (fun _ => ?_) (fun c9 => absurd c9 hc)
      refine ev_go 7 (pc' := 38) (L' := [some (.ref 0), some (.int x1397), some (.int x1398)]) (st' := [.int (a_s1_hour c1401.2), .int x1398, .int x1397, .ref 1]) (h' := (HX c1401.2 T)) (cs' := 0) (sl' := 0) rfl ?_
      obtain ⟨c1407, hq, h⟩ := ai_bdE h
      refine ev_call (M' := msea_thickAt) (L' := [some (.ref 1), some (.int x1397), some (.int x1398), some (.int (a_s1_hour c1401.2))]) (rest := []) (rv := some (.int c1407.1)) (h' := (HX c1407.2 T)) rfl (Esea_thickAt_1 x1397 x1398 (a_s1_hour c1401.2) c1401.2 _ _ hq T) ?_
      show ai_ev D1 mf_deep 41 [some (.ref 0), some (.int x1397), some (.int x1398)] [.int c1407.1] (HX c1407.2 T) 0 0 _
      obtain ⟨rfl, rfl⟩ := ai_smP h
      exact ev_end rfl
set_option maxHeartbeats 40000000 in
set_option maxRecDepth 100000 in
theorem EGarr_fill_82 : ∀ n : Nat, (∀ (y1425 : Int32) (y1426 : Int32) (y1427 : Int32) (w : WX) (w' : WX), Garr_fill_82 n 0 y1425 y1426 y1427 w = some w' → ∀ (T : ai_H), ai_ev D1 marr_fill 5 [some (.ref 82), some (.int y1425), some (.int y1426), some (.int y1427)] [] (HX w T) 0 0 (none, HX w' T)) := by
  intro n
  induction n with
  | zero =>
    exact (fun _ _ _ _ _ h => by cases h)
  | succ n ih0 =>
    intro y1425 y1426 y1427 w w' h T
    simp only [Garr_fill_82] at h
    refine ev_go 2 (pc' := 7) (L' := [some (.ref 82), some (.int y1425), some (.int y1426), some (.int y1427)]) (st' := [.int y1427, .int y1426]) (h' := (HX w T)) (cs' := 0) (sl' := 0) rfl ?_
    rcases ai_ifE h with ⟨hc, h⟩ | ⟨hc, h⟩
    · refine ev_ic_ge (t := 20) rfl rfl (fun _ => ?_) (fun c9 => absurd hc c9)
      obtain rfl := Option.some.inj h
      exact ev_end rfl
    · refine ev_ic_ge (t := 20) rfl rfl (fun c9 => absurd c9 hc) (fun _ => ?_)
      refine ev_go 3 (pc' := 13) (L' := [some (.ref 82), some (.int y1425), some (.int y1426), some (.int y1427)]) (st' := [.int y1425, .int y1426, .ref 82]) (h' := (HX w T)) (cs' := 0) (sl' := 0) rfl ?_
      obtain ⟨q1428, hq, h⟩ := ai_bdE h
      refine ev_iast rfl rfl hq ?_
      rw [HXs_82]
      refine ev_go 2 (pc' := 5) (L' := [some (.ref 82), some (.int y1425), some (.int (y1426 + 1)), some (.int y1427)]) (st' := []) (h' := (HX (u_fall_passedThick w q1428) T)) (cs' := 0) (sl' := 0) rfl ?_
      exact ih0 _ _ _ _ _ h T
set_option maxHeartbeats 40000000 in
set_option maxRecDepth 100000 in
theorem Earr_fill_82 (n : Nat) (x1424 : Int32) (w : WX) (w' : WX) (h : Farr_fill_82 n x1424 w = some w') (T : ai_H) : ai_ev D1 marr_fill 0 [some (.ref 82), some (.int x1424), none, none] [] (HX w T) 0 0 (none, HX w' T) := by
  unfold Farr_fill_82 at h
  have ih0 := EGarr_fill_82 n
  refine ev_go 5 (pc' := 5) (L' := [some (.ref 82), some (.int x1424), some (.int 0), some (.int (Int32.ofNat (List.length (a_fall_passedThick w))))]) (st' := []) (h' := (HX w T)) (cs' := 0) (sl' := 0) rfl ?_
  exact ih0 _ _ _ _ _ h T
set_option maxHeartbeats 40000000 in
set_option maxRecDepth 100000 in
theorem Efall_forget_81 (n : Nat) (w : WX) (w' : WX) (h : Ffall_forget_81 n w = some w') (T : ai_H) : ai_ev D1 mfall_forget 0 [some (.ref 81)] [] (HX w T) 0 0 (none, HX w' T) := by
  unfold Ffall_forget_81 at h
  refine ev_go 2 (pc' := 2) (L' := [some (.ref 81)]) (st' := [.int 0, .ref 81]) (h' := (HX w T)) (cs' := 0) (sl' := 0) rfl ?_
  refine ev_step rfl rfl rfl (PFX_0_24_81 rfl) ?_
  refine ev_go 2 (pc' := 7) (L' := [some (.ref 81)]) (st' := [.int 0, .ref 81]) (h' := (HX (u_fall_down w 0) T)) (cs' := 0) (sl' := 0) rfl ?_
  refine ev_step rfl rfl rfl (PFX_0_27_81 rfl) ?_
  refine ev_go 2 (pc' := 12) (L' := [some (.ref 81)]) (st' := [.int (-1), .ref 81]) (h' := (HX (u_fall_broken (u_fall_down w 0) 0) T)) (cs' := 0) (sl' := 0) rfl ?_
  refine ev_step rfl rfl rfl (PFX_0_30_81 rfl) ?_
  refine ev_go 3 (pc' := 20) (L' := [some (.ref 81)]) (st' := [.int 0, .ref 82]) (h' := (HX (u_fall_stopper (u_fall_broken (u_fall_down w 0) 0) (-1)) T)) (cs' := 0) (sl' := 0) rfl ?_
  obtain ⟨c1429, hq, h⟩ := ai_bdE h
  refine ev_call (M' := marr_fill) (L' := [some (.ref 82), some (.int 0), none, none]) (rest := []) (rv := none) (h' := (HX c1429 T)) rfl (Earr_fill_82 n 0 (u_fall_stopper (u_fall_broken (u_fall_down w 0) 0) (-1)) _ hq T) ?_
  show ai_ev D1 mfall_forget 23 [some (.ref 81)] [] (HX c1429 T) 0 0 _
  obtain rfl := Option.some.inj h
  exact ev_end rfl
set_option maxHeartbeats 40000000 in
set_option maxRecDepth 100000 in
theorem Efall_getsThrough_81_1 (x1439 : Int32) (x1440 : Int32) (w : WX) (r : Int32) (w' : WX) (h : Ffall_getsThrough_81_1 x1439 x1440 w = some (r, w')) (T : ai_H) : ai_ev D1 mfall_getsThrough 0 [some (.ref 81), some (.ref 1), some (.int x1439), some (.int x1440)] [] (HX w T) 0 0 (some (.int r), HX w' T) := by
  unfold Ffall_getsThrough_81_1 at h
  refine ev_go 6 (pc' := 6) (L' := [some (.ref 81), some (.ref 1), some (.int x1439), some (.int x1440)]) (st' := [.int 1, .int ((x1440 >>> (x1439 &&& 31)) &&& 1)]) (h' := (HX w T)) (cs' := 0) (sl' := 0) rfl ?_
  rcases ai_ifE h with ⟨hc, h⟩ | ⟨hc, h⟩
  · refine ev_ic_ne (t := 11) rfl rfl (fun c9 => absurd hc c9) (fun _ => ?_)
    refine ev_go 1 (pc' := 10) (L' := [some (.ref 81), some (.ref 1), some (.int x1439), some (.int x1440)]) (st' := [.int 1]) (h' := (HX w T)) (cs' := 0) (sl' := 0) rfl ?_
    obtain ⟨rfl, rfl⟩ := ai_smP h
    exact ev_end rfl
  · refine ev_ic_ne (t := 11) rfl rfl (fun _ => ?_) (fun c9 => absurd c9 hc)
    refine ev_go 3 (pc' := 16) (L' := [some (.ref 81), some (.ref 1), some (.int x1439), some (.int x1440)]) (st' := [.int x1439, .ref 6]) (h' := (HX w T)) (cs' := 0) (sl' := 0) rfl ?_
    obtain ⟨v1441, hq, h⟩ := ai_bdE h
    refine ev_iald rfl rfl hq ?_
    refine ev_go 2 (pc' := 21) (L' := [some (.ref 81), some (.ref 1), some (.int x1439), some (.int x1440)]) (st' := [.int (a_fall_force w), .int v1441]) (h' := (HX w T)) (cs' := 0) (sl' := 0) rfl ?_
    rcases ai_ifE h with ⟨hc, h⟩ | ⟨hc, h⟩
    · refine ev_ic_lt (t := 26) rfl rfl (fun _ => ?_) (fun c9 => absurd hc c9)
      refine ev_go 7 (pc' := 35) (L' := [some (.ref 81), some (.ref 1), some (.int x1439), some (.int x1440)]) (st' := [.int ((a_fall_broken w) ||| (1 <<< (x1439 &&& 31))), .ref 81]) (h' := (HX w T)) (cs' := 0) (sl' := 0) rfl ?_
      refine ev_step rfl rfl rfl (PFX_0_27_81 rfl) ?_
      refine ev_go 1 (pc' := 39) (L' := [some (.ref 81), some (.ref 1), some (.int x1439), some (.int x1440)]) (st' := [.int 1]) (h' := (HX (u_fall_broken w ((a_fall_broken w) ||| (1 <<< (x1439 &&& 31)))) T)) (cs' := 0) (sl' := 0) rfl ?_
      obtain ⟨rfl, rfl⟩ := ai_smP h
      exact ev_end rfl
    · refine ev_ic_lt (t := 26) rfl rfl (fun c9 => absurd c9 hc) (fun _ => ?_)
      refine ev_go 1 (pc' := 25) (L' := [some (.ref 81), some (.ref 1), some (.int x1439), some (.int x1440)]) (st' := [.int 0]) (h' := (HX w T)) (cs' := 0) (sl' := 0) rfl ?_
      obtain ⟨rfl, rfl⟩ := ai_smP h
      exact ev_end rfl
set_option maxHeartbeats 40000000 in
set_option maxRecDepth 100000 in
theorem EGfall_letGo_81_1 : ∀ n : Nat, (∀ (y1431 : Int32) (y1432 : Int32) (y1433 : Int32) (y1434 : Int32) (y1435 : Int32) (w : WX) (w' : WX), Gfall_letGo_81_1 n 0 y1431 y1432 y1433 y1434 y1435 w = some w' → ∀ (T : ai_H) (o7 : Option Value), ai_ev D1 mfall_letGo 10 [some (.ref 81), some (.ref 1), some (.int y1431), some (.int y1432), some (.int y1433), some (.int y1434), some (.int y1435), o7] [] (HX w T) 0 0 (none, HX w' T)) := by
  intro n
  induction n with
  | zero =>
    exact (fun _ _ _ _ _ _ _ h => by cases h)
  | succ n ih0 =>
    intro y1431 y1432 y1433 y1434 y1435 w w' h T o7
    simp only [Gfall_letGo_81_1] at h
    refine ev_go 2 (pc' := 13) (L' := [some (.ref 81), some (.ref 1), some (.int y1431), some (.int y1432), some (.int y1433), some (.int y1434), some (.int y1435), o7]) (st' := [.int 4, .int y1435]) (h' := (HX w T)) (cs' := 0) (sl' := 0) rfl ?_
    rcases ai_ifE h with ⟨hc, h⟩ | ⟨hc, h⟩
    · refine ev_ic_ge (t := 125) rfl rfl (fun _ => ?_) (fun c9 => absurd hc c9)
      refine ev_go 2 (pc' := 127) (L' := [some (.ref 81), some (.ref 1), some (.int y1431), some (.int y1432), some (.int y1433), some (.int y1434), some (.int y1435), o7]) (st' := [.int 4, .ref 81]) (h' := (HX w T)) (cs' := 0) (sl' := 0) rfl ?_
      refine ev_step rfl rfl rfl (PFX_0_21_81 rfl) ?_
      obtain rfl := Option.some.inj h
      exact ev_end rfl
    · refine ev_ic_ge (t := 125) rfl rfl (fun c9 => absurd c9 hc) (fun _ => ?_)
      refine ev_go 4 (pc' := 21) (L' := [some (.ref 81), some (.ref 1), some (.int y1431), some (.int y1432), some (.int y1433), some (.int y1434), some (.int y1435), o7]) (st' := [.int y1432, .int y1431, .int y1435, .ref 1]) (h' := (HX w T)) (cs' := 0) (sl' := 0) rfl ?_
      obtain ⟨c1436, hq, h⟩ := ai_bdE h
      refine ev_call (M' := msea_thickAt) (L' := [some (.ref 1), some (.int y1435), some (.int y1431), some (.int y1432)]) (rest := []) (rv := some (.int c1436.1)) (h' := (HX c1436.2 T)) rfl (Esea_thickAt_1 y1435 y1431 y1432 w _ _ hq T) ?_
      show ai_ev D1 mfall_letGo 24 [some (.ref 81), some (.ref 1), some (.int y1431), some (.int y1432), some (.int y1433), some (.int y1434), some (.int y1435), o7] [.int c1436.1] (HX c1436.2 T) 0 0 _
      refine ev_go 2 (pc' := 28) (L' := [some (.ref 81), some (.ref 1), some (.int y1431), some (.int y1432), some (.int y1433), some (.int y1434), some (.int y1435), some (.int c1436.1)]) (st' := [.int c1436.1]) (h' := (HX c1436.2 T)) (cs' := 0) (sl' := 0) rfl ?_
      rcases ai_ifE h with ⟨hc, h⟩ | ⟨hc, h⟩
      · refine ev_if_ne (t := 34) rfl rfl (fun c9 => absurd hc c9) (fun _ => ?_)
        refine ev_go 3 (pc' := 10) (L' := [some (.ref 81), some (.ref 1), some (.int y1431), some (.int y1432), some (.int y1433), some (.int y1434), some (.int (y1435 + 1)), some (.int c1436.1)]) (st' := []) (h' := (HX c1436.2 T)) (cs' := 0) (sl' := 0) rfl ?_
        exact ih0 _ _ _ _ _ _ _ h T _
      · refine ev_if_ne (t := 34) rfl rfl (fun _ => ?_) (fun c9 => absurd c9 hc)
        refine ev_go 2 (pc' := 37) (L' := [some (.ref 81), some (.ref 1), some (.int y1431), some (.int y1432), some (.int y1433), some (.int y1434), some (.int y1435), some (.int c1436.1)]) (st' := [.int (-1), .int y1434]) (h' := (HX c1436.2 T)) (cs' := 0) (sl' := 0) rfl ?_
        rcases ai_ifE h with ⟨hc, h⟩ | ⟨hc, h⟩
        · refine ev_ic_eq (t := 69) rfl rfl (fun _ => ?_) (fun c9 => absurd hc c9)
          refine ev_go 7 (pc' := 83) (L' := [some (.ref 81), some (.ref 1), some (.int y1431), some (.int y1432), some (.int y1433), some (.int y1434), some (.int y1435), some (.int c1436.1)]) (st' := [.int y1435, .ref 2, .int (a_fall_room c1436.2), .int (a_fall_weighs c1436.2)]) (h' := (HX c1436.2 T)) (cs' := 0) (sl' := 0) rfl ?_
          obtain ⟨v1437, hq, h⟩ := ai_bdE h
          refine ev_iald rfl rfl hq ?_
          refine ev_go 1 (pc' := 85) (L' := [some (.ref 81), some (.ref 1), some (.int y1431), some (.int y1432), some (.int y1433), some (.int y1434), some (.int y1435), some (.int c1436.1)]) (st' := [.int ((a_fall_room c1436.2) * v1437), .int (a_fall_weighs c1436.2)]) (h' := (HX c1436.2 T)) (cs' := 0) (sl' := 0) rfl ?_
          rcases ai_ifE h with ⟨hc, h⟩ | ⟨hc, h⟩
          · refine ev_ic_gt (t := 95) rfl rfl (fun _ => ?_) (fun c9 => absurd hc c9)
            refine ev_go 4 (pc' := 103) (L' := [some (.ref 81), some (.ref 1), some (.int y1431), some (.int y1432), some (.int y1433), some (.int y1434), some (.int y1435), some (.int c1436.1)]) (st' := [.int c1436.1, .int y1435, .ref 82]) (h' := (HX c1436.2 T)) (cs' := 0) (sl' := 0) rfl ?_
            obtain ⟨q1438, hq, h⟩ := ai_bdE h
            refine ev_iast rfl rfl hq ?_
            rw [HXs_82]
            refine ev_go 5 (pc' := 112) (L' := [some (.ref 81), some (.ref 1), some (.int y1431), some (.int y1432), some (.int y1433), some (.int y1434), some (.int y1435), some (.int c1436.1)]) (st' := [.int ((a_fall_down c1436.2) + c1436.1), .ref 81]) (h' := (HX (u_fall_passedThick c1436.2 q1438) T)) (cs' := 0) (sl' := 0) rfl ?_
            refine ev_step rfl rfl rfl (PFX_0_24_81 rfl) ?_
            refine ev_go 4 (pc' := 10) (L' := [some (.ref 81), some (.ref 1), some (.int y1431), some (.int y1432), some (.int y1433), some (.int y1435), some (.int (y1435 + 1)), some (.int c1436.1)]) (st' := []) (h' := (HX (u_fall_down (u_fall_passedThick c1436.2 q1438) ((a_fall_down c1436.2) + c1436.1)) T)) (cs' := 0) (sl' := 0) rfl ?_
            exact ih0 _ _ _ _ _ _ _ h T _
          · refine ev_ic_gt (t := 95) rfl rfl (fun c9 => absurd c9 hc) (fun _ => ?_)
            refine ev_go 2 (pc' := 91) (L' := [some (.ref 81), some (.ref 1), some (.int y1431), some (.int y1432), some (.int y1433), some (.int y1434), some (.int y1435), some (.int c1436.1)]) (st' := [.int y1435, .ref 81]) (h' := (HX c1436.2 T)) (cs' := 0) (sl' := 0) rfl ?_
            refine ev_step rfl rfl rfl (PFX_0_21_81 rfl) ?_
            obtain rfl := Option.some.inj h
            exact ev_end rfl
        · refine ev_ic_eq (t := 69) rfl rfl (fun c9 => absurd c9 hc) (fun _ => ?_)
          refine ev_go 6 (pc' := 48) (L' := [some (.ref 81), some (.ref 1), some (.int y1431), some (.int y1432), some (.int y1433), some (.int y1434), some (.int y1435), some (.int c1436.1)]) (st' := [.int y1433, .int (y1435 - 1), .ref 1, .ref 81]) (h' := (HX c1436.2 T)) (cs' := 0) (sl' := 0) rfl ?_
          obtain ⟨c1442, hq, h⟩ := ai_bdE h
          refine ev_call (M' := mfall_getsThrough) (L' := [some (.ref 81), some (.ref 1), some (.int (y1435 - 1)), some (.int y1433)]) (rest := []) (rv := some (.int c1442.1)) (h' := (HX c1442.2 T)) rfl (Efall_getsThrough_81_1 (y1435 - 1) y1433 c1436.2 _ _ hq T) ?_
          show ai_ev D1 mfall_letGo 51 [some (.ref 81), some (.ref 1), some (.int y1431), some (.int y1432), some (.int y1433), some (.int y1434), some (.int y1435), some (.int c1436.1)] [.int c1442.1] (HX c1442.2 T) 0 0 _
          rcases ai_ifE h with ⟨hc, h⟩ | ⟨hc, h⟩
          · refine ev_if_ne (t := 69) rfl rfl (fun c9 => absurd hc c9) (fun _ => ?_)
            refine ev_go 4 (pc' := 59) (L' := [some (.ref 81), some (.ref 1), some (.int y1431), some (.int y1432), some (.int y1433), some (.int y1434), some (.int y1435), some (.int c1436.1)]) (st' := [.int (y1435 - 1), .ref 81]) (h' := (HX c1442.2 T)) (cs' := 0) (sl' := 0) rfl ?_
            refine ev_step rfl rfl rfl (PFX_0_30_81 rfl) ?_
            refine ev_go 2 (pc' := 65) (L' := [some (.ref 81), some (.ref 1), some (.int y1431), some (.int y1432), some (.int y1433), some (.int y1434), some (.int y1435), some (.int c1436.1)]) (st' := [.int y1434, .ref 81]) (h' := (HX (u_fall_stopper c1442.2 (y1435 - 1)) T)) (cs' := 0) (sl' := 0) rfl ?_
            refine ev_step rfl rfl rfl (PFX_0_21_81 rfl) ?_
            obtain rfl := Option.some.inj h
            exact ev_end rfl
          · refine ev_if_ne (t := 69) rfl rfl (fun _ => ?_) (fun c9 => absurd c9 hc)
            refine ev_go 7 (pc' := 83) (L' := [some (.ref 81), some (.ref 1), some (.int y1431), some (.int y1432), some (.int y1433), some (.int y1434), some (.int y1435), some (.int c1436.1)]) (st' := [.int y1435, .ref 2, .int (a_fall_room c1442.2), .int (a_fall_weighs c1442.2)]) (h' := (HX c1442.2 T)) (cs' := 0) (sl' := 0) rfl ?_
            obtain ⟨v1443, hq, h⟩ := ai_bdE h
            refine ev_iald rfl rfl hq ?_
            refine ev_go 1 (pc' := 85) (L' := [some (.ref 81), some (.ref 1), some (.int y1431), some (.int y1432), some (.int y1433), some (.int y1434), some (.int y1435), some (.int c1436.1)]) (st' := [.int ((a_fall_room c1442.2) * v1443), .int (a_fall_weighs c1442.2)]) (h' := (HX c1442.2 T)) (cs' := 0) (sl' := 0) rfl ?_
            rcases ai_ifE h with ⟨hc, h⟩ | ⟨hc, h⟩
            · refine ev_ic_gt (t := 95) rfl rfl (fun _ => ?_) (fun c9 => absurd hc c9)
              refine ev_go 4 (pc' := 103) (L' := [some (.ref 81), some (.ref 1), some (.int y1431), some (.int y1432), some (.int y1433), some (.int y1434), some (.int y1435), some (.int c1436.1)]) (st' := [.int c1436.1, .int y1435, .ref 82]) (h' := (HX c1442.2 T)) (cs' := 0) (sl' := 0) rfl ?_
              obtain ⟨q1444, hq, h⟩ := ai_bdE h
              refine ev_iast rfl rfl hq ?_
              rw [HXs_82]
              refine ev_go 5 (pc' := 112) (L' := [some (.ref 81), some (.ref 1), some (.int y1431), some (.int y1432), some (.int y1433), some (.int y1434), some (.int y1435), some (.int c1436.1)]) (st' := [.int ((a_fall_down c1442.2) + c1436.1), .ref 81]) (h' := (HX (u_fall_passedThick c1442.2 q1444) T)) (cs' := 0) (sl' := 0) rfl ?_
              refine ev_step rfl rfl rfl (PFX_0_24_81 rfl) ?_
              refine ev_go 4 (pc' := 10) (L' := [some (.ref 81), some (.ref 1), some (.int y1431), some (.int y1432), some (.int y1433), some (.int y1435), some (.int (y1435 + 1)), some (.int c1436.1)]) (st' := []) (h' := (HX (u_fall_down (u_fall_passedThick c1442.2 q1444) ((a_fall_down c1442.2) + c1436.1)) T)) (cs' := 0) (sl' := 0) rfl ?_
              exact ih0 _ _ _ _ _ _ _ h T _
            · refine ev_ic_gt (t := 95) rfl rfl (fun c9 => absurd c9 hc) (fun _ => ?_)
              refine ev_go 2 (pc' := 91) (L' := [some (.ref 81), some (.ref 1), some (.int y1431), some (.int y1432), some (.int y1433), some (.int y1434), some (.int y1435), some (.int c1436.1)]) (st' := [.int y1435, .ref 81]) (h' := (HX c1442.2 T)) (cs' := 0) (sl' := 0) rfl ?_
              refine ev_step rfl rfl rfl (PFX_0_21_81 rfl) ?_
              obtain rfl := Option.some.inj h
              exact ev_end rfl
set_option maxHeartbeats 40000000 in
set_option maxRecDepth 100000 in
theorem Efall_letGo_81_1 (n : Nat) (x1421 : Int32) (x1422 : Int32) (x1423 : Int32) (w : WX) (w' : WX) (h : Ffall_letGo_81_1 n x1421 x1422 x1423 w = some w') (T : ai_H) : ai_ev D1 mfall_letGo 0 [some (.ref 81), some (.ref 1), some (.int x1421), some (.int x1422), some (.int x1423), none, none, none] [] (HX w T) 0 0 (none, HX w' T) := by
  unfold Ffall_letGo_81_1 at h
  have ih0 := EGfall_letGo_81_1 n
  refine ev_go 1 (pc' := 1) (L' := [some (.ref 81), some (.ref 1), some (.int x1421), some (.int x1422), some (.int x1423), none, none, none]) (st' := [.ref 81]) (h' := (HX w T)) (cs' := 0) (sl' := 0) rfl ?_
  obtain ⟨c1430, hq, h⟩ := ai_bdE h
  refine ev_call (M' := mfall_forget) (L' := [some (.ref 81)]) (rest := []) (rv := none) (h' := (HX c1430 T)) rfl (Efall_forget_81 n w _ hq T) ?_
  show ai_ev D1 mfall_letGo 4 [some (.ref 81), some (.ref 1), some (.int x1421), some (.int x1422), some (.int x1423), none, none, none] [] (HX c1430 T) 0 0 _
  refine ev_go 4 (pc' := 10) (L' := [some (.ref 81), some (.ref 1), some (.int x1421), some (.int x1422), some (.int x1423), some (.int (-1)), some (.int 0), none]) (st' := []) (h' := (HX c1430 T)) (cs' := 0) (sl' := 0) rfl ?_
  exact ih0 _ _ _ _ _ _ _ h T _
