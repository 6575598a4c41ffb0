set_option maxHeartbeats 40000000 in
set_option maxRecDepth 100000 in
theorem Ef_takesBallast_0 (x1279 : Int32) (w : WX) (r : Int32) (w' : WX) (h : Ff_takesBallast_0 x1279 w = some (r, w')) (T : ai_H) : ai_ev D1 mf_takesBallast 0 [some (.ref 0), some (.int x1279)] [] (HX w T) 0 0 (some (.int r), HX w' T) := by
  unfold Ff_takesBallast_0 at h
  refine ev_go 4 (pc' := 8) (L' := [some (.ref 0), some (.int x1279)]) (st' := [.int x1279, .ref 7]) (h' := (HX w T)) (cs' := 0) (sl' := 0) rfl ?_
  obtain ⟨c1280, hq, h⟩ := ai_bdE h
  refine ev_call (M' := mthg_has) (L' := [some (.ref 7), some (.int x1279)]) (rest := []) (rv := some (.int c1280.1)) (h' := (HX c1280.2 T)) rfl (Ethg_has_7 x1279 w _ _ hq T) ?_
  show ai_ev D1 mf_takesBallast 11 [some (.ref 0), some (.int x1279)] [.int c1280.1] (HX c1280.2 T) 0 0 _
  rcases ai_ifE h with ⟨hc, h⟩ | ⟨hc, h⟩
  · refine ev_if_eq (t := 38) rfl rfl (fun _ => ?_) (fun c9 => absurd hc c9)
    refine ev_go 1 (pc' := 39) (L' := [some (.ref 0), some (.int x1279)]) (st' := [.int 0]) (h' := (HX c1280.2 T)) (cs' := 0) (sl' := 0) rfl ?_
    obtain ⟨rfl, rfl⟩ := ai_smP h
    exact ev_end rfl
  · refine ev_if_eq (t := 38) rfl rfl (fun c9 => absurd c9 hc) (fun _ => ?_)
    refine ev_go 5 (pc' := 25) (L' := [some (.ref 0), some (.int x1279)]) (st' := [.int x1279, .ref 8]) (h' := (HX c1280.2 T)) (cs' := 0) (sl' := 0) rfl ?_
    obtain ⟨v1281, hq, h⟩ := ai_bdE h
    refine ev_iald rfl rfl hq ?_
    refine ev_go 2 (pc' := 28) (L' := [some (.ref 0), some (.int x1279)]) (st' := [.int 3, .int 1, .int v1281]) (h' := (HX c1280.2 T)) (cs' := 0) (sl' := 0) rfl ?_
    obtain ⟨c1282, hq, h⟩ := ai_bdE h
    refine ev_call (M' := mf_within) (L' := [some (.int v1281), some (.int 1), some (.int 3)]) (rest := []) (rv := some (.int c1282)) (h' := (HX c1280.2 T)) rfl (Ef_within v1281 1 3 _ hq (HX c1280.2 T)) ?_
    show ai_ev D1 mf_takesBallast 31 [some (.ref 0), some (.int x1279)] [.int c1282] (HX c1280.2 T) 0 0 _
    rcases ai_ifE h with ⟨hc, h⟩ | ⟨hc, h⟩
    · refine ev_if_eq (t := 38) rfl rfl (fun _ => ?_) (fun c9 => absurd hc c9)
      refine ev_go 1 (pc' := 39) (L' := [some (.ref 0), some (.int x1279)]) (st' := [.int 0]) (h' := (HX c1280.2 T)) (cs' := 0) (sl' := 0) rfl ?_
      obtain ⟨rfl, rfl⟩ := ai_smP h
      exact ev_end rfl
    · refine ev_if_eq (t := 38) rfl rfl (fun c9 => absurd c9 hc) (fun _ => ?_)
      refine ev_go 2 (pc' := 39) (L' := [some (.ref 0), some (.int x1279)]) (st' := [.int 1]) (h' := (HX c1280.2 T)) (cs' := 0) (sl' := 0) rfl ?_
      obtain ⟨rfl, rfl⟩ := ai_smP h
      exact ev_end rfl
set_option maxHeartbeats 40000000 in
set_option maxRecDepth 100000 in
theorem Ef_letGoWithBallast_0 (n : Nat) (x1297 : Int32) (x1298 : Int32) (x1299 : Int32) (x1300 : Int32) (w : WX) (w' : WX) (h : Ff_letGoWithBallast_0 n x1297 x1298 x1299 x1300 w = some w') (T : ai_H) : ai_ev D1 mf_letGoWithBallast 0 [some (.ref 0), some (.int x1297), some (.int x1298), some (.int x1299), some (.int x1300)] [] (HX w T) 0 0 (none, HX w' T) := by
  unfold Ff_letGoWithBallast_0 at h
  refine ev_go 4 (pc' := 5) (L' := [some (.ref 0), some (.int x1297), some (.int x1298), some (.int x1299), some (.int x1300)]) (st' := [.int x1300, .int x1299, .int x1297, .ref 0]) (h' := (HX w T)) (cs' := 0) (sl' := 0) rfl ?_
  obtain ⟨c1301, hq, h⟩ := ai_bdE h
  refine ev_call (M' := mf_shapeWithBallast) (L' := [some (.ref 0), some (.int x1297), some (.int x1299), some (.int x1300), none]) (rest := []) (rv := none) (h' := (HX c1301 T)) rfl (Ef_shapeWithBallast_0 x1297 x1299 x1300 w _ hq T) ?_
  show ai_ev D1 mf_letGoWithBallast 8 [some (.ref 0), some (.int x1297), some (.int x1298), some (.int x1299), some (.int x1300)] [] (HX c1301 T) 0 0 _
  refine ev_go 7 (pc' := 20) (L' := [some (.ref 0), some (.int x1297), some (.int x1298), some (.int x1299), some (.int x1300)]) (st' := [.int 0, .int x1300, .int x1298, .ref 1, .ref 81]) (h' := (HX c1301 T)) (cs' := 0) (sl' := 0) rfl ?_
  obtain ⟨c1302, hq, h⟩ := ai_bdE h
  refine ev_call (M' := mfall_letGo) (L' := [some (.ref 81), some (.ref 1), some (.int x1298), some (.int x1300), some (.int 0), none, none, none]) (rest := []) (rv := none) (h' := (HX c1302 T)) rfl (Efall_letGo_81_1 n x1298 x1300 0 c1301 _ hq T) ?_
  show ai_ev D1 mf_letGoWithBallast 23 [some (.ref 0), some (.int x1297), some (.int x1298), some (.int x1299), some (.int x1300)] [] (HX c1302 T) 0 0 _
  obtain rfl := Option.some.inj h
  exact ev_end rfl
set_option maxHeartbeats 40000000 in
set_option maxRecDepth 100000 in
theorem EGf_leastBallast_0 : ∀ n : Nat, (∀ (y1292 : Int32) (y1293 : Int32) (y1294 : Int32) (y1295 : Int32) (y1296 : Int32) (w : WX) (r : Int32) (w' : WX), Gf_leastBallast_0 n 0 y1292 y1293 y1294 y1295 y1296 w = some (r, w') → ∀ (T : ai_H), ai_ev D1 mf_leastBallast 3 [some (.ref 0), some (.int y1292), some (.int y1293), some (.int y1294), some (.int y1295), some (.int y1296)] [] (HX w T) 0 0 (some (.int r), HX w' T)) := by
  intro n
  induction n with
  | zero =>
    exact (fun _ _ _ _ _ _ _ _ h => by cases h)
  | succ n ih0 =>
    intro y1292 y1293 y1294 y1295 y1296 w r w' h T
    simp only [Gf_leastBallast_0] at h
    refine ev_go 2 (pc' := 7) (L' := [some (.ref 0), some (.int y1292), some (.int y1293), some (.int y1294), some (.int y1295), some (.int y1296)]) (st' := [.int 99, .int y1296]) (h' := (HX w T)) (cs' := 0) (sl' := 0) rfl ?_
    rcases ai_ifE h with ⟨hc, h⟩ | ⟨hc, h⟩
    · refine ev_ic_gt (t := 40) rfl rfl (fun _ => ?_) (fun c9 => absurd hc c9)
      refine ev_go 1 (pc' := 41) (L' := [some (.ref 0), some (.int y1292), some (.int y1293), some (.int y1294), some (.int y1295), some (.int y1296)]) (st' := [.int (-1)]) (h' := (HX w T)) (cs' := 0) (sl' := 0) rfl ?_
      obtain ⟨rfl, rfl⟩ := ai_smP h
      exact ev_end rfl
    · refine ev_ic_gt (t := 40) rfl rfl (fun c9 => absurd c9 hc) (fun _ => ?_)
      refine ev_go 5 (pc' := 17) (L' := [some (.ref 0), some (.int y1292), some (.int y1293), some (.int y1294), some (.int y1295), some (.int y1296)]) (st' := [.int y1295, .int y1296, .int y1293, .int y1292, .ref 0]) (h' := (HX w T)) (cs' := 0) (sl' := 0) rfl ?_
      obtain ⟨c1303, hq, h⟩ := ai_bdE h
      refine ev_call (M' := mf_letGoWithBallast) (L' := [some (.ref 0), some (.int y1292), some (.int y1293), some (.int y1296), some (.int y1295)]) (rest := []) (rv := none) (h' := (HX c1303 T)) rfl (Ef_letGoWithBallast_0 n y1292 y1293 y1296 y1295 w _ hq T) ?_
      show ai_ev D1 mf_leastBallast 20 [some (.ref 0), some (.int y1292), some (.int y1293), some (.int y1294), some (.int y1295), some (.int y1296)] [] (HX c1303 T) 0 0 _
      refine ev_go 4 (pc' := 28) (L' := [some (.ref 0), some (.int y1292), some (.int y1293), some (.int y1294), some (.int y1295), some (.int y1296)]) (st' := [.int y1294, .int (a_fall_layer c1303)]) (h' := (HX c1303 T)) (cs' := 0) (sl' := 0) rfl ?_
      rcases ai_ifE h with ⟨hc, h⟩ | ⟨hc, h⟩
      · refine ev_ic_ne (t := 34) rfl rfl (fun c9 => absurd hc c9) (fun _ => ?_)
        refine ev_go 1 (pc' := 33) (L' := [some (.ref 0), some (.int y1292), some (.int y1293), some (.int y1294), some (.int y1295), some (.int y1296)]) (st' := [.int y1296]) (h' := (HX c1303 T)) (cs' := 0) (sl' := 0) rfl ?_
        obtain ⟨rfl, rfl⟩ := ai_smP h
        exact ev_end rfl
      · refine ev_ic_ne (t := 34) rfl rfl (fun _ => ?_) (fun c9 => absurd c9 hc)
        refine ev_go 2 (pc' := 3) (L' := [some (.ref 0), some (.int y1292), some (.int y1293), some (.int y1294), some (.int y1295), some (.int (y1296 + 1))]) (st' := []) (h' := (HX c1303 T)) (cs' := 0) (sl' := 0) rfl ?_
        exact ih0 _ _ _ _ _ _ _ _ h T
set_option maxHeartbeats 40000000 in
set_option maxRecDepth 100000 in
theorem Ef_leastBallast_0 (n : Nat) (x1288 : Int32) (x1289 : Int32) (x1290 : Int32) (x1291 : Int32) (w : WX) (r : Int32) (w' : WX) (h : Ff_leastBallast_0 n x1288 x1289 x1290 x1291 w = some (r, w')) (T : ai_H) : ai_ev D1 mf_leastBallast 0 [some (.ref 0), some (.int x1288), some (.int x1289), some (.int x1290), some (.int x1291), none] [] (HX w T) 0 0 (some (.int r), HX w' T) := by
  unfold Ff_leastBallast_0 at h
  have ih0 := EGf_leastBallast_0 n
  refine ev_go 2 (pc' := 3) (L' := [some (.ref 0), some (.int x1288), some (.int x1289), some (.int x1290), some (.int x1291), some (.int 0)]) (st' := []) (h' := (HX w T)) (cs' := 0) (sl' := 0) rfl ?_
  exact ih0 _ _ _ _ _ _ _ _ h T
set_option maxHeartbeats 40000000 in
set_option maxRecDepth 100000 in
theorem Ef_sink_0 (n : Nat) (x1276 : Int32) (x1277 : Int32) (x1278 : Int32) (w : WX) (r : Int32) (w' : WX) (h : Ff_sink_0 n x1276 x1277 x1278 w = some (r, w')) (T : ai_H) : ai_ev D1 mf_sink 0 [some (.ref 0), some (.int x1276), some (.int x1277), some (.int x1278)] [] (HX w T) 0 0 (some (.int r), HX w' T) := by
  unfold Ff_sink_0 at h
  refine ev_go 2 (pc' := 2) (L' := [some (.ref 0), some (.int x1276), some (.int x1277), some (.int x1278)]) (st' := [.int x1276, .ref 0]) (h' := (HX w T)) (cs' := 0) (sl' := 0) rfl ?_
  obtain ⟨c1283, hq, h⟩ := ai_bdE h
  refine ev_call (M' := mf_takesBallast) (L' := [some (.ref 0), some (.int x1276)]) (rest := []) (rv := some (.int c1283.1)) (h' := (HX c1283.2 T)) rfl (Ef_takesBallast_0 x1276 w _ _ hq T) ?_
  show ai_ev D1 mf_sink 5 [some (.ref 0), some (.int x1276), some (.int x1277), some (.int x1278)] [.int c1283.1] (HX c1283.2 T) 0 0 _
  rcases ai_ifE h with ⟨hc, h⟩ | ⟨hc, h⟩
  · refine ev_if_eq (t := 28) rfl rfl (fun _ => ?_) (fun c9 => absurd hc c9)
    refine ev_go 2 (pc' := 31) (L' := [some (.ref 0), some (.int x1276), some (.int x1277), some (.int x1278)]) (st' := [.int (-10), .ref 0]) (h' := (HX c1283.2 T)) (cs' := 0) (sl' := 0) rfl ?_
    obtain ⟨c1284, hq, h⟩ := ai_bdE h
    refine ev_call (M' := mf_bad) (L' := [some (.ref 0), some (.int (-10))]) (rest := []) (rv := some (.int c1284.1)) (h' := (HX c1284.2 T)) rfl (Ef_bad_0 (-10) c1283.2 _ _ hq T) ?_
    show ai_ev D1 mf_sink 34 [some (.ref 0), some (.int x1276), some (.int x1277), some (.int x1278)] [.int c1284.1] (HX c1284.2 T) 0 0 _
    obtain ⟨rfl, rfl⟩ := ai_smP h
    exact ev_end rfl
  · refine ev_if_eq (t := 28) rfl rfl (fun c9 => absurd c9 hc) (fun _ => ?_)
    refine ev_go 3 (pc' := 13) (L' := [some (.ref 0), some (.int x1276), some (.int x1277), some (.int x1278)]) (st' := [.int x1277, .ref 1]) (h' := (HX c1283.2 T)) (cs' := 0) (sl' := 0) rfl ?_
    obtain ⟨c1285, hq, h⟩ := ai_bdE h
    refine ev_call (M' := msea_hasCell) (L' := [some (.ref 1), some (.int x1277)]) (rest := []) (rv := some (.int c1285.1)) (h' := (HX c1285.2 T)) rfl (Esea_hasCell_1 x1277 c1283.2 _ _ hq T) ?_
    show ai_ev D1 mf_sink 16 [some (.ref 0), some (.int x1276), some (.int x1277), some (.int x1278)] [.int c1285.1] (HX c1285.2 T) 0 0 _
    rcases ai_ifE h with ⟨hc, h⟩ | ⟨hc, h⟩
    · refine ev_if_eq (t := 28) rfl rfl (fun _ => ?_) (fun c9 => absurd hc c9)
      refine ev_go 2 (pc' := 31) (L' := [some (.ref 0), some (.int x1276), some (.int x1277), some (.int x1278)]) (st' := [.int (-10), .ref 0]) (h' := (HX c1285.2 T)) (cs' := 0) (sl' := 0) rfl ?_
      obtain ⟨c1286, hq, h⟩ := ai_bdE h
      refine ev_call (M' := mf_bad) (L' := [some (.ref 0), some (.int (-10))]) (rest := []) (rv := some (.int c1286.1)) (h' := (HX c1286.2 T)) rfl (Ef_bad_0 (-10) c1285.2 _ _ hq T) ?_
      show ai_ev D1 mf_sink 34 [some (.ref 0), some (.int x1276), some (.int x1277), some (.int x1278)] [.int c1286.1] (HX c1286.2 T) 0 0 _
      obtain ⟨rfl, rfl⟩ := ai_smP h
      exact ev_end rfl
    · refine ev_if_eq (t := 28) rfl rfl (fun c9 => absurd c9 hc) (fun _ => ?_)
      refine ev_go 3 (pc' := 22) (L' := [some (.ref 0), some (.int x1276), some (.int x1277), some (.int x1278)]) (st' := [.int 4, .int 0, .int x1278]) (h' := (HX c1285.2 T)) (cs' := 0) (sl' := 0) rfl ?_
      obtain ⟨c1287, hq, h⟩ := ai_bdE h
      refine ev_call (M' := mf_within) (L' := [some (.int x1278), some (.int 0), some (.int 4)]) (rest := []) (rv := some (.int c1287)) (h' := (HX c1285.2 T)) rfl (Ef_within x1278 0 4 _ hq (HX c1285.2 T)) ?_
      show ai_ev D1 mf_sink 25 [some (.ref 0), some (.int x1276), some (.int x1277), some (.int x1278)] [.int c1287] (HX c1285.2 T) 0 0 _
      rcases ai_ifE h with ⟨hc, h⟩ | ⟨hc, h⟩
      · refine ev_if_ne (t := 35) rfl rfl (fun c9 => absurd hc c9) (fun _ => ?_)
        refine ev_go 2 (pc' := 31) (L' := [some (.ref 0), some (.int x1276), some (.int x1277), some (.int x1278)]) (st' := [.int (-10), .ref 0]) (h' := (HX c1285.2 T)) (cs' := 0) (sl' := 0) rfl ?_
        obtain ⟨c1305, hq, h⟩ := ai_bdE h
        refine ev_call (M' := mf_bad) (L' := [some (.ref 0), some (.int (-10))]) (rest := []) (rv := some (.int c1305.1)) (h' := (HX c1305.2 T)) rfl (Ef_bad_0 (-10) c1285.2 _ _ hq T) ?_
        show ai_ev D1 mf_sink 34 [some (.ref 0), some (.int x1276), some (.int x1277), some (.int x1278)] [.int c1305.1] (HX c1305.2 T) 0 0 _
        obtain ⟨rfl, rfl⟩ := ai_smP h
        exact ev_end rfl
      · refine ev_if_ne (t := 35) rfl rfl (fun _ => ?_) (fun c9 => absurd c9 hc)
        refine ev_go 7 (pc' := 46) (L' := [some (.ref 0), some (.int x1276), some (.int x1277), some (.int x1278)]) (st' := [.int (a_s1_hour c1285.2), .int x1278, .int x1277, .int x1276, .ref 0]) (h' := (HX c1285.2 T)) (cs' := 0) (sl' := 0) rfl ?_
        obtain ⟨c1304, hq, h⟩ := ai_bdE h
        refine ev_call (M' := mf_leastBallast) (L' := [some (.ref 0), some (.int x1276), some (.int x1277), some (.int x1278), some (.int (a_s1_hour c1285.2)), none]) (rest := []) (rv := some (.int c1304.1)) (h' := (HX c1304.2 T)) rfl (Ef_leastBallast_0 n x1276 x1277 x1278 (a_s1_hour c1285.2) c1285.2 _ _ hq T) ?_
        show ai_ev D1 mf_sink 49 [some (.ref 0), some (.int x1276), some (.int x1277), some (.int x1278)] [.int c1304.1] (HX c1304.2 T) 0 0 _
        obtain ⟨rfl, rfl⟩ := ai_smP h
        exact ev_end rfl
set_option maxHeartbeats 40000000 in
set_option maxRecDepth 100000 in
theorem Ef_holds_0 (n : Nat) (x1306 : Int32) (x1307 : Int32) (w : WX) (r : Int32) (w' : WX) (h : Ff_holds_0 n x1306 x1307 w = some (r, w')) (T : ai_H) : ai_ev D1 mf_holds 0 [some (.ref 0), some (.int x1306), some (.int x1307)] [] (HX w T) 0 0 (some (.int r), HX w' T) := by
  unfold Ff_holds_0 at h
  refine ev_go 2 (pc' := 2) (L' := [some (.ref 0), some (.int x1306), some (.int x1307)]) (st' := [.int x1306, .ref 0]) (h' := (HX w T)) (cs' := 0) (sl' := 0) rfl ?_
  obtain ⟨c1308, hq, h⟩ := ai_bdE h
  refine ev_call (M' := mf_takesBallast) (L' := [some (.ref 0), some (.int x1306)]) (rest := []) (rv := some (.int c1308.1)) (h' := (HX c1308.2 T)) rfl (Ef_takesBallast_0 x1306 w _ _ hq T) ?_
  show ai_ev D1 mf_holds 5 [some (.ref 0), some (.int x1306), some (.int x1307)] [.int c1308.1] (HX c1308.2 T) 0 0 _
  rcases ai_ifE h with ⟨hc, h⟩ | ⟨hc, h⟩
  · refine ev_if_eq (t := 19) rfl rfl (fun _ => ?_) (fun c9 => absurd hc c9)
    refine ev_go 2 (pc' := 22) (L' := [some (.ref 0), some (.int x1306), some (.int x1307)]) (st' := [.int (-10), .ref 0]) (h' := (HX c1308.2 T)) (cs' := 0) (sl' := 0) rfl ?_
    obtain ⟨c1309, hq, h⟩ := ai_bdE h
    refine ev_call (M' := mf_bad) (L' := [some (.ref 0), some (.int (-10))]) (rest := []) (rv := some (.int c1309.1)) (h' := (HX c1309.2 T)) rfl (Ef_bad_0 (-10) c1308.2 _ _ hq T) ?_
    show ai_ev D1 mf_holds 25 [some (.ref 0), some (.int x1306), some (.int x1307)] [.int c1309.1] (HX c1309.2 T) 0 0 _
    obtain ⟨rfl, rfl⟩ := ai_smP h
    exact ev_end rfl
  · refine ev_if_eq (t := 19) rfl rfl (fun c9 => absurd c9 hc) (fun _ => ?_)
    refine ev_go 3 (pc' := 13) (L' := [some (.ref 0), some (.int x1306), some (.int x1307)]) (st' := [.int x1307, .ref 1]) (h' := (HX c1308.2 T)) (cs' := 0) (sl' := 0) rfl ?_
    obtain ⟨c1310, hq, h⟩ := ai_bdE h
    refine ev_call (M' := msea_hasCell) (L' := [some (.ref 1), some (.int x1307)]) (rest := []) (rv := some (.int c1310.1)) (h' := (HX c1310.2 T)) rfl (Esea_hasCell_1 x1307 c1308.2 _ _ hq T) ?_
    show ai_ev D1 mf_holds 16 [some (.ref 0), some (.int x1306), some (.int x1307)] [.int c1310.1] (HX c1310.2 T) 0 0 _
    rcases ai_ifE h with ⟨hc, h⟩ | ⟨hc, h⟩
    · refine ev_if_ne (t := 26) rfl rfl (fun c9 => absurd hc c9) (fun _ => ?_)
      refine ev_go 2 (pc' := 22) (L' := [some (.ref 0), some (.int x1306), some (.int x1307)]) (st' := [.int (-10), .ref 0]) (h' := (HX c1310.2 T)) (cs' := 0) (sl' := 0) rfl ?_
      obtain ⟨c1312, hq, h⟩ := ai_bdE h
      refine ev_call (M' := mf_bad) (L' := [some (.ref 0), some (.int (-10))]) (rest := []) (rv := some (.int c1312.1)) (h' := (HX c1312.2 T)) rfl (Ef_bad_0 (-10) c1310.2 _ _ hq T) ?_
      show ai_ev D1 mf_holds 25 [some (.ref 0), some (.int x1306), some (.int x1307)] [.int c1312.1] (HX c1312.2 T) 0 0 _
      obtain ⟨rfl, rfl⟩ := ai_smP h
      exact ev_end rfl
    · refine ev_if_ne (t := 26) rfl rfl (fun _ => ?_) (fun c9 => absurd c9 hc)
      refine ev_go 7 (pc' := 38) (L' := [some (.ref 0), some (.int x1306), some (.int x1307)]) (st' := [.int (a_s1_hour c1310.2), .int 99, .int x1307, .int x1306, .ref 0]) (h' := (HX c1310.2 T)) (cs' := 0) (sl' := 0) rfl ?_
      obtain ⟨c1311, hq, h⟩ := ai_bdE h
      refine ev_call (M' := mf_letGoWithBallast) (L' := [some (.ref 0), some (.int x1306), some (.int x1307), some (.int 99), some (.int (a_s1_hour c1310.2))]) (rest := []) (rv := none) (h' := (HX c1311 T)) rfl (Ef_letGoWithBallast_0 n x1306 x1307 99 (a_s1_hour c1310.2) c1310.2 _ hq T) ?_
      show ai_ev D1 mf_holds 41 [some (.ref 0), some (.int x1306), some (.int x1307)] [] (HX c1311 T) 0 0 _
      refine ev_go 3 (pc' := 48) (L' := [some (.ref 0), some (.int x1306), some (.int x1307)]) (st' := [.int (a_fall_stopper c1311)]) (h' := (HX c1311 T)) (cs' := 0) (sl' := 0) rfl ?_
      obtain ⟨rfl, rfl⟩ := ai_smP h
      exact ev_end rfl
set_option maxHeartbeats 40000000 in
set_option maxRecDepth 100000 in
theorem EGf_bestHour_0 : ∀ n : Nat, (∀ (y1322 : Int32) (y1323 : Int32) (y1324 : Int32) (y1325 : Int32) (y1326 : Int32) (y1327 : Int32) (w : WX) (r : Int32) (w' : WX), Gf_bestHour_0 n 0 y1322 y1323 y1324 y1325 y1326 y1327 w = some (r, w') → ∀ (T : ai_H) (o7 : Option Value), ai_ev D1 mf_bestHour 45 [some (.ref 0), some (.int y1322), some (.int y1323), some (.int y1324), some (.int y1325), some (.int y1326), some (.int y1327), o7] [] (HX w T) 0 0 (some (.int r), HX w' T)) := by
  intro n
  induction n with
  | zero =>
    exact (fun _ _ _ _ _ _ _ _ _ h => by cases h)
  | succ n ih0 =>
    intro y1322 y1323 y1324 y1325 y1326 y1327 w r w' h T o7
    simp only [Gf_bestHour_0] at h
    refine ev_go 2 (pc' := 49) (L' := [some (.ref 0), some (.int y1322), some (.int y1323), some (.int y1324), some (.int y1325), some (.int y1326), some (.int y1327), o7]) (st' := [.int 6, .int y1327]) (h' := (HX w T)) (cs' := 0) (sl' := 0) rfl ?_
    rcases ai_ifE h with ⟨hc, h⟩ | ⟨hc, h⟩
    · refine ev_ic_ge (t := 98) rfl rfl (fun _ => ?_) (fun c9 => absurd hc c9)
      refine ev_go 1 (pc' := 100) (L' := [some (.ref 0), some (.int y1322), some (.int y1323), some (.int y1324), some (.int y1325), some (.int y1326), some (.int y1327), o7]) (st' := [.int y1325]) (h' := (HX w T)) (cs' := 0) (sl' := 0) rfl ?_
      obtain ⟨rfl, rfl⟩ := ai_smP h
      exact ev_end rfl
    · refine ev_ic_ge (t := 98) rfl rfl (fun c9 => absurd c9 hc) (fun _ => ?_)
      refine ev_go 9 (pc' := 66) (L' := [some (.ref 0), some (.int y1322), some (.int y1323), some (.int y1324), some (.int y1325), some (.int y1326), some (.int y1327), o7]) (st' := [.int ((a_s1_hour w) + y1327), .int y1324, .int y1323, .int y1322, .ref 0]) (h' := (HX w T)) (cs' := 0) (sl' := 0) rfl ?_
      obtain ⟨c1328, hq, h⟩ := ai_bdE h
      refine ev_call (M' := mf_leastBallast) (L' := [some (.ref 0), some (.int y1322), some (.int y1323), some (.int y1324), some (.int ((a_s1_hour w) + y1327)), none]) (rest := []) (rv := some (.int c1328.1)) (h' := (HX c1328.2 T)) rfl (Ef_leastBallast_0 n y1322 y1323 y1324 ((a_s1_hour w) + y1327) w _ _ hq T) ?_
      show ai_ev D1 mf_bestHour 69 [some (.ref 0), some (.int y1322), some (.int y1323), some (.int y1324), some (.int y1325), some (.int y1326), some (.int y1327), o7] [.int c1328.1] (HX c1328.2 T) 0 0 _
      refine ev_go 3 (pc' := 74) (L' := [some (.ref 0), some (.int y1322), some (.int y1323), some (.int y1324), some (.int y1325), some (.int y1326), some (.int y1327), some (.int c1328.1)]) (st' := [.int (-1), .int c1328.1]) (h' := (HX c1328.2 T)) (cs' := 0) (sl' := 0) rfl ?_
      rcases ai_ifE h with ⟨hc, h⟩ | ⟨hc, h⟩
      · refine ev_ic_eq (t := 92) rfl rfl (fun _ => ?_) (fun c9 => absurd hc c9)
        refine ev_go 2 (pc' := 45) (L' := [some (.ref 0), some (.int y1322), some (.int y1323), some (.int y1324), some (.int y1325), some (.int y1326), some (.int (y1327 + 1)), some (.int c1328.1)]) (st' := []) (h' := (HX c1328.2 T)) (cs' := 0) (sl' := 0) rfl ?_
        exact ih0 _ _ _ _ _ _ _ _ _ h T _
      · refine ev_ic_eq (t := 92) rfl rfl (fun c9 => absurd c9 hc) (fun _ => ?_)
        refine ev_go 2 (pc' := 81) (L' := [some (.ref 0), some (.int y1322), some (.int y1323), some (.int y1324), some (.int y1325), some (.int y1326), some (.int y1327), some (.int c1328.1)]) (st' := [.int y1326, .int c1328.1]) (h' := (HX c1328.2 T)) (cs' := 0) (sl' := 0) rfl ?_
        rcases ai_ifE h with ⟨hc, h⟩ | ⟨hc, h⟩
        · refine ev_ic_ge (t := 92) rfl rfl (fun _ => ?_) (fun c9 => absurd hc c9)
          refine ev_go 2 (pc' := 45) (L' := [some (.ref 0), some (.int y1322), some (.int y1323), some (.int y1324), some (.int y1325), some (.int y1326), some (.int (y1327 + 1)), some (.int c1328.1)]) (st' := []) (h' := (HX c1328.2 T)) (cs' := 0) (sl' := 0) rfl ?_
          exact ih0 _ _ _ _ _ _ _ _ _ h T _
        · refine ev_ic_ge (t := 92) rfl rfl (fun c9 => absurd c9 hc) (fun _ => ?_)
          refine ev_go 6 (pc' := 45) (L' := [some (.ref 0), some (.int y1322), some (.int y1323), some (.int y1324), some (.int y1327), some (.int c1328.1), some (.int (y1327 + 1)), some (.int c1328.1)]) (st' := []) (h' := (HX c1328.2 T)) (cs' := 0) (sl' := 0) rfl ?_
          exact ih0 _ _ _ _ _ _ _ _ _ h T _
set_option maxHeartbeats 40000000 in
set_option maxRecDepth 100000 in
theorem Ef_bestHour_0 (n : Nat) (x1313 : Int32) (x1314 : Int32) (x1315 : Int32) (w : WX) (r : Int32) (w' : WX) (h : Ff_bestHour_0 n x1313 x1314 x1315 w = some (r, w')) (T : ai_H) : ai_ev D1 mf_bestHour 0 [some (.ref 0), some (.int x1313), some (.int x1314), some (.int x1315), none, none, none, none] [] (HX w T) 0 0 (some (.int r), HX w' T) := by
  unfold Ff_bestHour_0 at h
  have ih0 := EGf_bestHour_0 n
  refine ev_go 2 (pc' := 2) (L' := [some (.ref 0), some (.int x1313), some (.int x1314), some (.int x1315), none, none, none, none]) (st' := [.int x1313, .ref 0]) (h' := (HX w T)) (cs' := 0) (sl' := 0) rfl ?_
  obtain ⟨c1316, hq, h⟩ := ai_bdE h
  refine ev_call (M' := mf_takesBallast) (L' := [some (.ref 0), some (.int x1313)]) (rest := []) (rv := some (.int c1316.1)) (h' := (HX c1316.2 T)) rfl (Ef_takesBallast_0 x1313 w _ _ hq T) ?_
  show ai_ev D1 mf_bestHour 5 [some (.ref 0), some (.int x1313), some (.int x1314), some (.int x1315), none, none, none, none] [.int c1316.1] (HX c1316.2 T) 0 0 _
  rcases ai_ifE h with ⟨hc, h⟩ | ⟨hc, h⟩
  · refine ev_if_eq (t := 28) rfl rfl (fun _ => ?_) (fun c9 => absurd hc c9)
    refine ev_go 2 (pc' := 31) (L' := [some (.ref 0), some (.int x1313), some (.int x1314), some (.int x1315), none, none, none, none]) (st' := [.int (-10), .ref 0]) (h' := (HX c1316.2 T)) (cs' := 0) (sl' := 0) rfl ?_
    obtain ⟨c1317, hq, h⟩ := ai_bdE h
    refine ev_call (M' := mf_bad) (L' := [some (.ref 0), some (.int (-10))]) (rest := []) (rv := some (.int c1317.1)) (h' := (HX c1317.2 T)) rfl (Ef_bad_0 (-10) c1316.2 _ _ hq T) ?_
    show ai_ev D1 mf_bestHour 34 [some (.ref 0), some (.int x1313), some (.int x1314), some (.int x1315), none, none, none, none] [.int c1317.1] (HX c1317.2 T) 0 0 _
    obtain ⟨rfl, rfl⟩ := ai_smP h
    exact ev_end rfl
  · refine ev_if_eq (t := 28) rfl rfl (fun c9 => absurd c9 hc) (fun _ => ?_)
    refine ev_go 3 (pc' := 13) (L' := [some (.ref 0), some (.int x1313), some (.int x1314), some (.int x1315), none, none, none, none]) (st' := [.int x1314, .ref 1]) (h' := (HX c1316.2 T)) (cs' := 0) (sl' := 0) rfl ?_
    obtain ⟨c1318, hq, h⟩ := ai_bdE h
    refine ev_call (M' := msea_hasCell) (L' := [some (.ref 1), some (.int x1314)]) (rest := []) (rv := some (.int c1318.1)) (h' := (HX c1318.2 T)) rfl (Esea_hasCell_1 x1314 c1316.2 _ _ hq T) ?_
    show ai_ev D1 mf_bestHour 16 [some (.ref 0), some (.int x1313), some (.int x1314), some (.int x1315), none, none, none, none] [.int c1318.1] (HX c1318.2 T) 0 0 _
    rcases ai_ifE h with ⟨hc, h⟩ | ⟨hc, h⟩
    · refine ev_if_eq (t := 28) rfl rfl (fun _ => ?_) (fun c9 => absurd hc c9)
      refine ev_go 2 (pc' := 31) (L' := [some (.ref 0), some (.int x1313), some (.int x1314), some (.int x1315), none, none, none, none]) (st' := [.int (-10), .ref 0]) (h' := (HX c1318.2 T)) (cs' := 0) (sl' := 0) rfl ?_
      obtain ⟨c1319, hq, h⟩ := ai_bdE h
      refine ev_call (M' := mf_bad) (L' := [some (.ref 0), some (.int (-10))]) (rest := []) (rv := some (.int c1319.1)) (h' := (HX c1319.2 T)) rfl (Ef_bad_0 (-10) c1318.2 _ _ hq T) ?_
      show ai_ev D1 mf_bestHour 34 [some (.ref 0), some (.int x1313), some (.int x1314), some (.int x1315), none, none, none, none] [.int c1319.1] (HX c1319.2 T) 0 0 _
      obtain ⟨rfl, rfl⟩ := ai_smP h
      exact ev_end rfl
    · refine ev_if_eq (t := 28) rfl rfl (fun c9 => absurd c9 hc) (fun _ => ?_)
      refine ev_go 3 (pc' := 22) (L' := [some (.ref 0), some (.int x1313), some (.int x1314), some (.int x1315), none, none, none, none]) (st' := [.int 4, .int 0, .int x1315]) (h' := (HX c1318.2 T)) (cs' := 0) (sl' := 0) rfl ?_
      obtain ⟨c1320, hq, h⟩ := ai_bdE h
      refine ev_call (M' := mf_within) (L' := [some (.int x1315), some (.int 0), some (.int 4)]) (rest := []) (rv := some (.int c1320)) (h' := (HX c1318.2 T)) rfl (Ef_within x1315 0 4 _ hq (HX c1318.2 T)) ?_
      show ai_ev D1 mf_bestHour 25 [some (.ref 0), some (.int x1313), some (.int x1314), some (.int x1315), none, none, none, none] [.int c1320] (HX c1318.2 T) 0 0 _
      rcases ai_ifE h with ⟨hc, h⟩ | ⟨hc, h⟩
      · refine ev_if_ne (t := 35) rfl rfl (fun c9 => absurd hc c9) (fun _ => ?_)
        refine ev_go 2 (pc' := 31) (L' := [some (.ref 0), some (.int x1313), some (.int x1314), some (.int x1315), none, none, none, none]) (st' := [.int (-10), .ref 0]) (h' := (HX c1318.2 T)) (cs' := 0) (sl' := 0) rfl ?_
        obtain ⟨c1321, hq, h⟩ := ai_bdE h
        refine ev_call (M' := mf_bad) (L' := [some (.ref 0), some (.int (-10))]) (rest := []) (rv := some (.int c1321.1)) (h' := (HX c1321.2 T)) rfl (Ef_bad_0 (-10) c1318.2 _ _ hq T) ?_
        show ai_ev D1 mf_bestHour 34 [some (.ref 0), some (.int x1313), some (.int x1314), some (.int x1315), none, none, none, none] [.int c1321.1] (HX c1321.2 T) 0 0 _
        obtain ⟨rfl, rfl⟩ := ai_smP h
        exact ev_end rfl
      · refine ev_if_ne (t := 35) rfl rfl (fun _ => ?_) (fun c9 => absurd c9 hc)
        refine ev_go 6 (pc' := 45) (L' := [some (.ref 0), some (.int x1313), some (.int x1314), some (.int x1315), some (.int (-1)), some (.int 100), some (.int 0), none]) (st' := []) (h' := (HX c1318.2 T)) (cs' := 0) (sl' := 0) rfl ?_
        exact ih0 _ _ _ _ _ _ _ _ _ h T _
set_option maxHeartbeats 40000000 in
set_option maxRecDepth 100000 in
theorem EGarr_fill_87 : ∀ n : Nat, (∀ (y1337 : Int32) (y1338 : Int32) (y1339 : Int32) (w : WX) (w' : WX), Garr_fill_87 n 0 y1337 y1338 y1339 w = some w' → ∀ (T : ai_H), ai_ev D1 marr_fill 5 [some (.ref 87), some (.int y1337), some (.int y1338), some (.int y1339)] [] (HX w T) 0 0 (none, HX w' T)) := by
  intro n
  induction n with
  | zero =>
    exact (fun _ _ _ _ _ h => by cases h)
  | succ n ih0 =>
    intro y1337 y1338 y1339 w w' h T
    simp only [Garr_fill_87] at h
    refine ev_go 2 (pc' := 7) (L' := [some (.ref 87), some (.int y1337), some (.int y1338), some (.int y1339)]) (st' := [.int y1339, .int y1338]) (h' := (HX w T)) (cs' := 0) (sl' := 0) rfl ?_
    rcases ai_ifE h with ⟨hc, h⟩ | ⟨hc, h⟩
    · refine ev_ic_ge (t := 20) rfl rfl (fun _ => ?_) (fun c9 => absurd hc c9)
      obtain rfl := Option.some.inj h
      exact ev_end rfl
    · refine ev_ic_ge (t := 20) rfl rfl (fun c9 => absurd c9 hc) (fun _ => ?_)
      refine ev_go 3 (pc' := 13) (L' := [some (.ref 87), some (.int y1337), some (.int y1338), some (.int y1339)]) (st' := [.int y1337, .int y1338, .ref 87]) (h' := (HX w T)) (cs' := 0) (sl' := 0) rfl ?_
      obtain ⟨q1340, hq, h⟩ := ai_bdE h
      refine ev_iast rfl rfl hq ?_
      show ai_ev D1 marr_fill 14 [some (.ref 87), some (.int y1337), some (.int y1338), some (.int y1339)] [] (HX (u_ways_reached w q1340) T) 0 0 _
      refine ev_go 2 (pc' := 5) (L' := [some (.ref 87), some (.int y1337), some (.int (y1338 + 1)), some (.int y1339)]) (st' := []) (h' := (HX (u_ways_reached w q1340) T)) (cs' := 0) (sl' := 0) rfl ?_
      exact ih0 _ _ _ _ _ h T
set_option maxHeartbeats 40000000 in
set_option maxRecDepth 100000 in
theorem Earr_fill_87 (n : Nat) (x1336 : Int32) (w : WX) (w' : WX) (h : Farr_fill_87 n x1336 w = some w') (T : ai_H) : ai_ev D1 marr_fill 0 [some (.ref 87), some (.int x1336), none, none] [] (HX w T) 0 0 (none, HX w' T) := by
  unfold Farr_fill_87 at h
  have ih0 := EGarr_fill_87 n
  refine ev_go 5 (pc' := 5) (L' := [some (.ref 87), some (.int x1336), some (.int 0), some (.int (Int32.ofNat (List.length (a_ways_reached w))))]) (st' := []) (h' := (HX w T)) (cs' := 0) (sl' := 0) rfl ?_
  exact ih0 _ _ _ _ _ h T
set_option maxHeartbeats 40000000 in
set_option maxRecDepth 100000 in
theorem Eway_numberOf (x1342 : Int32) (r : Int32) (h : Fway_numberOf x1342 = some r) (hh : ai_H) : ai_ev D1 mway_numberOf 0 [some (.int x1342)] [] hh 0 0 (some (.int r), hh) := by
  unfold Fway_numberOf at h
  refine ev_go 9 (pc' := 11) (L' := [some (.int x1342)]) (st' := [.int (((x1342 / 10) * 4) + (x1342 - x1342 / 10 * 10))]) (h' := hh) (cs' := 0) (sl' := 0) rfl ?_
  obtain rfl := Option.some.inj h
  exact ev_end rfl
set_option maxHeartbeats 40000000 in
set_option maxRecDepth 100000 in
theorem Eway_join_86 (x1356 : Int32) (x1357 : Int32) (x1358 : Int32) (w : WX) (w' : WX) (h : Fway_join_86 x1356 x1357 x1358 w = some w') (T : ai_H) : ai_ev D1 mway_join 0 [some (.ref 86), some (.int x1356), some (.int x1357), some (.int x1358)] [] (HX w T) 0 0 (none, HX w' T) := by
  unfold Fway_join_86 at h
  refine ev_go 6 (pc' := 10) (L' := [some (.ref 86), some (.int x1356), some (.int x1357), some (.int x1358)]) (st' := [.int x1356, .ref 87, .int x1356, .ref 87]) (h' := (HX w T)) (cs' := 0) (sl' := 0) rfl ?_
  obtain ⟨v1359, hq, h⟩ := ai_bdE h
  refine ev_iald rfl rfl hq ?_
  refine ev_go 3 (pc' := 16) (L' := [some (.ref 86), some (.int x1356), some (.int x1357), some (.int x1358)]) (st' := [.int x1357, .ref 87, .int v1359, .int x1356, .ref 87]) (h' := (HX w T)) (cs' := 0) (sl' := 0) rfl ?_
  obtain ⟨v1360, hq, h⟩ := ai_bdE h
  refine ev_iald rfl rfl hq ?_
  refine ev_go 3 (pc' := 22) (L' := [some (.ref 86), some (.int x1356), some (.int x1357), some (.int x1358)]) (st' := [.int (if (v1360 + x1358) < v1359 then (v1360 + x1358) else v1359), .int x1356, .ref 87]) (h' := (HX w T)) (cs' := 0) (sl' := 0) rfl ?_
  obtain ⟨q1361, hq, h⟩ := ai_bdE h
  refine ev_iast rfl rfl hq ?_
  show ai_ev D1 mway_join 23 [some (.ref 86), some (.int x1356), some (.int x1357), some (.int x1358)] [] (HX (u_ways_reached w q1361) T) 0 0 _
  refine ev_go 6 (pc' := 33) (L' := [some (.ref 86), some (.int x1356), some (.int x1357), some (.int x1358)]) (st' := [.int x1357, .ref 87, .int x1357, .ref 87]) (h' := (HX (u_ways_reached w q1361) T)) (cs' := 0) (sl' := 0) rfl ?_
  obtain ⟨v1362, hq, h⟩ := ai_bdE h
  refine ev_iald rfl rfl hq ?_
  refine ev_go 3 (pc' := 39) (L' := [some (.ref 86), some (.int x1356), some (.int x1357), some (.int x1358)]) (st' := [.int x1356, .ref 87, .int v1362, .int x1357, .ref 87]) (h' := (HX (u_ways_reached w q1361) T)) (cs' := 0) (sl' := 0) rfl ?_
  obtain ⟨v1363, hq, h⟩ := ai_bdE h
  refine ev_iald rfl rfl hq ?_
  refine ev_go 3 (pc' := 45) (L' := [some (.ref 86), some (.int x1356), some (.int x1357), some (.int x1358)]) (st' := [.int (if (v1363 + x1358) < v1362 then (v1363 + x1358) else v1362), .int x1357, .ref 87]) (h' := (HX (u_ways_reached w q1361) T)) (cs' := 0) (sl' := 0) rfl ?_
  obtain ⟨q1364, hq, h⟩ := ai_bdE h
  refine ev_iast rfl rfl hq ?_
  show ai_ev D1 mway_join 46 [some (.ref 86), some (.int x1356), some (.int x1357), some (.int x1358)] [] (HX (u_ways_reached w q1364) T) 0 0 _
  obtain rfl := Option.some.inj h
  exact ev_end rfl
set_option maxHeartbeats 40000000 in
set_option maxRecDepth 100000 in
theorem EGway_goByLifts_86_1 : ∀ n : Nat, (∀ (y1350 : Int32) (w : WX) (w' : WX), Gway_goByLifts_86_1 n 0 y1350 w = some w' → ∀ (T : ai_H), ai_ev D1 mway_goByLifts 2 [some (.ref 86), some (.ref 1), some (.int y1350)] [] (HX w T) 0 0 (none, HX w' T)) := by
  intro n
  induction n with
  | zero =>
    exact (fun _ _ _ h => by cases h)
  | succ n ih0 =>
    intro y1350 w w' h T
    simp only [Gway_goByLifts_86_1] at h
    refine ev_go 4 (pc' := 10) (L' := [some (.ref 86), some (.ref 1), some (.int y1350)]) (st' := [.int (a_s1lifts_count w), .int y1350]) (h' := (HX w T)) (cs' := 0) (sl' := 0) rfl ?_
    rcases ai_ifE h with ⟨hc, h⟩ | ⟨hc, h⟩
    · refine ev_ic_ge (t := 56) rfl rfl (fun _ => ?_) (fun c9 => absurd hc c9)
      obtain rfl := Option.some.inj h
      exact ev_end rfl
    · refine ev_ic_ge (t := 56) rfl rfl (fun c9 => absurd c9 hc) (fun _ => ?_)
      refine ev_go 5 (pc' := 22) (L' := [some (.ref 86), some (.ref 1), some (.int y1350)]) (st' := [.int y1350, .ref 13, .ref 86]) (h' := (HX w T)) (cs' := 0) (sl' := 0) rfl ?_
      obtain ⟨v1351, hq, h⟩ := ai_bdE h
      refine ev_iald rfl rfl hq ?_
      obtain ⟨c1352, hq, h⟩ := ai_bdE h
      refine ev_call (M' := mway_numberOf) (L' := [some (.int v1351)]) (rest := [.ref 86]) (rv := some (.int c1352)) (h' := (HX w T)) rfl (Eway_numberOf v1351 _ hq (HX w T)) ?_
      show ai_ev D1 mway_goByLifts 26 [some (.ref 86), some (.ref 1), some (.int y1350)] [.int c1352, .ref 86] (HX w T) 0 0 _
      refine ev_go 4 (pc' := 34) (L' := [some (.ref 86), some (.ref 1), some (.int y1350)]) (st' := [.int y1350, .ref 14, .int c1352, .ref 86]) (h' := (HX w T)) (cs' := 0) (sl' := 0) rfl ?_
      obtain ⟨v1353, hq, h⟩ := ai_bdE h
      refine ev_iald rfl rfl hq ?_
      obtain ⟨c1354, hq, h⟩ := ai_bdE h
      refine ev_call (M' := mway_numberOf) (L' := [some (.int v1353)]) (rest := [.int c1352, .ref 86]) (rv := some (.int c1354)) (h' := (HX w T)) rfl (Eway_numberOf v1353 _ hq (HX w T)) ?_
      show ai_ev D1 mway_goByLifts 38 [some (.ref 86), some (.ref 1), some (.int y1350)] [.int c1354, .int c1352, .ref 86] (HX w T) 0 0 _
      refine ev_go 4 (pc' := 46) (L' := [some (.ref 86), some (.ref 1), some (.int y1350)]) (st' := [.int y1350, .ref 15, .int c1354, .int c1352, .ref 86]) (h' := (HX w T)) (cs' := 0) (sl' := 0) rfl ?_
      obtain ⟨v1355, hq, h⟩ := ai_bdE h
      refine ev_iald rfl rfl hq ?_
      obtain ⟨c1365, hq, h⟩ := ai_bdE h
      refine ev_call (M' := mway_join) (L' := [some (.ref 86), some (.int c1352), some (.int c1354), some (.int v1355)]) (rest := []) (rv := none) (h' := (HX c1365 T)) rfl (Eway_join_86 c1352 c1354 v1355 w _ hq T) ?_
      show ai_ev D1 mway_goByLifts 50 [some (.ref 86), some (.ref 1), some (.int y1350)] [] (HX c1365 T) 0 0 _
      refine ev_go 2 (pc' := 2) (L' := [some (.ref 86), some (.ref 1), some (.int (y1350 + 1))]) (st' := []) (h' := (HX c1365 T)) (cs' := 0) (sl' := 0) rfl ?_
      exact ih0 _ _ _ h T
set_option maxHeartbeats 40000000 in
set_option maxRecDepth 100000 in
theorem Eway_goByLifts_86_1 (n : Nat) (w : WX) (w' : WX) (h : Fway_goByLifts_86_1 n w = some w') (T : ai_H) : ai_ev D1 mway_goByLifts 0 [some (.ref 86), some (.ref 1), none] [] (HX w T) 0 0 (none, HX w' T) := by
  unfold Fway_goByLifts_86_1 at h
  have ih0 := EGway_goByLifts_86_1 n
  refine ev_go 2 (pc' := 2) (L' := [some (.ref 86), some (.ref 1), some (.int 0)]) (st' := []) (h' := (HX w T)) (cs' := 0) (sl' := 0) rfl ?_
  exact ih0 _ _ _ h T
set_option maxHeartbeats 40000000 in
set_option maxRecDepth 100000 in
theorem EGway_goBeside_86_1 : ∀ n : Nat, (∀ (y1367 : Int32) (w : WX) (w' : WX), Gway_goBeside_86_1 n 0 y1367 0 w = some w' → ∀ (T : ai_H) (o3 : Option Value), ai_ev D1 mway_goBeside 2 [some (.ref 86), some (.ref 1), some (.int y1367), o3] [] (HX w T) 0 0 (none, HX w' T)) ∧ (∀ (y1368 : Int32) (y1369 : Int32) (w : WX) (w' : WX), Gway_goBeside_86_1 n 1 y1368 y1369 w = some w' → ∀ (T : ai_H), ai_ev D1 mway_goBeside 14 [some (.ref 86), some (.ref 1), some (.int y1368), some (.int y1369)] [] (HX w T) 0 0 (none, HX w' T)) := by
  intro n
  induction n with
  | zero =>
    exact ⟨(fun _ _ _ h => by cases h), (fun _ _ _ _ h => by cases h)⟩
  | succ n ih =>
    obtain ⟨ih0, ih1⟩ := ih
    refine ⟨?_, ?_⟩
    · intro y1367 w w' h T o3
      simp only [Gway_goBeside_86_1] at h
      refine ev_go 5 (pc' := 9) (L' := [some (.ref 86), some (.ref 1), some (.int y1367), o3]) (st' := [.int ((a_s1_cells w) - 1), .int y1367]) (h' := (HX w T)) (cs' := 0) (sl' := 0) rfl ?_
      rcases ai_ifE h with ⟨hc, h⟩ | ⟨hc, h⟩
      · refine ev_ic_ge (t := 76) rfl rfl (fun _ => ?_) (fun c9 => absurd hc c9)
        obtain rfl := Option.some.inj h
        exact ev_end rfl
      · refine ev_ic_ge (t := 76) rfl rfl (fun c9 => absurd c9 hc) (fun _ => ?_)
        refine ev_go 2 (pc' := 14) (L' := [some (.ref 86), some (.ref 1), some (.int y1367), some (.int 0)]) (st' := []) (h' := (HX w T)) (cs' := 0) (sl' := 0) rfl ?_
        exact ih1 _ _ _ _ h T
    · intro y1368 y1369 w w' h T
      simp only [Gway_goBeside_86_1] at h
      refine ev_go 2 (pc' := 16) (L' := [some (.ref 86), some (.ref 1), some (.int y1368), some (.int y1369)]) (st' := [.int 4, .int y1369]) (h' := (HX w T)) (cs' := 0) (sl' := 0) rfl ?_
      rcases ai_ifE h with ⟨hc, h⟩ | ⟨hc, h⟩
      · refine ev_ic_ge (t := 70) rfl rfl (fun _ => ?_) (fun c9 => absurd hc c9)
        refine ev_go 2 (pc' := 2) (L' := [some (.ref 86), some (.ref 1), some (.int (y1368 + 1)), some (.int y1369)]) (st' := []) (h' := (HX w T)) (cs' := 0) (sl' := 0) rfl ?_
        exact ih0 _ _ _ h T _
      · refine ev_ic_ge (t := 70) rfl rfl (fun c9 => absurd c9 hc) (fun _ => ?_)
        refine ev_go 5 (pc' := 26) (L' := [some (.ref 86), some (.ref 1), some (.int y1368), some (.int y1369)]) (st' := [.int (a_s1_hour w), .int y1368, .int y1369, .ref 1]) (h' := (HX w T)) (cs' := 0) (sl' := 0) rfl ?_
        obtain ⟨c1370, hq, h⟩ := ai_bdE h
        refine ev_call (M' := msea_thickAt) (L' := [some (.ref 1), some (.int y1369), some (.int y1368), some (.int (a_s1_hour w))]) (rest := []) (rv := some (.int c1370.1)) (h' := (HX c1370.2 T)) rfl (Esea_thickAt_1 y1369 y1368 (a_s1_hour w) w _ _ hq T) ?_
        show ai_ev D1 mway_goBeside 29 [some (.ref 86), some (.ref 1), some (.int y1368), some (.int y1369)] [.int c1370.1] (HX c1370.2 T) 0 0 _
        rcases ai_ifE h with ⟨hc, h⟩ | ⟨hc, h⟩
        · refine ev_if_le (t := 64) rfl rfl (fun _ => ?_) (fun c9 => absurd hc c9)
          refine ev_go 2 (pc' := 14) (L' := [some (.ref 86), some (.ref 1), some (.int y1368), some (.int (y1369 + 1))]) (st' := []) (h' := (HX c1370.2 T)) (cs' := 0) (sl' := 0) rfl ?_
          exact ih1 _ _ _ _ h T
        · refine ev_if_le (t := 64) rfl rfl (fun c9 => absurd c9 hc) (fun _ => ?_)
          refine ev_go 7 (pc' := 41) (L' := [some (.ref 86), some (.ref 1), some (.int y1368), some (.int y1369)]) (st' := [.int (a_s1_hour c1370.2), .int (y1368 + 1), .int y1369, .ref 1]) (h' := (HX c1370.2 T)) (cs' := 0) (sl' := 0) rfl ?_
          obtain ⟨c1371, hq, h⟩ := ai_bdE h
          refine ev_call (M' := msea_thickAt) (L' := [some (.ref 1), some (.int y1369), some (.int (y1368 + 1)), some (.int (a_s1_hour c1370.2))]) (rest := []) (rv := some (.int c1371.1)) (h' := (HX c1371.2 T)) rfl (Esea_thickAt_1 y1369 (y1368 + 1) (a_s1_hour c1370.2) c1370.2 _ _ hq T) ?_
          show ai_ev D1 mway_goBeside 44 [some (.ref 86), some (.ref 1), some (.int y1368), some (.int y1369)] [.int c1371.1] (HX c1371.2 T) 0 0 _
          rcases ai_ifE h with ⟨hc, h⟩ | ⟨hc, h⟩
          · refine ev_if_le (t := 64) rfl rfl (fun _ => ?_) (fun c9 => absurd hc c9)
            refine ev_go 2 (pc' := 14) (L' := [some (.ref 86), some (.ref 1), some (.int y1368), some (.int (y1369 + 1))]) (st' := []) (h' := (HX c1371.2 T)) (cs' := 0) (sl' := 0) rfl ?_
            exact ih1 _ _ _ _ h T
          · refine ev_if_le (t := 64) rfl rfl (fun c9 => absurd c9 hc) (fun _ => ?_)
            refine ev_go 14 (pc' := 61) (L' := [some (.ref 86), some (.ref 1), some (.int y1368), some (.int y1369)]) (st' := [.int 3, .int (((y1368 + 1) * 4) + y1369), .int ((y1368 * 4) + y1369), .ref 86]) (h' := (HX c1371.2 T)) (cs' := 0) (sl' := 0) rfl ?_
            obtain ⟨c1372, hq, h⟩ := ai_bdE h
            refine ev_call (M' := mway_join) (L' := [some (.ref 86), some (.int ((y1368 * 4) + y1369)), some (.int (((y1368 + 1) * 4) + y1369)), some (.int 3)]) (rest := []) (rv := none) (h' := (HX c1372 T)) rfl (Eway_join_86 ((y1368 * 4) + y1369) (((y1368 + 1) * 4) + y1369) 3 c1371.2 _ hq T) ?_
            show ai_ev D1 mway_goBeside 64 [some (.ref 86), some (.ref 1), some (.int y1368), some (.int y1369)] [] (HX c1372 T) 0 0 _
            refine ev_go 2 (pc' := 14) (L' := [some (.ref 86), some (.ref 1), some (.int y1368), some (.int (y1369 + 1))]) (st' := []) (h' := (HX c1372 T)) (cs' := 0) (sl' := 0) rfl ?_
            exact ih1 _ _ _ _ h T
set_option maxHeartbeats 40000000 in
set_option maxRecDepth 100000 in
theorem Eway_goBeside_86_1 (n : Nat) (w : WX) (w' : WX) (h : Fway_goBeside_86_1 n w = some w') (T : ai_H) : ai_ev D1 mway_goBeside 0 [some (.ref 86), some (.ref 1), none, none] [] (HX w T) 0 0 (none, HX w' T) := by
  unfold Fway_goBeside_86_1 at h
  obtain ⟨ih0, ih1⟩ := EGway_goBeside_86_1 n
  refine ev_go 2 (pc' := 2) (L' := [some (.ref 86), some (.ref 1), some (.int 0), none]) (st' := []) (h' := (HX w T)) (cs' := 0) (sl' := 0) rfl ?_
  exact ih0 _ _ _ h T _
set_option maxHeartbeats 40000000 in
set_option maxRecDepth 100000 in
theorem EGway_soonestWay_86_1 : ∀ n : Nat, (∀ (y1345 : Int32) (y1346 : Int32) (y1347 : Int32) (w : WX) (r : Int32) (w' : WX), Gway_soonestWay_86_1 n 0 y1345 y1346 y1347 w = some (r, w') → ∀ (T : ai_H), ai_ev D1 mway_soonestWay 22 [some (.ref 86), some (.ref 1), some (.int y1345), some (.int y1346), some (.int y1347)] [] (HX w T) 0 0 (some (.int r), HX w' T)) := by
  intro n
  induction n with
  | zero =>
    exact (fun _ _ _ _ _ _ h => by cases h)
  | succ n ih0 =>
    intro y1345 y1346 y1347 w r w' h T
    simp only [Gway_soonestWay_86_1] at h
    refine ev_go 2 (pc' := 26) (L' := [some (.ref 86), some (.ref 1), some (.int y1345), some (.int y1346), some (.int y1347)]) (st' := [.int 24, .int y1347]) (h' := (HX w T)) (cs' := 0) (sl' := 0) rfl ?_
    rcases ai_ifE h with ⟨hc, h⟩ | ⟨hc, h⟩
    · refine ev_ic_ge (t := 45) rfl rfl (fun _ => ?_) (fun c9 => absurd hc c9)
      refine ev_go 3 (pc' := 50) (L' := [some (.ref 86), some (.ref 1), some (.int y1345), some (.int y1346), some (.int y1347)]) (st' := [.int y1346, .ref 87]) (h' := (HX w T)) (cs' := 0) (sl' := 0) rfl ?_
      obtain ⟨c1348, hq, h⟩ := ai_bdE h
      refine ev_call (M' := mway_numberOf) (L' := [some (.int y1346)]) (rest := [.ref 87]) (rv := some (.int c1348)) (h' := (HX w T)) rfl (Eway_numberOf y1346 _ hq (HX w T)) ?_
      show ai_ev D1 mway_soonestWay 53 [some (.ref 86), some (.ref 1), some (.int y1345), some (.int y1346), some (.int y1347)] [.int c1348, .ref 87] (HX w T) 0 0 _
      obtain ⟨v1349, hq, h⟩ := ai_bdE h
      refine ev_iald rfl rfl hq ?_
      refine ev_go 3 (pc' := 60) (L' := [some (.ref 86), some (.ref 1), some (.int y1345), some (.int y1346), some (.int v1349)]) (st' := [.int 1000000, .int v1349]) (h' := (HX w T)) (cs' := 0) (sl' := 0) rfl ?_
      rcases ai_ifE h with ⟨hc, h⟩ | ⟨hc, h⟩
      · refine ev_ic_lt (t := 67) rfl rfl (fun _ => ?_) (fun c9 => absurd hc c9)
        refine ev_go 1 (pc' := 69) (L' := [some (.ref 86), some (.ref 1), some (.int y1345), some (.int y1346), some (.int v1349)]) (st' := [.int v1349]) (h' := (HX w T)) (cs' := 0) (sl' := 0) rfl ?_
        obtain ⟨rfl, rfl⟩ := ai_smP h
        exact ev_end rfl
      · refine ev_ic_lt (t := 67) rfl rfl (fun c9 => absurd c9 hc) (fun _ => ?_)
        refine ev_go 2 (pc' := 69) (L' := [some (.ref 86), some (.ref 1), some (.int y1345), some (.int y1346), some (.int v1349)]) (st' := [.int (-1)]) (h' := (HX w T)) (cs' := 0) (sl' := 0) rfl ?_
        obtain ⟨rfl, rfl⟩ := ai_smP h
        exact ev_end rfl
    · refine ev_ic_ge (t := 45) rfl rfl (fun c9 => absurd c9 hc) (fun _ => ?_)
      refine ev_go 2 (pc' := 31) (L' := [some (.ref 86), some (.ref 1), some (.int y1345), some (.int y1346), some (.int y1347)]) (st' := [.ref 1, .ref 86]) (h' := (HX w T)) (cs' := 0) (sl' := 0) rfl ?_
      obtain ⟨c1366, hq, h⟩ := ai_bdE h
      refine ev_call (M' := mway_goByLifts) (L' := [some (.ref 86), some (.ref 1), none]) (rest := []) (rv := none) (h' := (HX c1366 T)) rfl (Eway_goByLifts_86_1 n w _ hq T) ?_
      show ai_ev D1 mway_soonestWay 34 [some (.ref 86), some (.ref 1), some (.int y1345), some (.int y1346), some (.int y1347)] [] (HX c1366 T) 0 0 _
      refine ev_go 2 (pc' := 36) (L' := [some (.ref 86), some (.ref 1), some (.int y1345), some (.int y1346), some (.int y1347)]) (st' := [.ref 1, .ref 86]) (h' := (HX c1366 T)) (cs' := 0) (sl' := 0) rfl ?_
      obtain ⟨c1373, hq, h⟩ := ai_bdE h
      refine ev_call (M' := mway_goBeside) (L' := [some (.ref 86), some (.ref 1), none, none]) (rest := []) (rv := none) (h' := (HX c1373 T)) rfl (Eway_goBeside_86_1 n c1366 _ hq T) ?_
      show ai_ev D1 mway_soonestWay 39 [some (.ref 86), some (.ref 1), some (.int y1345), some (.int y1346), some (.int y1347)] [] (HX c1373 T) 0 0 _
      refine ev_go 2 (pc' := 22) (L' := [some (.ref 86), some (.ref 1), some (.int y1345), some (.int y1346), some (.int (y1347 + 1))]) (st' := []) (h' := (HX c1373 T)) (cs' := 0) (sl' := 0) rfl ?_
      exact ih0 _ _ _ _ _ _ h T
set_option maxHeartbeats 40000000 in
set_option maxRecDepth 100000 in
theorem Eway_soonestWay_86_1 (n : Nat) (x1334 : Int32) (x1335 : Int32) (w : WX) (r : Int32) (w' : WX) (h : Fway_soonestWay_86_1 n x1334 x1335 w = some (r, w')) (T : ai_H) : ai_ev D1 mway_soonestWay 0 [some (.ref 86), some (.ref 1), some (.int x1334), some (.int x1335), none] [] (HX w T) 0 0 (some (.int r), HX w' T) := by
  unfold Fway_soonestWay_86_1 at h
  have ih0 := EGway_soonestWay_86_1 n
  refine ev_go 3 (pc' := 6) (L' := [some (.ref 86), some (.ref 1), some (.int x1334), some (.int x1335), none]) (st' := [.int 1000000, .ref 87]) (h' := (HX w T)) (cs' := 0) (sl' := 0) rfl ?_
  obtain ⟨c1341, hq, h⟩ := ai_bdE h
  refine ev_call (M' := marr_fill) (L' := [some (.ref 87), some (.int 1000000), none, none]) (rest := []) (rv := none) (h' := (HX c1341 T)) rfl (Earr_fill_87 n 1000000 w _ hq T) ?_
  show ai_ev D1 mway_soonestWay 9 [some (.ref 86), some (.ref 1), some (.int x1334), some (.int x1335), none] [] (HX c1341 T) 0 0 _
  refine ev_go 3 (pc' := 14) (L' := [some (.ref 86), some (.ref 1), some (.int x1334), some (.int x1335), none]) (st' := [.int x1334, .ref 87]) (h' := (HX c1341 T)) (cs' := 0) (sl' := 0) rfl ?_
  obtain ⟨c1343, hq, h⟩ := ai_bdE h
  refine ev_call (M' := mway_numberOf) (L' := [some (.int x1334)]) (rest := [.ref 87]) (rv := some (.int c1343)) (h' := (HX c1341 T)) rfl (Eway_numberOf x1334 _ hq (HX c1341 T)) ?_
  show ai_ev D1 mway_soonestWay 17 [some (.ref 86), some (.ref 1), some (.int x1334), some (.int x1335), none] [.int c1343, .ref 87] (HX c1341 T) 0 0 _
  refine ev_go 1 (pc' := 18) (L' := [some (.ref 86), some (.ref 1), some (.int x1334), some (.int x1335), none]) (st' := [.int 0, .int c1343, .ref 87]) (h' := (HX c1341 T)) (cs' := 0) (sl' := 0) rfl ?_
  obtain ⟨q1344, hq, h⟩ := ai_bdE h
  refine ev_iast rfl rfl hq ?_
  show ai_ev D1 mway_soonestWay 19 [some (.ref 86), some (.ref 1), some (.int x1334), some (.int x1335), none] [] (HX (u_ways_reached c1341 q1344) T) 0 0 _
  refine ev_go 2 (pc' := 22) (L' := [some (.ref 86), some (.ref 1), some (.int x1334), some (.int x1335), some (.int 1)]) (st' := []) (h' := (HX (u_ways_reached c1341 q1344) T)) (cs' := 0) (sl' := 0) rfl ?_
  exact ih0 _ _ _ _ _ _ h T
set_option maxHeartbeats 40000000 in
set_option maxRecDepth 100000 in
theorem Ef_soonest_0 (n : Nat) (x1329 : Int32) (x1330 : Int32) (w : WX) (r : Int32) (w' : WX) (h : Ff_soonest_0 n x1329 x1330 w = some (r, w')) (T : ai_H) : ai_ev D1 mf_soonest 0 [some (.ref 0), some (.int x1329), some (.int x1330)] [] (HX w T) 0 0 (some (.int r), HX w' T) := by
  unfold Ff_soonest_0 at h
  refine ev_go 3 (pc' := 5) (L' := [some (.ref 0), some (.int x1329), some (.int x1330)]) (st' := [.int x1329, .ref 1]) (h' := (HX w T)) (cs' := 0) (sl' := 0) rfl ?_
  obtain ⟨c1331, hq, h⟩ := ai_bdE h
  refine ev_call (M' := msea_hasPlace) (L' := [some (.ref 1), some (.int x1329)]) (rest := []) (rv := some (.int c1331.1)) (h' := (HX c1331.2 T)) rfl (Esea_hasPlace_1 x1329 w _ _ hq T) ?_
  show ai_ev D1 mf_soonest 8 [some (.ref 0), some (.int x1329), some (.int x1330)] [.int c1331.1] (HX c1331.2 T) 0 0 _
  rcases ai_ifE h with ⟨hc, h⟩ | ⟨hc, h⟩
  · refine ev_if_eq (t := 22) rfl rfl (fun _ => ?_) (fun c9 => absurd hc c9)
    refine ev_go 2 (pc' := 25) (L' := [some (.ref 0), some (.int x1329), some (.int x1330)]) (st' := [.int (-2), .ref 0]) (h' := (HX c1331.2 T)) (cs' := 0) (sl' := 0) rfl ?_
    obtain ⟨c1332, hq, h⟩ := ai_bdE h
    refine ev_call (M' := mf_bad) (L' := [some (.ref 0), some (.int (-2))]) (rest := []) (rv := some (.int c1332.1)) (h' := (HX c1332.2 T)) rfl (Ef_bad_0 (-2) c1331.2 _ _ hq T) ?_
    show ai_ev D1 mf_soonest 28 [some (.ref 0), some (.int x1329), some (.int x1330)] [.int c1332.1] (HX c1332.2 T) 0 0 _
    obtain ⟨rfl, rfl⟩ := ai_smP h
    exact ev_end rfl
  · refine ev_if_eq (t := 22) rfl rfl (fun c9 => absurd c9 hc) (fun _ => ?_)
    refine ev_go 3 (pc' := 16) (L' := [some (.ref 0), some (.int x1329), some (.int x1330)]) (st' := [.int x1330, .ref 1]) (h' := (HX c1331.2 T)) (cs' := 0) (sl' := 0) rfl ?_
    obtain ⟨c1333, hq, h⟩ := ai_bdE h
    refine ev_call (M' := msea_hasPlace) (L' := [some (.ref 1), some (.int x1330)]) (rest := []) (rv := some (.int c1333.1)) (h' := (HX c1333.2 T)) rfl (Esea_hasPlace_1 x1330 c1331.2 _ _ hq T) ?_
    show ai_ev D1 mf_soonest 19 [some (.ref 0), some (.int x1329), some (.int x1330)] [.int c1333.1] (HX c1333.2 T) 0 0 _
    rcases ai_ifE h with ⟨hc, h⟩ | ⟨hc, h⟩
    · refine ev_if_ne (t := 29) rfl rfl (fun c9 => absurd hc c9) (fun _ => ?_)
      refine ev_go 2 (pc' := 25) (L' := [some (.ref 0), some (.int x1329), some (.int x1330)]) (st' := [.int (-2), .ref 0]) (h' := (HX c1333.2 T)) (cs' := 0) (sl' := 0) rfl ?_
      obtain ⟨c1375, hq, h⟩ := ai_bdE h
      refine ev_call (M' := mf_bad) (L' := [some (.ref 0), some (.int (-2))]) (rest := []) (rv := some (.int c1375.1)) (h' := (HX c1375.2 T)) rfl (Ef_bad_0 (-2) c1333.2 _ _ hq T) ?_
      show ai_ev D1 mf_soonest 28 [some (.ref 0), some (.int x1329), some (.int x1330)] [.int c1375.1] (HX c1375.2 T) 0 0 _
      obtain ⟨rfl, rfl⟩ := ai_smP h
      exact ev_end rfl
    · refine ev_if_ne (t := 29) rfl rfl (fun _ => ?_) (fun c9 => absurd c9 hc)
      refine ev_go 6 (pc' := 39) (L' := [some (.ref 0), some (.int x1329), some (.int x1330)]) (st' := [.int x1330, .int x1329, .ref 1, .ref 86]) (h' := (HX c1333.2 T)) (cs' := 0) (sl' := 0) rfl ?_
      obtain ⟨c1374, hq, h⟩ := ai_bdE h
      refine ev_call (M' := mway_soonestWay) (L' := [some (.ref 86), some (.ref 1), some (.int x1329), some (.int x1330), none]) (rest := []) (rv := some (.int c1374.1)) (h' := (HX c1374.2 T)) rfl (Eway_soonestWay_86_1 n x1329 x1330 c1333.2 _ _ hq T) ?_
      show ai_ev D1 mf_soonest 42 [some (.ref 0), some (.int x1329), some (.int x1330)] [.int c1374.1] (HX c1374.2 T) 0 0 _
      obtain ⟨rfl, rfl⟩ := ai_smP h
      exact ev_end rfl
set_option maxHeartbeats 40000000 in
set_option maxRecDepth 100000 in
theorem EGsea_ceilingOf_1 : ∀ n : Nat, (∀ (y1384 : Int32) (y1385 : Int32) (y1386 : Int32) (y1387 : Int32) (y1388 : Int32) (w : WX) (r : Int32) (w' : WX), Gsea_ceilingOf_1 n 0 y1384 y1385 y1386 y1387 y1388 w = some (r, w') → ∀ (T : ai_H) (o6 o7 : Option Value), ai_ev D1 msea_ceilingOf 15 [some (.ref 1), some (.int y1384), some (.int y1385), some (.int y1386), some (.int y1387), some (.int y1388), o6, o7] [] (HX w T) 0 0 (some (.int r), HX w' T)) := by
  intro n
  induction n with
  | zero =>
    exact (fun _ _ _ _ _ _ _ _ h => by cases h)
  | succ n ih0 =>
    intro y1384 y1385 y1386 y1387 y1388 w r w' h T o6 o7
    simp only [Gsea_ceilingOf_1] at h
    refine ev_go 3 (pc' := 21) (L' := [some (.ref 1), some (.int y1384), some (.int y1385), some (.int y1386), some (.int y1387), some (.int y1388), o6, o7]) (st' := [.int (a_s1_towns w), .int y1388]) (h' := (HX w T)) (cs' := 0) (sl' := 0) rfl ?_
    rcases ai_ifE h with ⟨hc, h⟩ | ⟨hc, h⟩
    · refine ev_ic_ge (t := 83) rfl rfl (fun _ => ?_) (fun c9 => absurd hc c9)
      refine ev_go 1 (pc' := 84) (L' := [some (.ref 1), some (.int y1384), some (.int y1385), some (.int y1386), some (.int y1387), some (.int y1388), o6, o7]) (st' := [.int y1386]) (h' := (HX w T)) (cs' := 0) (sl' := 0) rfl ?_
      obtain ⟨rfl, rfl⟩ := ai_smP h
      exact ev_end rfl
    · refine ev_ic_ge (t := 83) rfl rfl (fun c9 => absurd c9 hc) (fun _ => ?_)
      refine ev_go 3 (pc' := 30) (L' := [some (.ref 1), some (.int y1384), some (.int y1385), some (.int y1386), some (.int y1387), some (.int y1388), o6, o7]) (st' := [.int y1388, .ref 16]) (h' := (HX w T)) (cs' := 0) (sl' := 0) rfl ?_
      obtain ⟨v1389, hq, h⟩ := ai_bdE h
      refine ev_iald rfl rfl hq ?_
      refine ev_go 7 (pc' := 42) (L' := [some (.ref 1), some (.int y1384), some (.int y1385), some (.int y1386), some (.int y1387), some (.int y1388), some (.int v1389), o7]) (st' := [.int (y1385 / 10), .int (v1389 / 10)]) (h' := (HX w T)) (cs' := 0) (sl' := 0) rfl ?_
      rcases ai_ifE h with ⟨hc, h⟩ | ⟨hc, h⟩
      · refine ev_ic_ne (t := 55) rfl rfl (fun c9 => absurd hc c9) (fun _ => ?_)
        refine ev_go 2 (pc' := 48) (L' := [some (.ref 1), some (.int y1384), some (.int y1385), some (.int y1386), some (.int y1387), some (.int y1388), some (.int v1389), o7]) (st' := [.int y1385, .int v1389]) (h' := (HX w T)) (cs' := 0) (sl' := 0) rfl ?_
        rcases ai_ifE h with ⟨hc, h⟩ | ⟨hc, h⟩
        · refine ev_ic_ge (t := 55) rfl rfl (fun _ => ?_) (fun c9 => absurd hc c9)
          refine ev_go 6 (pc' := 15) (L' := [some (.ref 1), some (.int y1384), some (.int y1385), some (.int y1386), some (.int y1387), some (.int (y1388 + 1)), some (.int v1389), some (.int 0)]) (st' := []) (h' := (HX w T)) (cs' := 0) (sl' := 0) rfl ?_
          exact ih0 _ _ _ _ _ _ _ _ h T _ _
        · refine ev_ic_ge (t := 55) rfl rfl (fun c9 => absurd c9 hc) (fun _ => ?_)
          refine ev_go 7 (pc' := 67) (L' := [some (.ref 1), some (.int y1384), some (.int y1385), some (.int y1386), some (.int y1387), some (.int y1388), some (.int v1389), some (.int 1)]) (st' := [.int y1387, .int v1389]) (h' := (HX w T)) (cs' := 0) (sl' := 0) rfl ?_
          rcases ai_ifE h with ⟨hc, h⟩ | ⟨hc, h⟩
          · refine ev_ic_le (t := 77) rfl rfl (fun _ => ?_) (fun c9 => absurd hc c9)
            refine ev_go 2 (pc' := 15) (L' := [some (.ref 1), some (.int y1384), some (.int y1385), some (.int y1386), some (.int y1387), some (.int (y1388 + 1)), some (.int v1389), some (.int 1)]) (st' := []) (h' := (HX w T)) (cs' := 0) (sl' := 0) rfl ?_
            exact ih0 _ _ _ _ _ _ _ _ h T _ _
          · refine ev_ic_le (t := 77) rfl rfl (fun c9 => absurd c9 hc) (fun _ => ?_)
            refine ev_go 6 (pc' := 15) (L' := [some (.ref 1), some (.int y1384), some (.int y1385), some (.int y1388), some (.int v1389), some (.int (y1388 + 1)), some (.int v1389), some (.int 1)]) (st' := []) (h' := (HX w T)) (cs' := 0) (sl' := 0) rfl ?_
            exact ih0 _ _ _ _ _ _ _ _ h T _ _
      · refine ev_ic_ne (t := 55) rfl rfl (fun _ => ?_) (fun c9 => absurd c9 hc)
        refine ev_go 6 (pc' := 15) (L' := [some (.ref 1), some (.int y1384), some (.int y1385), some (.int y1386), some (.int y1387), some (.int (y1388 + 1)), some (.int v1389), some (.int 0)]) (st' := []) (h' := (HX w T)) (cs' := 0) (sl' := 0) rfl ?_
        exact ih0 _ _ _ _ _ _ _ _ h T _ _
set_option maxHeartbeats 40000000 in
set_option maxRecDepth 100000 in
theorem Esea_ceilingOf_1 (n : Nat) (x1382 : Int32) (w : WX) (r : Int32) (w' : WX) (h : Fsea_ceilingOf_1 n x1382 w = some (r, w')) (T : ai_H) : ai_ev D1 msea_ceilingOf 0 [some (.ref 1), some (.int x1382), none, none, none, none, none, none] [] (HX w T) 0 0 (some (.int r), HX w' T) := by
  unfold Fsea_ceilingOf_1 at h
  have ih0 := EGsea_ceilingOf_1 n
  refine ev_go 3 (pc' := 5) (L' := [some (.ref 1), some (.int x1382), none, none, none, none, none, none]) (st' := [.int x1382, .ref 16]) (h' := (HX w T)) (cs' := 0) (sl' := 0) rfl ?_
  obtain ⟨v1383, hq, h⟩ := ai_bdE h
  refine ev_iald rfl rfl hq ?_
  refine ev_go 7 (pc' := 15) (L' := [some (.ref 1), some (.int x1382), some (.int v1383), some (.int (-1)), some (.int (-1)), some (.int 0), none, none]) (st' := []) (h' := (HX w T)) (cs' := 0) (sl' := 0) rfl ?_
  exact ih0 _ _ _ _ _ _ _ _ h T _ _
set_option maxHeartbeats 40000000 in
set_option maxRecDepth 100000 in
theorem Esea_duesOf_1 (x1391 : Int32) (w : WX) (r : Int32) (w' : WX) (h : Fsea_duesOf_1 x1391 w = some (r, w')) (T : ai_H) : ai_ev D1 msea_duesOf 0 [some (.ref 1), some (.int x1391), none] [] (HX w T) 0 0 (some (.int r), HX w' T) := by
  unfold Fsea_duesOf_1 at h
  refine ev_go 3 (pc' := 5) (L' := [some (.ref 1), some (.int x1391), none]) (st' := [.int x1391, .ref 16]) (h' := (HX w T)) (cs' := 0) (sl' := 0) rfl ?_
  obtain ⟨v1392, hq, h⟩ := ai_bdE h
  refine ev_iald rfl rfl hq ?_
  refine ev_go 10 (pc' := 20) (L' := [some (.ref 1), some (.int x1391), some (.int v1392)]) (st' := [.int (a_s1_hour w), .int (v1392 / 10), .int (v1392 - v1392 / 10 * 10), .ref 1]) (h' := (HX w T)) (cs' := 0) (sl' := 0) rfl ?_
  obtain ⟨c1393, hq, h⟩ := ai_bdE h
  refine ev_call (M' := msea_thickAt) (L' := [some (.ref 1), some (.int (v1392 - v1392 / 10 * 10)), some (.int (v1392 / 10)), some (.int (a_s1_hour w))]) (rest := []) (rv := some (.int c1393.1)) (h' := (HX c1393.2 T)) rfl (Esea_thickAt_1 (v1392 - v1392 / 10 * 10) (v1392 / 10) (a_s1_hour w) w _ _ hq T) ?_
  show ai_ev D1 msea_duesOf 23 [some (.ref 1), some (.int x1391), some (.int v1392)] [.int c1393.1] (HX c1393.2 T) 0 0 _
  obtain ⟨rfl, rfl⟩ := ai_smP h
  exact ev_end rfl
set_option maxHeartbeats 40000000 in
set_option maxRecDepth 100000 in
theorem EGf_net_0 : ∀ n : Nat, (∀ (y1379 : Int32) (y1380 : Int32) (y1381 : Int32) (w : WX) (r : Int32) (w' : WX), Gf_net_0 n 0 y1379 y1380 y1381 w = some (r, w') → ∀ (T : ai_H) (o4 : Option Value), ai_ev D1 mf_net 29 [some (.ref 0), some (.int y1379), some (.int y1380), some (.int y1381), o4] [] (HX w T) 0 0 (some (.int r), HX w' T)) := by
  intro n
  induction n with
  | zero =>
    exact (fun _ _ _ _ _ _ h => by cases h)
  | succ n ih0 =>
    intro y1379 y1380 y1381 w r w' h T o4
    simp only [Gf_net_0] at h
    refine ev_go 4 (pc' := 37) (L' := [some (.ref 0), some (.int y1379), some (.int y1380), some (.int y1381), o4]) (st' := [.int (a_s1_towns w), .int y1381]) (h' := (HX w T)) (cs' := 0) (sl' := 0) rfl ?_
    rcases ai_ifE h with ⟨hc, h⟩ | ⟨hc, h⟩
    · refine ev_ic_ge (t := 98) rfl rfl (fun _ => ?_) (fun c9 => absurd hc c9)
      refine ev_go 1 (pc' := 99) (L' := [some (.ref 0), some (.int y1379), some (.int y1380), some (.int y1381), o4]) (st' := [.int y1380]) (h' := (HX w T)) (cs' := 0) (sl' := 0) rfl ?_
      obtain ⟨rfl, rfl⟩ := ai_smP h
      exact ev_end rfl
    · refine ev_ic_ge (t := 98) rfl rfl (fun c9 => absurd c9 hc) (fun _ => ?_)
      refine ev_go 3 (pc' := 45) (L' := [some (.ref 0), some (.int y1379), some (.int y1380), some (.int y1381), o4]) (st' := [.int y1381, .ref 1]) (h' := (HX w T)) (cs' := 0) (sl' := 0) rfl ?_
      obtain ⟨c1390, hq, h⟩ := ai_bdE h
      refine ev_call (M' := msea_ceilingOf) (L' := [some (.ref 1), some (.int y1381), none, none, none, none, none, none]) (rest := []) (rv := some (.int c1390.1)) (h' := (HX c1390.2 T)) rfl (Esea_ceilingOf_1 n y1381 w _ _ hq T) ?_
      show ai_ev D1 mf_net 48 [some (.ref 0), some (.int y1379), some (.int y1380), some (.int y1381), o4] [.int c1390.1] (HX c1390.2 T) 0 0 _
      refine ev_go 3 (pc' := 53) (L' := [some (.ref 0), some (.int y1379), some (.int y1380), some (.int y1381), some (.int c1390.1)]) (st' := [.int (-1), .int c1390.1]) (h' := (HX c1390.2 T)) (cs' := 0) (sl' := 0) rfl ?_
      rcases ai_ifE h with ⟨hc, h⟩ | ⟨hc, h⟩
      · refine ev_ic_ne (t := 59) rfl rfl (fun c9 => absurd hc c9) (fun _ => ?_)
        refine ev_go 3 (pc' := 29) (L' := [some (.ref 0), some (.int y1379), some (.int y1380), some (.int (y1381 + 1)), some (.int c1390.1)]) (st' := []) (h' := (HX c1390.2 T)) (cs' := 0) (sl' := 0) rfl ?_
        exact ih0 _ _ _ _ _ _ h T _
      · refine ev_ic_ne (t := 59) rfl rfl (fun _ => ?_) (fun c9 => absurd c9 hc)
        refine ev_go 2 (pc' := 62) (L' := [some (.ref 0), some (.int y1379), some (.int y1380), some (.int y1381), some (.int c1390.1)]) (st' := [.int y1379, .int c1390.1]) (h' := (HX c1390.2 T)) (cs' := 0) (sl' := 0) rfl ?_
        rcases ai_ifE h with ⟨hc, h⟩ | ⟨hc, h⟩
        · refine ev_ic_ne (t := 76) rfl rfl (fun c9 => absurd hc c9) (fun _ => ?_)
          refine ev_go 4 (pc' := 71) (L' := [some (.ref 0), some (.int y1379), some (.int y1380), some (.int y1381), some (.int c1390.1)]) (st' := [.int y1381, .ref 1, .int y1380]) (h' := (HX c1390.2 T)) (cs' := 0) (sl' := 0) rfl ?_
          obtain ⟨c1395, hq, h⟩ := ai_bdE h
          refine ev_call (M' := msea_duesOf) (L' := [some (.ref 1), some (.int y1381), none]) (rest := [.int y1380]) (rv := some (.int c1395.1)) (h' := (HX c1395.2 T)) rfl (Esea_duesOf_1 y1381 c1390.2 _ _ hq T) ?_
          show ai_ev D1 mf_net 74 [some (.ref 0), some (.int y1379), some (.int y1380), some (.int y1381), some (.int c1390.1)] [.int c1395.1, .int y1380] (HX c1395.2 T) 0 0 _
          refine ev_go 4 (pc' := 78) (L' := [some (.ref 0), some (.int y1379), some (.int (y1380 + c1395.1)), some (.int y1381), some (.int c1390.1)]) (st' := [.int y1379, .int y1381]) (h' := (HX c1395.2 T)) (cs' := 0) (sl' := 0) rfl ?_
          rcases ai_ifE h with ⟨hc, h⟩ | ⟨hc, h⟩
          · refine ev_ic_ne (t := 92) rfl rfl (fun c9 => absurd hc c9) (fun _ => ?_)
            refine ev_go 4 (pc' := 87) (L' := [some (.ref 0), some (.int y1379), some (.int (y1380 + c1395.1)), some (.int y1381), some (.int c1390.1)]) (st' := [.int y1381, .ref 1, .int (y1380 + c1395.1)]) (h' := (HX c1395.2 T)) (cs' := 0) (sl' := 0) rfl ?_
            obtain ⟨c1396, hq, h⟩ := ai_bdE h
            refine ev_call (M' := msea_duesOf) (L' := [some (.ref 1), some (.int y1381), none]) (rest := [.int (y1380 + c1395.1)]) (rv := some (.int c1396.1)) (h' := (HX c1396.2 T)) rfl (Esea_duesOf_1 y1381 c1395.2 _ _ hq T) ?_
            show ai_ev D1 mf_net 90 [some (.ref 0), some (.int y1379), some (.int (y1380 + c1395.1)), some (.int y1381), some (.int c1390.1)] [.int c1396.1, .int (y1380 + c1395.1)] (HX c1396.2 T) 0 0 _
            refine ev_go 4 (pc' := 29) (L' := [some (.ref 0), some (.int y1379), some (.int ((y1380 + c1395.1) - c1396.1)), some (.int (y1381 + 1)), some (.int c1390.1)]) (st' := []) (h' := (HX c1396.2 T)) (cs' := 0) (sl' := 0) rfl ?_
            exact ih0 _ _ _ _ _ _ h T _
          · refine ev_ic_ne (t := 92) rfl rfl (fun _ => ?_) (fun c9 => absurd c9 hc)
            refine ev_go 2 (pc' := 29) (L' := [some (.ref 0), some (.int y1379), some (.int (y1380 + c1395.1)), some (.int (y1381 + 1)), some (.int c1390.1)]) (st' := []) (h' := (HX c1395.2 T)) (cs' := 0) (sl' := 0) rfl ?_
            exact ih0 _ _ _ _ _ _ h T _
        · refine ev_ic_ne (t := 76) rfl rfl (fun _ => ?_) (fun c9 => absurd c9 hc)
          refine ev_go 2 (pc' := 78) (L' := [some (.ref 0), some (.int y1379), some (.int y1380), some (.int y1381), some (.int c1390.1)]) (st' := [.int y1379, .int y1381]) (h' := (HX c1390.2 T)) (cs' := 0) (sl' := 0) rfl ?_
          rcases ai_ifE h with ⟨hc, h⟩ | ⟨hc, h⟩
          · refine ev_ic_ne (t := 92) rfl rfl (fun c9 => absurd hc c9) (fun _ => ?_)
            refine ev_go 4 (pc' := 87) (L' := [some (.ref 0), some (.int y1379), some (.int y1380), some (.int y1381), some (.int c1390.1)]) (st' := [.int y1381, .ref 1, .int y1380]) (h' := (HX c1390.2 T)) (cs' := 0) (sl' := 0) rfl ?_
            obtain ⟨c1394, hq, h⟩ := ai_bdE h
            refine ev_call (M' := msea_duesOf) (L' := [some (.ref 1), some (.int y1381), none]) (rest := [.int y1380]) (rv := some (.int c1394.1)) (h' := (HX c1394.2 T)) rfl (Esea_duesOf_1 y1381 c1390.2 _ _ hq T) ?_
            show ai_ev D1 mf_net 90 [some (.ref 0), some (.int y1379), some (.int y1380), some (.int y1381), some (.int c1390.1)] [.int c1394.1, .int y1380] (HX c1394.2 T) 0 0 _
            refine ev_go 4 (pc' := 29) (L' := [some (.ref 0), some (.int y1379), some (.int (y1380 - c1394.1)), some (.int (y1381 + 1)), some (.int c1390.1)]) (st' := []) (h' := (HX c1394.2 T)) (cs' := 0) (sl' := 0) rfl ?_
            exact ih0 _ _ _ _ _ _ h T _
          · refine ev_ic_ne (t := 92) rfl rfl (fun _ => ?_) (fun c9 => absurd c9 hc)
            refine ev_go 2 (pc' := 29) (L' := [some (.ref 0), some (.int y1379), some (.int y1380), some (.int (y1381 + 1)), some (.int c1390.1)]) (st' := []) (h' := (HX c1390.2 T)) (cs' := 0) (sl' := 0) rfl ?_
            exact ih0 _ _ _ _ _ _ h T _
set_option maxHeartbeats 40000000 in
set_option maxRecDepth 100000 in
theorem Ef_net_0 (n : Nat) (x1376 : Int32) (w : WX) (r : Int32) (w' : WX) (h : Ff_net_0 n x1376 w = some (r, w')) (T : ai_H) : ai_ev D1 mf_net 0 [some (.ref 0), some (.int x1376), none, none, none] [] (HX w T) 0 0 (some (.int r), HX w' T) := by
  unfold Ff_net_0 at h
  have ih0 := EGf_net_0 n
  refine ev_go 7 (pc' := 11) (L' := [some (.ref 0), some (.int x1376), none, none, none]) (st' := [.int ((a_s1_towns w) - 1), .int 0, .int x1376]) (h' := (HX w T)) (cs' := 0) (sl' := 0) rfl ?_
  obtain ⟨c1377, hq, h⟩ := ai_bdE h
  refine ev_call (M' := mf_within) (L' := [some (.int x1376), some (.int 0), some (.int ((a_s1_towns w) - 1))]) (rest := []) (rv := some (.int c1377)) (h' := (HX w T)) rfl (Ef_within x1376 0 ((a_s1_towns w) - 1) _ hq (HX w T)) ?_
  show ai_ev D1 mf_net 14 [some (.ref 0), some (.int x1376), none, none, none] [.int c1377] (HX w T) 0 0 _
  rcases ai_ifE h with ⟨hc, h⟩ | ⟨hc, h⟩
  · refine ev_if_ne (t := 25) rfl rfl (fun c9 => absurd hc c9) (fun _ => ?_)
    refine ev_go 2 (pc' := 21) (L' := [some (.ref 0), some (.int x1376), none, none, none]) (st' := [.int (-1000), .ref 0]) (h' := (HX w T)) (cs' := 0) (sl' := 0) rfl ?_
    obtain ⟨c1378, hq, h⟩ := ai_bdE h
    refine ev_call (M' := mf_bad) (L' := [some (.ref 0), some (.int (-1000))]) (rest := []) (rv := some (.int c1378.1)) (h' := (HX c1378.2 T)) rfl (Ef_bad_0 (-1000) w _ _ hq T) ?_
    show ai_ev D1 mf_net 24 [some (.ref 0), some (.int x1376), none, none, none] [.int c1378.1] (HX c1378.2 T) 0 0 _
    obtain ⟨rfl, rfl⟩ := ai_smP h
    exact ev_end rfl
  · refine ev_if_ne (t := 25) rfl rfl (fun _ => ?_) (fun c9 => absurd c9 hc)
    refine ev_go 4 (pc' := 29) (L' := [some (.ref 0), some (.int x1376), some (.int 0), some (.int 0), none]) (st' := []) (h' := (HX w T)) (cs' := 0) (sl' := 0) rfl ?_
    exact ih0 _ _ _ _ _ _ h T _
