set_option maxHeartbeats 40000000 in
set_option maxRecDepth 100000 in
theorem Ef_shapeWithBallast_0 (x1381 : Int32) (x1382 : Int32) (x1383 : Int32) (w : WX) (w' : WX) (h : Ff_shapeWithBallast_0 x1381 x1382 x1383 w = some w') (T : ai_H) : ai_ev D1 mf_shapeWithBallast 0 [some (.ref 0), some (.int x1381), some (.int x1382), some (.int x1383), none] [] (HX w T) 0 0 (none, HX w' T) := by
  unfold Ff_shapeWithBallast_0 at h
  refine ev_go 9 (pc' := 19) (L' := [some (.ref 0), some (.int x1381), some (.int x1382), some (.int x1383), some (.ref 7)]) (st' := [.int x1381, .ref 8, .ref 81]) (h' := (HX w T)) (cs' := 0) (sl' := 0) rfl ?_
  obtain ⟨v1384, hq, h⟩ := ai_bdE h
  refine ev_iald rfl rfl hq ?_
  refine ev_go 3 (pc' := 26) (L' := [some (.ref 0), some (.int x1381), some (.int x1382), some (.int x1383), some (.ref 7)]) (st' := [.int x1381, .ref 9, .int v1384, .ref 81]) (h' := (HX w T)) (cs' := 0) (sl' := 0) rfl ?_
  obtain ⟨v1385, hq, h⟩ := ai_bdE h
  refine ev_iald rfl rfl hq ?_
  refine ev_go 3 (pc' := 33) (L' := [some (.ref 0), some (.int x1381), some (.int x1382), some (.int x1383), some (.ref 7)]) (st' := [.int x1381, .ref 10, .int v1385, .int v1384, .ref 81]) (h' := (HX w T)) (cs' := 0) (sl' := 0) rfl ?_
  obtain ⟨v1386, hq, h⟩ := ai_bdE h
  refine ev_iald rfl rfl hq ?_
  refine ev_go 2 (pc' := 36) (L' := [some (.ref 0), some (.int x1381), some (.int x1382), some (.int x1383), some (.ref 7)]) (st' := [.int x1383, .int x1382, .int v1386, .int v1385, .int v1384, .ref 81]) (h' := (HX w T)) (cs' := 0) (sl' := 0) rfl ?_
  obtain ⟨c1404, hq, h⟩ := ai_bdE h
  refine ev_call (M' := mfall_shape) (L' := [some (.ref 81), some (.int v1384), some (.int v1385), some (.int v1386), some (.int x1382), some (.int x1383)]) (rest := []) (rv := none) (h' := (HX c1404 T)) rfl (Efall_shape_81 v1384 v1385 v1386 x1382 x1383 w _ hq T) ?_
  show ai_ev D1 mf_shapeWithBallast 39 [some (.ref 0), some (.int x1381), some (.int x1382), some (.int x1383), some (.ref 7)] [] (HX c1404 T) 0 0 _
  obtain rfl := Option.some.inj h
  exact ev_end rfl
set_option maxHeartbeats 40000000 in
set_option maxRecDepth 100000 in
theorem Ef_shapeNow_0 (x1379 : Int32) (w : WX) (w' : WX) (h : Ff_shapeNow_0 x1379 w = some w') (T : ai_H) : ai_ev D1 mf_shapeNow 0 [some (.ref 0), some (.int x1379)] [] (HX w T) 0 0 (none, HX w' T) := by
  unfold Ff_shapeNow_0 at h
  refine ev_go 7 (pc' := 13) (L' := [some (.ref 0), some (.int x1379)]) (st' := [.int x1379, .ref 11, .int x1379, .ref 0]) (h' := (HX w T)) (cs' := 0) (sl' := 0) rfl ?_
  obtain ⟨v1380, hq, h⟩ := ai_bdE h
  refine ev_iald rfl rfl hq ?_
  refine ev_go 3 (pc' := 21) (L' := [some (.ref 0), some (.int x1379)]) (st' := [.int (a_s1_hour w), .int v1380, .int x1379, .ref 0]) (h' := (HX w T)) (cs' := 0) (sl' := 0) rfl ?_
  obtain ⟨c1405, hq, h⟩ := ai_bdE h
  refine ev_call (M' := mf_shapeWithBallast) (L' := [some (.ref 0), some (.int x1379), some (.int v1380), some (.int (a_s1_hour w)), none]) (rest := []) (rv := none) (h' := (HX c1405 T)) rfl (Ef_shapeWithBallast_0 x1379 v1380 (a_s1_hour w) w _ hq T) ?_
  show ai_ev D1 mf_shapeNow 24 [some (.ref 0), some (.int x1379)] [] (HX c1405 T) 0 0 _
  obtain rfl := Option.some.inj h
  exact ev_end rfl
set_option maxHeartbeats 40000000 in
set_option maxRecDepth 100000 in
theorem Ef_of_0 (x1374 : Int32) (x1375 : Int32) (w : WX) (r : Int32) (w' : WX) (h : Ff_of_0 x1374 x1375 w = some (r, w')) (T : ai_H) : ai_ev D1 mf_of 0 [some (.ref 0), some (.int x1374), some (.int x1375)] [] (HX w T) 0 0 (some (.int r), HX w' T) := by
  unfold Ff_of_0 at h
  refine ev_go 4 (pc' := 8) (L' := [some (.ref 0), some (.int x1374), some (.int x1375)]) (st' := [.int x1374, .ref 7]) (h' := (HX w T)) (cs' := 0) (sl' := 0) rfl ?_
  obtain ⟨c1376, hq, h⟩ := ai_bdE h
  refine ev_call (M' := mthg_has) (L' := [some (.ref 7), some (.int x1374)]) (rest := []) (rv := some (.int c1376.1)) (h' := (HX c1376.2 T)) rfl (Ethg_has_7 x1374 w _ _ hq T) ?_
  show ai_ev D1 mf_of 11 [some (.ref 0), some (.int x1374), some (.int x1375)] [.int c1376.1] (HX c1376.2 T) 0 0 _
  rcases ai_ifE h with ⟨hc, h⟩ | ⟨hc, h⟩
  · refine ev_if_eq (t := 23) rfl rfl (fun _ => ?_) (fun c9 => absurd hc c9)
    refine ev_go 2 (pc' := 26) (L' := [some (.ref 0), some (.int x1374), some (.int x1375)]) (st' := [.int (-2), .ref 0]) (h' := (HX c1376.2 T)) (cs' := 0) (sl' := 0) rfl ?_
    obtain ⟨c1377, hq, h⟩ := ai_bdE h
    refine ev_call (M' := mf_bad) (L' := [some (.ref 0), some (.int (-2))]) (rest := []) (rv := some (.int c1377.1)) (h' := (HX c1377.2 T)) rfl (Ef_bad_0 (-2) c1376.2 _ _ hq T) ?_
    show ai_ev D1 mf_of 29 [some (.ref 0), some (.int x1374), some (.int x1375)] [.int c1377.1] (HX c1377.2 T) 0 0 _
    obtain ⟨rfl, rfl⟩ := ai_smP h
    exact ev_end rfl
  · refine ev_if_eq (t := 23) rfl rfl (fun c9 => absurd c9 hc) (fun _ => ?_)
    refine ev_go 3 (pc' := 17) (L' := [some (.ref 0), some (.int x1374), some (.int x1375)]) (st' := [.int 2, .int 0, .int x1375]) (h' := (HX c1376.2 T)) (cs' := 0) (sl' := 0) rfl ?_
    obtain ⟨c1378, hq, h⟩ := ai_bdE h
    refine ev_call (M' := mf_within) (L' := [some (.int x1375), some (.int 0), some (.int 2)]) (rest := []) (rv := some (.int c1378)) (h' := (HX c1376.2 T)) rfl (Ef_within x1375 0 2 _ hq (HX c1376.2 T)) ?_
    show ai_ev D1 mf_of 20 [some (.ref 0), some (.int x1374), some (.int x1375)] [.int c1378] (HX c1376.2 T) 0 0 _
    rcases ai_ifE h with ⟨hc, h⟩ | ⟨hc, h⟩
    · refine ev_if_ne (t := 30) rfl rfl (fun c9 => absurd hc c9) (fun _ => ?_)
      refine ev_go 2 (pc' := 26) (L' := [some (.ref 0), some (.int x1374), some (.int x1375)]) (st' := [.int (-2), .ref 0]) (h' := (HX c1376.2 T)) (cs' := 0) (sl' := 0) rfl ?_
      obtain ⟨c1408, hq, h⟩ := ai_bdE h
      refine ev_call (M' := mf_bad) (L' := [some (.ref 0), some (.int (-2))]) (rest := []) (rv := some (.int c1408.1)) (h' := (HX c1408.2 T)) rfl (Ef_bad_0 (-2) c1376.2 _ _ hq T) ?_
      show ai_ev D1 mf_of 29 [some (.ref 0), some (.int x1374), some (.int x1375)] [.int c1408.1] (HX c1408.2 T) 0 0 _
      obtain ⟨rfl, rfl⟩ := ai_smP h
      exact ev_end rfl
    · refine ev_if_ne (t := 30) rfl rfl (fun _ => ?_) (fun c9 => absurd c9 hc)
      refine ev_go 1 (pc' := 31) (L' := [some (.ref 0), some (.int x1374), some (.int x1375)]) (st' := [.int x1375]) (h' := (HX c1376.2 T)) (cs' := 0) (sl' := 0) rfl ?_
      rcases ai_ifE h with ⟨hc, h⟩ | ⟨hc, h⟩
      · refine ev_if_ne (t := 47) rfl rfl (fun c9 => absurd hc c9) (fun _ => ?_)
        refine ev_go 5 (pc' := 45) (L' := [some (.ref 0), some (.int x1374), some (.int x1375)]) (st' := [.int x1374, .ref 8]) (h' := (HX c1376.2 T)) (cs' := 0) (sl' := 0) rfl ?_
        obtain ⟨v1407, hq, h⟩ := ai_bdE h
        refine ev_iald rfl rfl hq ?_
        obtain ⟨rfl, rfl⟩ := ai_smP h
        exact ev_end rfl
      · refine ev_if_ne (t := 47) rfl rfl (fun _ => ?_) (fun c9 => absurd c9 hc)
        refine ev_go 2 (pc' := 49) (L' := [some (.ref 0), some (.int x1374), some (.int x1375)]) (st' := [.int x1374, .ref 0]) (h' := (HX c1376.2 T)) (cs' := 0) (sl' := 0) rfl ?_
        obtain ⟨c1406, hq, h⟩ := ai_bdE h
        refine ev_call (M' := mf_shapeNow) (L' := [some (.ref 0), some (.int x1374)]) (rest := []) (rv := none) (h' := (HX c1406 T)) rfl (Ef_shapeNow_0 x1374 c1376.2 _ hq T) ?_
        show ai_ev D1 mf_of 52 [some (.ref 0), some (.int x1374), some (.int x1375)] [] (HX c1406 T) 0 0 _
        refine ev_go 2 (pc' := 54) (L' := [some (.ref 0), some (.int x1374), some (.int x1375)]) (st' := [.int 1, .int x1375]) (h' := (HX c1406 T)) (cs' := 0) (sl' := 0) rfl ?_
        rcases ai_ifE h with ⟨hc, h⟩ | ⟨hc, h⟩
        · refine ev_ic_ne (t := 67) rfl rfl (fun c9 => absurd hc c9) (fun _ => ?_)
          refine ev_go 4 (pc' := 74) (L' := [some (.ref 0), some (.int x1374), some (.int x1375)]) (st' := [.int (a_fall_weighs c1406)]) (h' := (HX c1406 T)) (cs' := 0) (sl' := 0) rfl ?_
          obtain ⟨rfl, rfl⟩ := ai_smP h
          exact ev_end rfl
        · refine ev_ic_ne (t := 67) rfl rfl (fun _ => ?_) (fun c9 => absurd c9 hc)
          refine ev_go 3 (pc' := 74) (L' := [some (.ref 0), some (.int x1374), some (.int x1375)]) (st' := [.int (a_fall_room c1406)]) (h' := (HX c1406 T)) (cs' := 0) (sl' := 0) rfl ?_
          obtain ⟨rfl, rfl⟩ := ai_smP h
          exact ev_end rfl
set_option maxHeartbeats 40000000 in
set_option maxRecDepth 100000 in
theorem Esea_thickAt_1 (x1414 : Int32) (x1415 : Int32) (x1416 : Int32) (w : WX) (r : Int32) (w' : WX) (h : Fsea_thickAt_1 x1414 x1415 x1416 w = some (r, w')) (T : ai_H) : ai_ev D1 msea_thickAt 0 [some (.ref 1), some (.int x1414), some (.int x1415), some (.int x1416)] [] (HX w T) 0 0 (some (.int r), HX w' T) := by
  unfold Fsea_thickAt_1 at h
  refine ev_go 8 (pc' := 11) (L' := [some (.ref 1), some (.int x1414), some (.int x1415), some (.int x1416)]) (st' := [.int ((x1414 * 6) + x1415), .ref 5, .int 0]) (h' := (HX w T)) (cs' := 0) (sl' := 0) rfl ?_
  obtain ⟨v1417, hq, h⟩ := ai_bdE h
  refine ev_iald rfl rfl hq ?_
  refine ev_go 9 (pc' := 25) (L' := [some (.ref 1), some (.int x1414), some (.int x1415), some (.int x1416)]) (st' := [.int ((x1414 * 6) + (x1416 - x1416 / 6 * 6)), .ref 4, .int v1417, .int 0]) (h' := (HX w T)) (cs' := 0) (sl' := 0) rfl ?_
  obtain ⟨v1418, hq, h⟩ := ai_bdE h
  refine ev_iald rfl rfl hq ?_
  refine ev_go 2 (pc' := 30) (L' := [some (.ref 1), some (.int x1414), some (.int x1415), some (.int x1416)]) (st' := [.int (if 0 < (v1417 + v1418) then (v1417 + v1418) else 0)]) (h' := (HX w T)) (cs' := 0) (sl' := 0) rfl ?_
  obtain ⟨rfl, rfl⟩ := ai_smP h
  exact ev_end rfl
set_option maxHeartbeats 40000000 in
set_option maxRecDepth 100000 in
theorem Ef_deep_0 (x1409 : Int32) (x1410 : Int32) (w : WX) (r : Int32) (w' : WX) (h : Ff_deep_0 x1409 x1410 w = some (r, w')) (T : ai_H) : ai_ev D1 mf_deep 0 [some (.ref 0), some (.int x1409), some (.int x1410)] [] (HX w T) 0 0 (some (.int r), HX w' T) := by
  unfold Ff_deep_0 at h
  refine ev_go 1 (pc' := 1) (L' := [some (.ref 0), some (.int x1409), some (.int x1410)]) (st' := [.int x1409]) (h' := (HX w T)) (cs' := 0) (sl' := 0) rfl ?_
  obtain ⟨c1411, hq, h⟩ := ai_bdE h
  refine ev_call (M' := mf_isLayer) (L' := [some (.int x1409)]) (rest := []) (rv := some (.int c1411)) (h' := (HX w T)) rfl (Ef_isLayer x1409 _ hq (HX w T)) ?_
  show ai_ev D1 mf_deep 4 [some (.ref 0), some (.int x1409), some (.int x1410)] [.int c1411] (HX w T) 0 0 _
  rcases ai_ifE h with ⟨hc, h⟩ | ⟨hc, h⟩
  · refine ev_if_eq (t := 18) rfl rfl (fun _ => ?_) (fun c9 => absurd hc c9)
    refine ev_go 2 (pc' := 21) (L' := [some (.ref 0), some (.int x1409), some (.int x1410)]) (st' := [.int (-2), .ref 0]) (h' := (HX w T)) (cs' := 0) (sl' := 0) rfl ?_
    obtain ⟨c1412, hq, h⟩ := ai_bdE h
    refine ev_call (M' := mf_bad) (L' := [some (.ref 0), some (.int (-2))]) (rest := []) (rv := some (.int c1412.1)) (h' := (HX c1412.2 T)) rfl (Ef_bad_0 (-2) w _ _ hq T) ?_
    show ai_ev D1 mf_deep 24 [some (.ref 0), some (.int x1409), some (.int x1410)] [.int c1412.1] (HX c1412.2 T) 0 0 _
    obtain ⟨rfl, rfl⟩ := ai_smP h
    exact ev_end rfl
  · refine ev_if_eq (t := 18) rfl rfl (fun c9 => absurd c9 hc) (fun _ => ?_)
    refine ev_go 3 (pc' := 12) (L' := [some (.ref 0), some (.int x1409), some (.int x1410)]) (st' := [.int x1410, .ref 1]) (h' := (HX w T)) (cs' := 0) (sl' := 0) rfl ?_
    obtain ⟨c1413, hq, h⟩ := ai_bdE h
    refine ev_call (M' := msea_hasCell) (L' := [some (.ref 1), some (.int x1410)]) (rest := []) (rv := some (.int c1413.1)) (h' := (HX c1413.2 T)) rfl (Esea_hasCell_1 x1410 w _ _ hq T) ?_
    show ai_ev D1 mf_deep 15 [some (.ref 0), some (.int x1409), some (.int x1410)] [.int c1413.1] (HX c1413.2 T) 0 0 _
    rcases ai_ifE h with ⟨hc, h⟩ | ⟨hc, h⟩
    · refine ev_if_ne (t := 25) rfl rfl (fun c9 => absurd hc c9) (fun _ => ?_)
      refine ev_go 2 (pc' := 21) (L' := [some (.ref 0), some (.int x1409), some (.int x1410)]) (st' := [.int (-2), .ref 0]) (h' := (HX c1413.2 T)) (cs' := 0) (sl' := 0) rfl ?_
      obtain ⟨c1420, hq, h⟩ := ai_bdE h
      refine ev_call (M' := mf_bad) (L' := [some (.ref 0), some (.int (-2))]) (rest := []) (rv := some (.int c1420.1)) (h' := (HX c1420.2 T)) rfl (Ef_bad_0 (-2) c1413.2 _ _ hq T) ?_
      show ai_ev D1 mf_deep 24 [some (.ref 0), some (.int x1409), some (.int x1410)] [.int c1420.1] (HX c1420.2 T) 0 0 _
      obtain ⟨rfl, rfl⟩ := ai_smP h
      exact ev_end rfl
    · refine ev_if_ne (t := 25) rfl rfl (fun _ => ?_) (fun c9 => absurd c9 hc)
      refine ev_go 7 (pc' := 38) (L' := [some (.ref 0), some (.int x1409), some (.int x1410)]) (st' := [.int (a_s1_hour c1413.2), .int x1410, .int x1409, .ref 1]) (h' := (HX c1413.2 T)) (cs' := 0) (sl' := 0) rfl ?_
      obtain ⟨c1419, hq, h⟩ := ai_bdE h
      refine ev_call (M' := msea_thickAt) (L' := [some (.ref 1), some (.int x1409), some (.int x1410), some (.int (a_s1_hour c1413.2))]) (rest := []) (rv := some (.int c1419.1)) (h' := (HX c1419.2 T)) rfl (Esea_thickAt_1 x1409 x1410 (a_s1_hour c1413.2) c1413.2 _ _ hq T) ?_
      show ai_ev D1 mf_deep 41 [some (.ref 0), some (.int x1409), some (.int x1410)] [.int c1419.1] (HX c1419.2 T) 0 0 _
      obtain ⟨rfl, rfl⟩ := ai_smP h
      exact ev_end rfl
set_option maxHeartbeats 40000000 in
set_option maxRecDepth 100000 in
theorem EGarr_fill_82 : ∀ n : Nat, (∀ (y1437 : Int32) (y1438 : Int32) (y1439 : Int32) (w : WX) (w' : WX), Garr_fill_82 n 0 y1437 y1438 y1439 w = some w' → ∀ (T : ai_H), ai_ev D1 marr_fill 5 [some (.ref 82), some (.int y1437), some (.int y1438), some (.int y1439)] [] (HX w T) 0 0 (none, HX w' T)) := by
  intro n
  induction n with
  | zero =>
    exact (fun _ _ _ _ _ h => by cases h)
  | succ n ih0 =>
    intro y1437 y1438 y1439 w w' h T
    simp only [Garr_fill_82] at h
    refine ev_go 2 (pc' := 7) (L' := [some (.ref 82), some (.int y1437), some (.int y1438), some (.int y1439)]) (st' := [.int y1439, .int y1438]) (h' := (HX w T)) (cs' := 0) (sl' := 0) rfl ?_
    rcases ai_ifE h with ⟨hc, h⟩ | ⟨hc, h⟩
    · refine ev_ic_ge (t := 20) rfl rfl (fun _ => ?_) (fun c9 => absurd hc c9)
      obtain rfl := Option.some.inj h
      exact ev_end rfl
    · refine ev_ic_ge (t := 20) rfl rfl (fun c9 => absurd c9 hc) (fun _ => ?_)
      refine ev_go 3 (pc' := 13) (L' := [some (.ref 82), some (.int y1437), some (.int y1438), some (.int y1439)]) (st' := [.int y1437, .int y1438, .ref 82]) (h' := (HX w T)) (cs' := 0) (sl' := 0) rfl ?_
      obtain ⟨q1440, hq, h⟩ := ai_bdE h
      refine ev_iast rfl rfl hq ?_
      rw [HXs_82]
      refine ev_go 2 (pc' := 5) (L' := [some (.ref 82), some (.int y1437), some (.int (y1438 + 1)), some (.int y1439)]) (st' := []) (h' := (HX (u_fall_passedThick w q1440) T)) (cs' := 0) (sl' := 0) rfl ?_
      exact ih0 _ _ _ _ _ h T
set_option maxHeartbeats 40000000 in
set_option maxRecDepth 100000 in
theorem Earr_fill_82 (n : Nat) (x1436 : Int32) (w : WX) (w' : WX) (h : Farr_fill_82 n x1436 w = some w') (T : ai_H) : ai_ev D1 marr_fill 0 [some (.ref 82), some (.int x1436), none, none] [] (HX w T) 0 0 (none, HX w' T) := by
  unfold Farr_fill_82 at h
  have ih0 := EGarr_fill_82 n
  refine ev_go 5 (pc' := 5) (L' := [some (.ref 82), some (.int x1436), some (.int 0), some (.int (Int32.ofNat (List.length (a_fall_passedThick w))))]) (st' := []) (h' := (HX w T)) (cs' := 0) (sl' := 0) rfl ?_
  exact ih0 _ _ _ _ _ h T
set_option maxHeartbeats 40000000 in
set_option maxRecDepth 100000 in
theorem Efall_forget_81 (n : Nat) (w : WX) (w' : WX) (h : Ffall_forget_81 n w = some w') (T : ai_H) : ai_ev D1 mfall_forget 0 [some (.ref 81)] [] (HX w T) 0 0 (none, HX w' T) := by
  unfold Ffall_forget_81 at h
  refine ev_go 2 (pc' := 2) (L' := [some (.ref 81)]) (st' := [.int 0, .ref 81]) (h' := (HX w T)) (cs' := 0) (sl' := 0) rfl ?_
  refine ev_step rfl rfl rfl (PFX_0_24_81 rfl) ?_
  refine ev_go 2 (pc' := 7) (L' := [some (.ref 81)]) (st' := [.int 0, .ref 81]) (h' := (HX (u_fall_down w 0) T)) (cs' := 0) (sl' := 0) rfl ?_
  refine ev_step rfl rfl rfl (PFX_0_27_81 rfl) ?_
  refine ev_go 2 (pc' := 12) (L' := [some (.ref 81)]) (st' := [.int (-1), .ref 81]) (h' := (HX (u_fall_broken (u_fall_down w 0) 0) T)) (cs' := 0) (sl' := 0) rfl ?_
  refine ev_step rfl rfl rfl (PFX_0_30_81 rfl) ?_
  refine ev_go 3 (pc' := 20) (L' := [some (.ref 81)]) (st' := [.int 0, .ref 82]) (h' := (HX (u_fall_stopper (u_fall_broken (u_fall_down w 0) 0) (-1)) T)) (cs' := 0) (sl' := 0) rfl ?_
  obtain ⟨c1441, hq, h⟩ := ai_bdE h
  refine ev_call (M' := marr_fill) (L' := [some (.ref 82), some (.int 0), none, none]) (rest := []) (rv := none) (h' := (HX c1441 T)) rfl (Earr_fill_82 n 0 (u_fall_stopper (u_fall_broken (u_fall_down w 0) 0) (-1)) _ hq T) ?_
  show ai_ev D1 mfall_forget 23 [some (.ref 81)] [] (HX c1441 T) 0 0 _
  obtain rfl := Option.some.inj h
  exact ev_end rfl
set_option maxHeartbeats 40000000 in
set_option maxRecDepth 100000 in
theorem Efall_getsThrough_81_1 (x1451 : Int32) (x1452 : Int32) (w : WX) (r : Int32) (w' : WX) (h : Ffall_getsThrough_81_1 x1451 x1452 w = some (r, w')) (T : ai_H) : ai_ev D1 mfall_getsThrough 0 [some (.ref 81), some (.ref 1), some (.int x1451), some (.int x1452)] [] (HX w T) 0 0 (some (.int r), HX w' T) := by
  unfold Ffall_getsThrough_81_1 at h
  refine ev_go 6 (pc' := 6) (L' := [some (.ref 81), some (.ref 1), some (.int x1451), some (.int x1452)]) (st' := [.int 1, .int ((x1452 >>> (x1451 &&& 31)) &&& 1)]) (h' := (HX w T)) (cs' := 0) (sl' := 0) rfl ?_
  rcases ai_ifE h with ⟨hc, h⟩ | ⟨hc, h⟩
  · refine ev_ic_ne (t := 11) rfl rfl (fun c9 => absurd hc c9) (fun _ => ?_)
    refine ev_go 1 (pc' := 10) (L' := [some (.ref 81), some (.ref 1), some (.int x1451), some (.int x1452)]) (st' := [.int 1]) (h' := (HX w T)) (cs' := 0) (sl' := 0) rfl ?_
    obtain ⟨rfl, rfl⟩ := ai_smP h
    exact ev_end rfl
  · refine ev_ic_ne (t := 11) rfl rfl (fun _ => ?_) (fun c9 => absurd c9 hc)
    refine ev_go 3 (pc' := 16) (L' := [some (.ref 81), some (.ref 1), some (.int x1451), some (.int x1452)]) (st' := [.int x1451, .ref 6]) (h' := (HX w T)) (cs' := 0) (sl' := 0) rfl ?_
    obtain ⟨v1453, hq, h⟩ := ai_bdE h
    refine ev_iald rfl rfl hq ?_
    refine ev_go 2 (pc' := 21) (L' := [some (.ref 81), some (.ref 1), some (.int x1451), some (.int x1452)]) (st' := [.int (a_fall_force w), .int v1453]) (h' := (HX w T)) (cs' := 0) (sl' := 0) rfl ?_
    rcases ai_ifE h with ⟨hc, h⟩ | ⟨hc, h⟩
    · refine ev_ic_lt (t := 26) rfl rfl (fun _ => ?_) (fun c9 => absurd hc c9)
      refine ev_go 7 (pc' := 35) (L' := [some (.ref 81), some (.ref 1), some (.int x1451), some (.int x1452)]) (st' := [.int ((a_fall_broken w) ||| (1 <<< (x1451 &&& 31))), .ref 81]) (h' := (HX w T)) (cs' := 0) (sl' := 0) rfl ?_
      refine ev_step rfl rfl rfl (PFX_0_27_81 rfl) ?_
      refine ev_go 1 (pc' := 39) (L' := [some (.ref 81), some (.ref 1), some (.int x1451), some (.int x1452)]) (st' := [.int 1]) (h' := (HX (u_fall_broken w ((a_fall_broken w) ||| (1 <<< (x1451 &&& 31)))) T)) (cs' := 0) (sl' := 0) rfl ?_
      obtain ⟨rfl, rfl⟩ := ai_smP h
      exact ev_end rfl
    · refine ev_ic_lt (t := 26) rfl rfl (fun c9 => absurd c9 hc) (fun _ => ?_)
      refine ev_go 1 (pc' := 25) (L' := [some (.ref 81), some (.ref 1), some (.int x1451), some (.int x1452)]) (st' := [.int 0]) (h' := (HX w T)) (cs' := 0) (sl' := 0) rfl ?_
      obtain ⟨rfl, rfl⟩ := ai_smP h
      exact ev_end rfl
set_option maxHeartbeats 40000000 in
set_option maxRecDepth 100000 in
theorem EGfall_letGo_81_1 : ∀ n : Nat, (∀ (y1443 : Int32) (y1444 : Int32) (y1445 : Int32) (y1446 : Int32) (y1447 : Int32) (w : WX) (w' : WX), Gfall_letGo_81_1 n 0 y1443 y1444 y1445 y1446 y1447 w = some w' → ∀ (T : ai_H) (o7 : Option Value), ai_ev D1 mfall_letGo 10 [some (.ref 81), some (.ref 1), some (.int y1443), some (.int y1444), some (.int y1445), some (.int y1446), some (.int y1447), o7] [] (HX w T) 0 0 (none, HX w' T)) := by
  intro n
  induction n with
  | zero =>
    exact (fun _ _ _ _ _ _ _ h => by cases h)
  | succ n ih0 =>
    intro y1443 y1444 y1445 y1446 y1447 w w' h T o7
    simp only [Gfall_letGo_81_1] at h
    refine ev_go 2 (pc' := 13) (L' := [some (.ref 81), some (.ref 1), some (.int y1443), some (.int y1444), some (.int y1445), some (.int y1446), some (.int y1447), o7]) (st' := [.int 4, .int y1447]) (h' := (HX w T)) (cs' := 0) (sl' := 0) rfl ?_
    rcases ai_ifE h with ⟨hc, h⟩ | ⟨hc, h⟩
    · refine ev_ic_ge (t := 125) rfl rfl (fun _ => ?_) (fun c9 => absurd hc c9)
      refine ev_go 2 (pc' := 127) (L' := [some (.ref 81), some (.ref 1), some (.int y1443), some (.int y1444), some (.int y1445), some (.int y1446), some (.int y1447), o7]) (st' := [.int 4, .ref 81]) (h' := (HX w T)) (cs' := 0) (sl' := 0) rfl ?_
      refine ev_step rfl rfl rfl (PFX_0_21_81 rfl) ?_
      obtain rfl := Option.some.inj h
      exact ev_end rfl
    · refine ev_ic_ge (t := 125) rfl rfl (fun c9 => absurd c9 hc) (fun _ => ?_)
      refine ev_go 4 (pc' := 21) (L' := [some (.ref 81), some (.ref 1), some (.int y1443), some (.int y1444), some (.int y1445), some (.int y1446), some (.int y1447), o7]) (st' := [.int y1444, .int y1443, .int y1447, .ref 1]) (h' := (HX w T)) (cs' := 0) (sl' := 0) rfl ?_
      obtain ⟨c1448, hq, h⟩ := ai_bdE h
      refine ev_call (M' := msea_thickAt) (L' := [some (.ref 1), some (.int y1447), some (.int y1443), some (.int y1444)]) (rest := []) (rv := some (.int c1448.1)) (h' := (HX c1448.2 T)) rfl (Esea_thickAt_1 y1447 y1443 y1444 w _ _ hq T) ?_
      show ai_ev D1 mfall_letGo 24 [some (.ref 81), some (.ref 1), some (.int y1443), some (.int y1444), some (.int y1445), some (.int y1446), some (.int y1447), o7] [.int c1448.1] (HX c1448.2 T) 0 0 _
      refine ev_go 2 (pc' := 28) (L' := [some (.ref 81), some (.ref 1), some (.int y1443), some (.int y1444), some (.int y1445), some (.int y1446), some (.int y1447), some (.int c1448.1)]) (st' := [.int c1448.1]) (h' := (HX c1448.2 T)) (cs' := 0) (sl' := 0) rfl ?_
      rcases ai_ifE h with ⟨hc, h⟩ | ⟨hc, h⟩
      · refine ev_if_ne (t := 34) rfl rfl (fun c9 => absurd hc c9) (fun _ => ?_)
        refine ev_go 3 (pc' := 10) (L' := [some (.ref 81), some (.ref 1), some (.int y1443), some (.int y1444), some (.int y1445), some (.int y1446), some (.int (y1447 + 1)), some (.int c1448.1)]) (st' := []) (h' := (HX c1448.2 T)) (cs' := 0) (sl' := 0) rfl ?_
        exact ih0 _ _ _ _ _ _ _ h T _
      · refine ev_if_ne (t := 34) rfl rfl (fun _ => ?_) (fun c9 => absurd c9 hc)
        refine ev_go 2 (pc' := 37) (L' := [some (.ref 81), some (.ref 1), some (.int y1443), some (.int y1444), some (.int y1445), some (.int y1446), some (.int y1447), some (.int c1448.1)]) (st' := [.int (-1), .int y1446]) (h' := (HX c1448.2 T)) (cs' := 0) (sl' := 0) rfl ?_
        rcases ai_ifE h with ⟨hc, h⟩ | ⟨hc, h⟩
        · refine ev_ic_eq (t := 69) rfl rfl (fun _ => ?_) (fun c9 => absurd hc c9)
          refine ev_go 7 (pc' := 83) (L' := [some (.ref 81), some (.ref 1), some (.int y1443), some (.int y1444), some (.int y1445), some (.int y1446), some (.int y1447), some (.int c1448.1)]) (st' := [.int y1447, .ref 2, .int (a_fall_room c1448.2), .int (a_fall_weighs c1448.2)]) (h' := (HX c1448.2 T)) (cs' := 0) (sl' := 0) rfl ?_
          obtain ⟨v1449, hq, h⟩ := ai_bdE h
          refine ev_iald rfl rfl hq ?_
          refine ev_go 1 (pc' := 85) (L' := [some (.ref 81), some (.ref 1), some (.int y1443), some (.int y1444), some (.int y1445), some (.int y1446), some (.int y1447), some (.int c1448.1)]) (st' := [.int ((a_fall_room c1448.2) * v1449), .int (a_fall_weighs c1448.2)]) (h' := (HX c1448.2 T)) (cs' := 0) (sl' := 0) rfl ?_
          rcases ai_ifE h with ⟨hc, h⟩ | ⟨hc, h⟩
          · refine ev_ic_gt (t := 95) rfl rfl (fun _ => ?_) (fun c9 => absurd hc c9)
            refine ev_go 4 (pc' := 103) (L' := [some (.ref 81), some (.ref 1), some (.int y1443), some (.int y1444), some (.int y1445), some (.int y1446), some (.int y1447), some (.int c1448.1)]) (st' := [.int c1448.1, .int y1447, .ref 82]) (h' := (HX c1448.2 T)) (cs' := 0) (sl' := 0) rfl ?_
            obtain ⟨q1450, hq, h⟩ := ai_bdE h
            refine ev_iast rfl rfl hq ?_
            rw [HXs_82]
            refine ev_go 5 (pc' := 112) (L' := [some (.ref 81), some (.ref 1), some (.int y1443), some (.int y1444), some (.int y1445), some (.int y1446), some (.int y1447), some (.int c1448.1)]) (st' := [.int ((a_fall_down c1448.2) + c1448.1), .ref 81]) (h' := (HX (u_fall_passedThick c1448.2 q1450) T)) (cs' := 0) (sl' := 0) rfl ?_
            refine ev_step rfl rfl rfl (PFX_0_24_81 rfl) ?_
            refine ev_go 4 (pc' := 10) (L' := [some (.ref 81), some (.ref 1), some (.int y1443), some (.int y1444), some (.int y1445), some (.int y1447), some (.int (y1447 + 1)), some (.int c1448.1)]) (st' := []) (h' := (HX (u_fall_down (u_fall_passedThick c1448.2 q1450) ((a_fall_down c1448.2) + c1448.1)) T)) (cs' := 0) (sl' := 0) rfl ?_
            exact ih0 _ _ _ _ _ _ _ h T _
          · refine ev_ic_gt (t := 95) rfl rfl (fun c9 => absurd c9 hc) (fun _ => ?_)
            refine ev_go 2 (pc' := 91) (L' := [some (.ref 81), some (.ref 1), some (.int y1443), some (.int y1444), some (.int y1445), some (.int y1446), some (.int y1447), some (.int c1448.1)]) (st' := [.int y1447, .ref 81]) (h' := (HX c1448.2 T)) (cs' := 0) (sl' := 0) rfl ?_
            refine ev_step rfl rfl rfl (PFX_0_21_81 rfl) ?_
            obtain rfl := Option.some.inj h
            exact ev_end rfl
        · refine ev_ic_eq (t := 69) rfl rfl (fun c9 => absurd c9 hc) (fun _ => ?_)
          refine ev_go 6 (pc' := 48) (L' := [some (.ref 81), some (.ref 1), some (.int y1443), some (.int y1444), some (.int y1445), some (.int y1446), some (.int y1447), some (.int c1448.1)]) (st' := [.int y1445, .int (y1447 - 1), .ref 1, .ref 81]) (h' := (HX c1448.2 T)) (cs' := 0) (sl' := 0) rfl ?_
          obtain ⟨c1454, hq, h⟩ := ai_bdE h
          refine ev_call (M' := mfall_getsThrough) (L' := [some (.ref 81), some (.ref 1), some (.int (y1447 - 1)), some (.int y1445)]) (rest := []) (rv := some (.int c1454.1)) (h' := (HX c1454.2 T)) rfl (Efall_getsThrough_81_1 (y1447 - 1) y1445 c1448.2 _ _ hq T) ?_
          show ai_ev D1 mfall_letGo 51 [some (.ref 81), some (.ref 1), some (.int y1443), some (.int y1444), some (.int y1445), some (.int y1446), some (.int y1447), some (.int c1448.1)] [.int c1454.1] (HX c1454.2 T) 0 0 _
          rcases ai_ifE h with ⟨hc, h⟩ | ⟨hc, h⟩
          · refine ev_if_ne (t := 69) rfl rfl (fun c9 => absurd hc c9) (fun _ => ?_)
            refine ev_go 4 (pc' := 59) (L' := [some (.ref 81), some (.ref 1), some (.int y1443), some (.int y1444), some (.int y1445), some (.int y1446), some (.int y1447), some (.int c1448.1)]) (st' := [.int (y1447 - 1), .ref 81]) (h' := (HX c1454.2 T)) (cs' := 0) (sl' := 0) rfl ?_
            refine ev_step rfl rfl rfl (PFX_0_30_81 rfl) ?_
            refine ev_go 2 (pc' := 65) (L' := [some (.ref 81), some (.ref 1), some (.int y1443), some (.int y1444), some (.int y1445), some (.int y1446), some (.int y1447), some (.int c1448.1)]) (st' := [.int y1446, .ref 81]) (h' := (HX (u_fall_stopper c1454.2 (y1447 - 1)) T)) (cs' := 0) (sl' := 0) rfl ?_
            refine ev_step rfl rfl rfl (PFX_0_21_81 rfl) ?_
            obtain rfl := Option.some.inj h
            exact ev_end rfl
          · refine ev_if_ne (t := 69) rfl rfl (fun _ => ?_) (fun c9 => absurd c9 hc)
            refine ev_go 7 (pc' := 83) (L' := [some (.ref 81), some (.ref 1), some (.int y1443), some (.int y1444), some (.int y1445), some (.int y1446), some (.int y1447), some (.int c1448.1)]) (st' := [.int y1447, .ref 2, .int (a_fall_room c1454.2), .int (a_fall_weighs c1454.2)]) (h' := (HX c1454.2 T)) (cs' := 0) (sl' := 0) rfl ?_
            obtain ⟨v1455, hq, h⟩ := ai_bdE h
            refine ev_iald rfl rfl hq ?_
            refine ev_go 1 (pc' := 85) (L' := [some (.ref 81), some (.ref 1), some (.int y1443), some (.int y1444), some (.int y1445), some (.int y1446), some (.int y1447), some (.int c1448.1)]) (st' := [.int ((a_fall_room c1454.2) * v1455), .int (a_fall_weighs c1454.2)]) (h' := (HX c1454.2 T)) (cs' := 0) (sl' := 0) rfl ?_
            rcases ai_ifE h with ⟨hc, h⟩ | ⟨hc, h⟩
            · refine ev_ic_gt (t := 95) rfl rfl (fun _ => ?_) (fun c9 => absurd hc c9)
              refine ev_go 4 (pc' := 103) (L' := [some (.ref 81), some (.ref 1), some (.int y1443), some (.int y1444), some (.int y1445), some (.int y1446), some (.int y1447), some (.int c1448.1)]) (st' := [.int c1448.1, .int y1447, .ref 82]) (h' := (HX c1454.2 T)) (cs' := 0) (sl' := 0) rfl ?_
              obtain ⟨q1456, hq, h⟩ := ai_bdE h
              refine ev_iast rfl rfl hq ?_
              rw [HXs_82]
              refine ev_go 5 (pc' := 112) (L' := [some (.ref 81), some (.ref 1), some (.int y1443), some (.int y1444), some (.int y1445), some (.int y1446), some (.int y1447), some (.int c1448.1)]) (st' := [.int ((a_fall_down c1454.2) + c1448.1), .ref 81]) (h' := (HX (u_fall_passedThick c1454.2 q1456) T)) (cs' := 0) (sl' := 0) rfl ?_
              refine ev_step rfl rfl rfl (PFX_0_24_81 rfl) ?_
              refine ev_go 4 (pc' := 10) (L' := [some (.ref 81), some (.ref 1), some (.int y1443), some (.int y1444), some (.int y1445), some (.int y1447), some (.int (y1447 + 1)), some (.int c1448.1)]) (st' := []) (h' := (HX (u_fall_down (u_fall_passedThick c1454.2 q1456) ((a_fall_down c1454.2) + c1448.1)) T)) (cs' := 0) (sl' := 0) rfl ?_
              exact ih0 _ _ _ _ _ _ _ h T _
            · refine ev_ic_gt (t := 95) rfl rfl (fun c9 => absurd c9 hc) (fun _ => ?_)
              refine ev_go 2 (pc' := 91) (L' := [some (.ref 81), some (.ref 1), some (.int y1443), some (.int y1444), some (.int y1445), some (.int y1446), some (.int y1447), some (.int c1448.1)]) (st' := [.int y1447, .ref 81]) (h' := (HX c1454.2 T)) (cs' := 0) (sl' := 0) rfl ?_
              refine ev_step rfl rfl rfl (PFX_0_21_81 rfl) ?_
              obtain rfl := Option.some.inj h
              exact ev_end rfl
set_option maxHeartbeats 40000000 in
set_option maxRecDepth 100000 in
theorem Efall_letGo_81_1 (n : Nat) (x1433 : Int32) (x1434 : Int32) (x1435 : Int32) (w : WX) (w' : WX) (h : Ffall_letGo_81_1 n x1433 x1434 x1435 w = some w') (T : ai_H) : ai_ev D1 mfall_letGo 0 [some (.ref 81), some (.ref 1), some (.int x1433), some (.int x1434), some (.int x1435), none, none, none] [] (HX w T) 0 0 (none, HX w' T) := by
  unfold Ffall_letGo_81_1 at h
  have ih0 := EGfall_letGo_81_1 n
  refine ev_go 1 (pc' := 1) (L' := [some (.ref 81), some (.ref 1), some (.int x1433), some (.int x1434), some (.int x1435), none, none, none]) (st' := [.ref 81]) (h' := (HX w T)) (cs' := 0) (sl' := 0) rfl ?_
  obtain ⟨c1442, hq, h⟩ := ai_bdE h
  refine ev_call (M' := mfall_forget) (L' := [some (.ref 81)]) (rest := []) (rv := none) (h' := (HX c1442 T)) rfl (Efall_forget_81 n w _ hq T) ?_
  show ai_ev D1 mfall_letGo 4 [some (.ref 81), some (.ref 1), some (.int x1433), some (.int x1434), some (.int x1435), none, none, none] [] (HX c1442 T) 0 0 _
  refine ev_go 4 (pc' := 10) (L' := [some (.ref 81), some (.ref 1), some (.int x1433), some (.int x1434), some (.int x1435), some (.int (-1)), some (.int 0), none]) (st' := []) (h' := (HX c1442 T)) (cs' := 0) (sl' := 0) rfl ?_
  exact ih0 _ _ _ _ _ _ _ h T _
set_option maxHeartbeats 40000000 in
set_option maxRecDepth 100000 in
theorem Ef_letGoNow_0 (n : Nat) (x1429 : Int32) (x1430 : Int32) (x1431 : Int32) (w : WX) (w' : WX) (h : Ff_letGoNow_0 n x1429 x1430 x1431 w = some w') (T : ai_H) : ai_ev D1 mf_letGoNow 0 [some (.ref 0), some (.int x1429), some (.int x1430), some (.int x1431)] [] (HX w T) 0 0 (none, HX w' T) := by
  unfold Ff_letGoNow_0 at h
  refine ev_go 2 (pc' := 2) (L' := [some (.ref 0), some (.int x1429), some (.int x1430), some (.int x1431)]) (st' := [.int x1429, .ref 0]) (h' := (HX w T)) (cs' := 0) (sl' := 0) rfl ?_
  obtain ⟨c1432, hq, h⟩ := ai_bdE h
  refine ev_call (M' := mf_shapeNow) (L' := [some (.ref 0), some (.int x1429)]) (rest := []) (rv := none) (h' := (HX c1432 T)) rfl (Ef_shapeNow_0 x1429 w _ hq T) ?_
  show ai_ev D1 mf_letGoNow 5 [some (.ref 0), some (.int x1429), some (.int x1430), some (.int x1431)] [] (HX c1432 T) 0 0 _
  refine ev_go 9 (pc' := 22) (L' := [some (.ref 0), some (.int x1429), some (.int x1430), some (.int x1431)]) (st' := [.int x1431, .int (a_s1_hour c1432), .int x1430, .ref 1, .ref 81]) (h' := (HX c1432 T)) (cs' := 0) (sl' := 0) rfl ?_
  obtain ⟨c1457, hq, h⟩ := ai_bdE h
  refine ev_call (M' := mfall_letGo) (L' := [some (.ref 81), some (.ref 1), some (.int x1430), some (.int (a_s1_hour c1432)), some (.int x1431), none, none, none]) (rest := []) (rv := none) (h' := (HX c1457 T)) rfl (Efall_letGo_81_1 n x1430 (a_s1_hour c1432) x1431 c1432 _ hq T) ?_
  show ai_ev D1 mf_letGoNow 25 [some (.ref 0), some (.int x1429), some (.int x1430), some (.int x1431)] [] (HX c1457 T) 0 0 _
  obtain rfl := Option.some.inj h
  exact ev_end rfl
set_option maxHeartbeats 40000000 in
set_option maxRecDepth 100000 in
theorem Ef_rests_0 (n : Nat) (x1421 : Int32) (x1422 : Int32) (x1423 : Int32) (w : WX) (r : Int32) (w' : WX) (h : Ff_rests_0 n x1421 x1422 x1423 w = some (r, w')) (T : ai_H) : ai_ev D1 mf_rests 0 [some (.ref 0), some (.int x1421), some (.int x1422), some (.int x1423)] [] (HX w T) 0 0 (some (.int r), HX w' T) := by
  unfold Ff_rests_0 at h
  refine ev_go 4 (pc' := 8) (L' := [some (.ref 0), some (.int x1421), some (.int x1422), some (.int x1423)]) (st' := [.int x1421, .ref 7]) (h' := (HX w T)) (cs' := 0) (sl' := 0) rfl ?_
  obtain ⟨c1424, hq, h⟩ := ai_bdE h
  refine ev_call (M' := mthg_has) (L' := [some (.ref 7), some (.int x1421)]) (rest := []) (rv := some (.int c1424.1)) (h' := (HX c1424.2 T)) rfl (Ethg_has_7 x1421 w _ _ hq T) ?_
  show ai_ev D1 mf_rests 11 [some (.ref 0), some (.int x1421), some (.int x1422), some (.int x1423)] [.int c1424.1] (HX c1424.2 T) 0 0 _
  rcases ai_ifE h with ⟨hc, h⟩ | ⟨hc, h⟩
  · refine ev_if_eq (t := 34) rfl rfl (fun _ => ?_) (fun c9 => absurd hc c9)
    refine ev_go 2 (pc' := 37) (L' := [some (.ref 0), some (.int x1421), some (.int x1422), some (.int x1423)]) (st' := [.int (-2), .ref 0]) (h' := (HX c1424.2 T)) (cs' := 0) (sl' := 0) rfl ?_
    obtain ⟨c1425, hq, h⟩ := ai_bdE h
    refine ev_call (M' := mf_bad) (L' := [some (.ref 0), some (.int (-2))]) (rest := []) (rv := some (.int c1425.1)) (h' := (HX c1425.2 T)) rfl (Ef_bad_0 (-2) c1424.2 _ _ hq T) ?_
    show ai_ev D1 mf_rests 40 [some (.ref 0), some (.int x1421), some (.int x1422), some (.int x1423)] [.int c1425.1] (HX c1425.2 T) 0 0 _
    obtain ⟨rfl, rfl⟩ := ai_smP h
    exact ev_end rfl
  · refine ev_if_eq (t := 34) rfl rfl (fun c9 => absurd c9 hc) (fun _ => ?_)
    refine ev_go 3 (pc' := 19) (L' := [some (.ref 0), some (.int x1421), some (.int x1422), some (.int x1423)]) (st' := [.int x1422, .ref 1]) (h' := (HX c1424.2 T)) (cs' := 0) (sl' := 0) rfl ?_
    obtain ⟨c1426, hq, h⟩ := ai_bdE h
    refine ev_call (M' := msea_hasCell) (L' := [some (.ref 1), some (.int x1422)]) (rest := []) (rv := some (.int c1426.1)) (h' := (HX c1426.2 T)) rfl (Esea_hasCell_1 x1422 c1424.2 _ _ hq T) ?_
    show ai_ev D1 mf_rests 22 [some (.ref 0), some (.int x1421), some (.int x1422), some (.int x1423)] [.int c1426.1] (HX c1426.2 T) 0 0 _
    rcases ai_ifE h with ⟨hc, h⟩ | ⟨hc, h⟩
    · refine ev_if_eq (t := 34) rfl rfl (fun _ => ?_) (fun c9 => absurd hc c9)
      refine ev_go 2 (pc' := 37) (L' := [some (.ref 0), some (.int x1421), some (.int x1422), some (.int x1423)]) (st' := [.int (-2), .ref 0]) (h' := (HX c1426.2 T)) (cs' := 0) (sl' := 0) rfl ?_
      obtain ⟨c1427, hq, h⟩ := ai_bdE h
      refine ev_call (M' := mf_bad) (L' := [some (.ref 0), some (.int (-2))]) (rest := []) (rv := some (.int c1427.1)) (h' := (HX c1427.2 T)) rfl (Ef_bad_0 (-2) c1426.2 _ _ hq T) ?_
      show ai_ev D1 mf_rests 40 [some (.ref 0), some (.int x1421), some (.int x1422), some (.int x1423)] [.int c1427.1] (HX c1427.2 T) 0 0 _
      obtain ⟨rfl, rfl⟩ := ai_smP h
      exact ev_end rfl
    · refine ev_if_eq (t := 34) rfl rfl (fun c9 => absurd c9 hc) (fun _ => ?_)
      refine ev_go 3 (pc' := 28) (L' := [some (.ref 0), some (.int x1421), some (.int x1422), some (.int x1423)]) (st' := [.int 2, .int 0, .int x1423]) (h' := (HX c1426.2 T)) (cs' := 0) (sl' := 0) rfl ?_
      obtain ⟨c1428, hq, h⟩ := ai_bdE h
      refine ev_call (M' := mf_within) (L' := [some (.int x1423), some (.int 0), some (.int 2)]) (rest := []) (rv := some (.int c1428)) (h' := (HX c1426.2 T)) rfl (Ef_within x1423 0 2 _ hq (HX c1426.2 T)) ?_
      show ai_ev D1 mf_rests 31 [some (.ref 0), some (.int x1421), some (.int x1422), some (.int x1423)] [.int c1428] (HX c1426.2 T) 0 0 _
      rcases ai_ifE h with ⟨hc, h⟩ | ⟨hc, h⟩
      · refine ev_if_ne (t := 41) rfl rfl (fun c9 => absurd hc c9) (fun _ => ?_)
        refine ev_go 2 (pc' := 37) (L' := [some (.ref 0), some (.int x1421), some (.int x1422), some (.int x1423)]) (st' := [.int (-2), .ref 0]) (h' := (HX c1426.2 T)) (cs' := 0) (sl' := 0) rfl ?_
        obtain ⟨c1459, hq, h⟩ := ai_bdE h
        refine ev_call (M' := mf_bad) (L' := [some (.ref 0), some (.int (-2))]) (rest := []) (rv := some (.int c1459.1)) (h' := (HX c1459.2 T)) rfl (Ef_bad_0 (-2) c1426.2 _ _ hq T) ?_
        show ai_ev D1 mf_rests 40 [some (.ref 0), some (.int x1421), some (.int x1422), some (.int x1423)] [.int c1459.1] (HX c1459.2 T) 0 0 _
        obtain ⟨rfl, rfl⟩ := ai_smP h
        exact ev_end rfl
      · refine ev_if_ne (t := 41) rfl rfl (fun _ => ?_) (fun c9 => absurd c9 hc)
        refine ev_go 4 (pc' := 45) (L' := [some (.ref 0), some (.int x1421), some (.int x1422), some (.int x1423)]) (st' := [.int 0, .int x1422, .int x1421, .ref 0]) (h' := (HX c1426.2 T)) (cs' := 0) (sl' := 0) rfl ?_
        obtain ⟨c1458, hq, h⟩ := ai_bdE h
        refine ev_call (M' := mf_letGoNow) (L' := [some (.ref 0), some (.int x1421), some (.int x1422), some (.int 0)]) (rest := []) (rv := none) (h' := (HX c1458 T)) rfl (Ef_letGoNow_0 n x1421 x1422 0 c1426.2 _ hq T) ?_
        show ai_ev D1 mf_rests 48 [some (.ref 0), some (.int x1421), some (.int x1422), some (.int x1423)] [] (HX c1458 T) 0 0 _
        refine ev_go 1 (pc' := 49) (L' := [some (.ref 0), some (.int x1421), some (.int x1422), some (.int x1423)]) (st' := [.int x1423]) (h' := (HX c1458 T)) (cs' := 0) (sl' := 0) rfl ?_
        rcases ai_ifE h with ⟨hc, h⟩ | ⟨hc, h⟩
        · refine ev_if_ne (t := 60) rfl rfl (fun c9 => absurd hc c9) (fun _ => ?_)
          refine ev_go 3 (pc' := 59) (L' := [some (.ref 0), some (.int x1421), some (.int x1422), some (.int x1423)]) (st' := [.int (a_fall_layer c1458)]) (h' := (HX c1458 T)) (cs' := 0) (sl' := 0) rfl ?_
          obtain ⟨rfl, rfl⟩ := ai_smP h
          exact ev_end rfl
        · refine ev_if_ne (t := 60) rfl rfl (fun _ => ?_) (fun c9 => absurd c9 hc)
          refine ev_go 2 (pc' := 62) (L' := [some (.ref 0), some (.int x1421), some (.int x1422), some (.int x1423)]) (st' := [.int 1, .int x1423]) (h' := (HX c1458 T)) (cs' := 0) (sl' := 0) rfl ?_
          rcases ai_ifE h with ⟨hc, h⟩ | ⟨hc, h⟩
          · refine ev_ic_ne (t := 75) rfl rfl (fun c9 => absurd hc c9) (fun _ => ?_)
            refine ev_go 4 (pc' := 82) (L' := [some (.ref 0), some (.int x1421), some (.int x1422), some (.int x1423)]) (st' := [.int (a_fall_down c1458)]) (h' := (HX c1458 T)) (cs' := 0) (sl' := 0) rfl ?_
            obtain ⟨rfl, rfl⟩ := ai_smP h
            exact ev_end rfl
          · refine ev_ic_ne (t := 75) rfl rfl (fun _ => ?_) (fun c9 => absurd c9 hc)
            refine ev_go 3 (pc' := 82) (L' := [some (.ref 0), some (.int x1421), some (.int x1422), some (.int x1423)]) (st' := [.int (a_fall_broken c1458)]) (h' := (HX c1458 T)) (cs' := 0) (sl' := 0) rfl ?_
            obtain ⟨rfl, rfl⟩ := ai_smP h
            exact ev_end rfl
set_option maxHeartbeats 40000000 in
set_option maxRecDepth 100000 in
theorem Ef_takesBallast_0 (x1463 : Int32) (w : WX) (r : Int32) (w' : WX) (h : Ff_takesBallast_0 x1463 w = some (r, w')) (T : ai_H) : ai_ev D1 mf_takesBallast 0 [some (.ref 0), some (.int x1463)] [] (HX w T) 0 0 (some (.int r), HX w' T) := by
  unfold Ff_takesBallast_0 at h
  refine ev_go 4 (pc' := 8) (L' := [some (.ref 0), some (.int x1463)]) (st' := [.int x1463, .ref 7]) (h' := (HX w T)) (cs' := 0) (sl' := 0) rfl ?_
  obtain ⟨c1464, hq, h⟩ := ai_bdE h
  refine ev_call (M' := mthg_has) (L' := [some (.ref 7), some (.int x1463)]) (rest := []) (rv := some (.int c1464.1)) (h' := (HX c1464.2 T)) rfl (Ethg_has_7 x1463 w _ _ hq T) ?_
  show ai_ev D1 mf_takesBallast 11 [some (.ref 0), some (.int x1463)] [.int c1464.1] (HX c1464.2 T) 0 0 _
  rcases ai_ifE h with ⟨hc, h⟩ | ⟨hc, h⟩
  · refine ev_if_eq (t := 38) rfl rfl (fun _ => ?_) (fun c9 => absurd hc c9)
    refine ev_go 1 (pc' := 39) (L' := [some (.ref 0), some (.int x1463)]) (st' := [.int 0]) (h' := (HX c1464.2 T)) (cs' := 0) (sl' := 0) rfl ?_
    obtain ⟨rfl, rfl⟩ := ai_smP h
    exact ev_end rfl
  · refine ev_if_eq (t := 38) rfl rfl (fun c9 => absurd c9 hc) (fun _ => ?_)
    refine ev_go 5 (pc' := 25) (L' := [some (.ref 0), some (.int x1463)]) (st' := [.int x1463, .ref 8]) (h' := (HX c1464.2 T)) (cs' := 0) (sl' := 0) rfl ?_
    obtain ⟨v1465, hq, h⟩ := ai_bdE h
    refine ev_iald rfl rfl hq ?_
    refine ev_go 2 (pc' := 28) (L' := [some (.ref 0), some (.int x1463)]) (st' := [.int 3, .int 1, .int v1465]) (h' := (HX c1464.2 T)) (cs' := 0) (sl' := 0) rfl ?_
    obtain ⟨c1466, hq, h⟩ := ai_bdE h
    refine ev_call (M' := mf_within) (L' := [some (.int v1465), some (.int 1), some (.int 3)]) (rest := []) (rv := some (.int c1466)) (h' := (HX c1464.2 T)) rfl (Ef_within v1465 1 3 _ hq (HX c1464.2 T)) ?_
    show ai_ev D1 mf_takesBallast 31 [some (.ref 0), some (.int x1463)] [.int c1466] (HX c1464.2 T) 0 0 _
    rcases ai_ifE h with ⟨hc, h⟩ | ⟨hc, h⟩
    · refine ev_if_eq (t := 38) rfl rfl (fun _ => ?_) (fun c9 => absurd hc c9)
      refine ev_go 1 (pc' := 39) (L' := [some (.ref 0), some (.int x1463)]) (st' := [.int 0]) (h' := (HX c1464.2 T)) (cs' := 0) (sl' := 0) rfl ?_
      obtain ⟨rfl, rfl⟩ := ai_smP h
      exact ev_end rfl
    · refine ev_if_eq (t := 38) rfl rfl (fun c9 => absurd c9 hc) (fun _ => ?_)
      refine ev_go 2 (pc' := 39) (L' := [some (.ref 0), some (.int x1463)]) (st' := [.int 1]) (h' := (HX c1464.2 T)) (cs' := 0) (sl' := 0) rfl ?_
      obtain ⟨rfl, rfl⟩ := ai_smP h
      exact ev_end rfl
set_option maxHeartbeats 40000000 in
set_option maxRecDepth 100000 in
theorem Ef_letGoWithBallast_0 (n : Nat) (x1481 : Int32) (x1482 : Int32) (x1483 : Int32) (x1484 : Int32) (w : WX) (w' : WX) (h : Ff_letGoWithBallast_0 n x1481 x1482 x1483 x1484 w = some w') (T : ai_H) : ai_ev D1 mf_letGoWithBallast 0 [some (.ref 0), some (.int x1481), some (.int x1482), some (.int x1483), some (.int x1484)] [] (HX w T) 0 0 (none, HX w' T) := by
  unfold Ff_letGoWithBallast_0 at h
  refine ev_go 4 (pc' := 5) (L' := [some (.ref 0), some (.int x1481), some (.int x1482), some (.int x1483), some (.int x1484)]) (st' := [.int x1484, .int x1483, .int x1481, .ref 0]) (h' := (HX w T)) (cs' := 0) (sl' := 0) rfl ?_
  obtain ⟨c1485, hq, h⟩ := ai_bdE h
  refine ev_call (M' := mf_shapeWithBallast) (L' := [some (.ref 0), some (.int x1481), some (.int x1483), some (.int x1484), none]) (rest := []) (rv := none) (h' := (HX c1485 T)) rfl (Ef_shapeWithBallast_0 x1481 x1483 x1484 w _ hq T) ?_
  show ai_ev D1 mf_letGoWithBallast 8 [some (.ref 0), some (.int x1481), some (.int x1482), some (.int x1483), some (.int x1484)] [] (HX c1485 T) 0 0 _
  refine ev_go 7 (pc' := 20) (L' := [some (.ref 0), some (.int x1481), some (.int x1482), some (.int x1483), some (.int x1484)]) (st' := [.int 0, .int x1484, .int x1482, .ref 1, .ref 81]) (h' := (HX c1485 T)) (cs' := 0) (sl' := 0) rfl ?_
  obtain ⟨c1486, hq, h⟩ := ai_bdE h
  refine ev_call (M' := mfall_letGo) (L' := [some (.ref 81), some (.ref 1), some (.int x1482), some (.int x1484), some (.int 0), none, none, none]) (rest := []) (rv := none) (h' := (HX c1486 T)) rfl (Efall_letGo_81_1 n x1482 x1484 0 c1485 _ hq T) ?_
  show ai_ev D1 mf_letGoWithBallast 23 [some (.ref 0), some (.int x1481), some (.int x1482), some (.int x1483), some (.int x1484)] [] (HX c1486 T) 0 0 _
  obtain rfl := Option.some.inj h
  exact ev_end rfl
set_option maxHeartbeats 40000000 in
set_option maxRecDepth 100000 in
theorem EGf_leastBallast_0 : ∀ n : Nat, (∀ (y1476 : Int32) (y1477 : Int32) (y1478 : Int32) (y1479 : Int32) (y1480 : Int32) (w : WX) (r : Int32) (w' : WX), Gf_leastBallast_0 n 0 y1476 y1477 y1478 y1479 y1480 w = some (r, w') → ∀ (T : ai_H), ai_ev D1 mf_leastBallast 3 [some (.ref 0), some (.int y1476), some (.int y1477), some (.int y1478), some (.int y1479), some (.int y1480)] [] (HX w T) 0 0 (some (.int r), HX w' T)) := by
  intro n
  induction n with
  | zero =>
    exact (fun _ _ _ _ _ _ _ _ h => by cases h)
  | succ n ih0 =>
    intro y1476 y1477 y1478 y1479 y1480 w r w' h T
    simp only [Gf_leastBallast_0] at h
    refine ev_go 2 (pc' := 7) (L' := [some (.ref 0), some (.int y1476), some (.int y1477), some (.int y1478), some (.int y1479), some (.int y1480)]) (st' := [.int 99, .int y1480]) (h' := (HX w T)) (cs' := 0) (sl' := 0) rfl ?_
    rcases ai_ifE h with ⟨hc, h⟩ | ⟨hc, h⟩
    · refine ev_ic_gt (t := 40) rfl rfl (fun _ => ?_) (fun c9 => absurd hc c9)
      refine ev_go 1 (pc' := 41) (L' := [some (.ref 0), some (.int y1476), some (.int y1477), some (.int y1478), some (.int y1479), some (.int y1480)]) (st' := [.int (-1)]) (h' := (HX w T)) (cs' := 0) (sl' := 0) rfl ?_
      obtain ⟨rfl, rfl⟩ := ai_smP h
      exact ev_end rfl
    · refine ev_ic_gt (t := 40) rfl rfl (fun c9 => absurd c9 hc) (fun _ => ?_)
      refine ev_go 5 (pc' := 17) (L' := [some (.ref 0), some (.int y1476), some (.int y1477), some (.int y1478), some (.int y1479), some (.int y1480)]) (st' := [.int y1479, .int y1480, .int y1477, .int y1476, .ref 0]) (h' := (HX w T)) (cs' := 0) (sl' := 0) rfl ?_
      obtain ⟨c1487, hq, h⟩ := ai_bdE h
      refine ev_call (M' := mf_letGoWithBallast) (L' := [some (.ref 0), some (.int y1476), some (.int y1477), some (.int y1480), some (.int y1479)]) (rest := []) (rv := none) (h' := (HX c1487 T)) rfl (Ef_letGoWithBallast_0 n y1476 y1477 y1480 y1479 w _ hq T) ?_
      show ai_ev D1 mf_leastBallast 20 [some (.ref 0), some (.int y1476), some (.int y1477), some (.int y1478), some (.int y1479), some (.int y1480)] [] (HX c1487 T) 0 0 _
      refine ev_go 4 (pc' := 28) (L' := [some (.ref 0), some (.int y1476), some (.int y1477), some (.int y1478), some (.int y1479), some (.int y1480)]) (st' := [.int y1478, .int (a_fall_layer c1487)]) (h' := (HX c1487 T)) (cs' := 0) (sl' := 0) rfl ?_
      rcases ai_ifE h with ⟨hc, h⟩ | ⟨hc, h⟩
      · refine ev_ic_ne (t := 34) rfl rfl (fun c9 => absurd hc c9) (fun _ => ?_)
        refine ev_go 1 (pc' := 33) (L' := [some (.ref 0), some (.int y1476), some (.int y1477), some (.int y1478), some (.int y1479), some (.int y1480)]) (st' := [.int y1480]) (h' := (HX c1487 T)) (cs' := 0) (sl' := 0) rfl ?_
        obtain ⟨rfl, rfl⟩ := ai_smP h
        exact ev_end rfl
      · refine ev_ic_ne (t := 34) rfl rfl (fun _ => ?_) (fun c9 => absurd c9 hc)
        refine ev_go 2 (pc' := 3) (L' := [some (.ref 0), some (.int y1476), some (.int y1477), some (.int y1478), some (.int y1479), some (.int (y1480 + 1))]) (st' := []) (h' := (HX c1487 T)) (cs' := 0) (sl' := 0) rfl ?_
        exact ih0 _ _ _ _ _ _ _ _ h T
set_option maxHeartbeats 40000000 in
set_option maxRecDepth 100000 in
theorem Ef_leastBallast_0 (n : Nat) (x1472 : Int32) (x1473 : Int32) (x1474 : Int32) (x1475 : Int32) (w : WX) (r : Int32) (w' : WX) (h : Ff_leastBallast_0 n x1472 x1473 x1474 x1475 w = some (r, w')) (T : ai_H) : ai_ev D1 mf_leastBallast 0 [some (.ref 0), some (.int x1472), some (.int x1473), some (.int x1474), some (.int x1475), none] [] (HX w T) 0 0 (some (.int r), HX w' T) := by
  unfold Ff_leastBallast_0 at h
  have ih0 := EGf_leastBallast_0 n
  refine ev_go 2 (pc' := 3) (L' := [some (.ref 0), some (.int x1472), some (.int x1473), some (.int x1474), some (.int x1475), some (.int 0)]) (st' := []) (h' := (HX w T)) (cs' := 0) (sl' := 0) rfl ?_
  exact ih0 _ _ _ _ _ _ _ _ h T
set_option maxHeartbeats 40000000 in
set_option maxRecDepth 100000 in
theorem Ef_sink_0 (n : Nat) (x1460 : Int32) (x1461 : Int32) (x1462 : Int32) (w : WX) (r : Int32) (w' : WX) (h : Ff_sink_0 n x1460 x1461 x1462 w = some (r, w')) (T : ai_H) : ai_ev D1 mf_sink 0 [some (.ref 0), some (.int x1460), some (.int x1461), some (.int x1462)] [] (HX w T) 0 0 (some (.int r), HX w' T) := by
  unfold Ff_sink_0 at h
  refine ev_go 2 (pc' := 2) (L' := [some (.ref 0), some (.int x1460), some (.int x1461), some (.int x1462)]) (st' := [.int x1460, .ref 0]) (h' := (HX w T)) (cs' := 0) (sl' := 0) rfl ?_
  obtain ⟨c1467, hq, h⟩ := ai_bdE h
  refine ev_call (M' := mf_takesBallast) (L' := [some (.ref 0), some (.int x1460)]) (rest := []) (rv := some (.int c1467.1)) (h' := (HX c1467.2 T)) rfl (Ef_takesBallast_0 x1460 w _ _ hq T) ?_
  show ai_ev D1 mf_sink 5 [some (.ref 0), some (.int x1460), some (.int x1461), some (.int x1462)] [.int c1467.1] (HX c1467.2 T) 0 0 _
  rcases ai_ifE h with ⟨hc, h⟩ | ⟨hc, h⟩
  · refine ev_if_eq (t := 28) rfl rfl (fun _ => ?_) (fun c9 => absurd hc c9)
    refine ev_go 2 (pc' := 31) (L' := [some (.ref 0), some (.int x1460), some (.int x1461), some (.int x1462)]) (st' := [.int (-10), .ref 0]) (h' := (HX c1467.2 T)) (cs' := 0) (sl' := 0) rfl ?_
    obtain ⟨c1468, hq, h⟩ := ai_bdE h
    refine ev_call (M' := mf_bad) (L' := [some (.ref 0), some (.int (-10))]) (rest := []) (rv := some (.int c1468.1)) (h' := (HX c1468.2 T)) rfl (Ef_bad_0 (-10) c1467.2 _ _ hq T) ?_
    show ai_ev D1 mf_sink 34 [some (.ref 0), some (.int x1460), some (.int x1461), some (.int x1462)] [.int c1468.1] (HX c1468.2 T) 0 0 _
    obtain ⟨rfl, rfl⟩ := ai_smP h
    exact ev_end rfl
  · refine ev_if_eq (t := 28) rfl rfl (fun c9 => absurd c9 hc) (fun _ => ?_)
    refine ev_go 3 (pc' := 13) (L' := [some (.ref 0), some (.int x1460), some (.int x1461), some (.int x1462)]) (st' := [.int x1461, .ref 1]) (h' := (HX c1467.2 T)) (cs' := 0) (sl' := 0) rfl ?_
    obtain ⟨c1469, hq, h⟩ := ai_bdE h
    refine ev_call (M' := msea_hasCell) (L' := [some (.ref 1), some (.int x1461)]) (rest := []) (rv := some (.int c1469.1)) (h' := (HX c1469.2 T)) rfl (Esea_hasCell_1 x1461 c1467.2 _ _ hq T) ?_
    show ai_ev D1 mf_sink 16 [some (.ref 0), some (.int x1460), some (.int x1461), some (.int x1462)] [.int c1469.1] (HX c1469.2 T) 0 0 _
    rcases ai_ifE h with ⟨hc, h⟩ | ⟨hc, h⟩
    · refine ev_if_eq (t := 28) rfl rfl (fun _ => ?_) (fun c9 => absurd hc c9)
      refine ev_go 2 (pc' := 31) (L' := [some (.ref 0), some (.int x1460), some (.int x1461), some (.int x1462)]) (st' := [.int (-10), .ref 0]) (h' := (HX c1469.2 T)) (cs' := 0) (sl' := 0) rfl ?_
      obtain ⟨c1470, hq, h⟩ := ai_bdE h
      refine ev_call (M' := mf_bad) (L' := [some (.ref 0), some (.int (-10))]) (rest := []) (rv := some (.int c1470.1)) (h' := (HX c1470.2 T)) rfl (Ef_bad_0 (-10) c1469.2 _ _ hq T) ?_
      show ai_ev D1 mf_sink 34 [some (.ref 0), some (.int x1460), some (.int x1461), some (.int x1462)] [.int c1470.1] (HX c1470.2 T) 0 0 _
      obtain ⟨rfl, rfl⟩ := ai_smP h
      exact ev_end rfl
    · refine ev_if_eq (t := 28) rfl rfl (fun c9 => absurd c9 hc) (fun _ => ?_)
      refine ev_go 3 (pc' := 22) (L' := [some (.ref 0), some (.int x1460), some (.int x1461), some (.int x1462)]) (st' := [.int 4, .int 0, .int x1462]) (h' := (HX c1469.2 T)) (cs' := 0) (sl' := 0) rfl ?_
      obtain ⟨c1471, hq, h⟩ := ai_bdE h
      refine ev_call (M' := mf_within) (L' := [some (.int x1462), some (.int 0), some (.int 4)]) (rest := []) (rv := some (.int c1471)) (h' := (HX c1469.2 T)) rfl (Ef_within x1462 0 4 _ hq (HX c1469.2 T)) ?_
      show ai_ev D1 mf_sink 25 [some (.ref 0), some (.int x1460), some (.int x1461), some (.int x1462)] [.int c1471] (HX c1469.2 T) 0 0 _
      rcases ai_ifE h with ⟨hc, h⟩ | ⟨hc, h⟩
      · refine ev_if_ne (t := 35) rfl rfl (fun c9 => absurd hc c9) (fun _ => ?_)
        refine ev_go 2 (pc' := 31) (L' := [some (.ref 0), some (.int x1460), some (.int x1461), some (.int x1462)]) (st' := [.int (-10), .ref 0]) (h' := (HX c1469.2 T)) (cs' := 0) (sl' := 0) rfl ?_
        obtain ⟨c1489, hq, h⟩ := ai_bdE h
        refine ev_call (M' := mf_bad) (L' := [some (.ref 0), some (.int (-10))]) (rest := []) (rv := some (.int c1489.1)) (h' := (HX c1489.2 T)) rfl (Ef_bad_0 (-10) c1469.2 _ _ hq T) ?_
        show ai_ev D1 mf_sink 34 [some (.ref 0), some (.int x1460), some (.int x1461), some (.int x1462)] [.int c1489.1] (HX c1489.2 T) 0 0 _
        obtain ⟨rfl, rfl⟩ := ai_smP h
        exact ev_end rfl
      · refine ev_if_ne (t := 35) rfl rfl (fun _ => ?_) (fun c9 => absurd c9 hc)
        refine ev_go 7 (pc' := 46) (L' := [some (.ref 0), some (.int x1460), some (.int x1461), some (.int x1462)]) (st' := [.int (a_s1_hour c1469.2), .int x1462, .int x1461, .int x1460, .ref 0]) (h' := (HX c1469.2 T)) (cs' := 0) (sl' := 0) rfl ?_
        obtain ⟨c1488, hq, h⟩ := ai_bdE h
        refine ev_call (M' := mf_leastBallast) (L' := [some (.ref 0), some (.int x1460), some (.int x1461), some (.int x1462), some (.int (a_s1_hour c1469.2)), none]) (rest := []) (rv := some (.int c1488.1)) (h' := (HX c1488.2 T)) rfl (Ef_leastBallast_0 n x1460 x1461 x1462 (a_s1_hour c1469.2) c1469.2 _ _ hq T) ?_
        show ai_ev D1 mf_sink 49 [some (.ref 0), some (.int x1460), some (.int x1461), some (.int x1462)] [.int c1488.1] (HX c1488.2 T) 0 0 _
        obtain ⟨rfl, rfl⟩ := ai_smP h
        exact ev_end rfl
set_option maxHeartbeats 40000000 in
set_option maxRecDepth 100000 in
theorem Ef_holds_0 (n : Nat) (x1490 : Int32) (x1491 : Int32) (w : WX) (r : Int32) (w' : WX) (h : Ff_holds_0 n x1490 x1491 w = some (r, w')) (T : ai_H) : ai_ev D1 mf_holds 0 [some (.ref 0), some (.int x1490), some (.int x1491)] [] (HX w T) 0 0 (some (.int r), HX w' T) := by
  unfold Ff_holds_0 at h
  refine ev_go 2 (pc' := 2) (L' := [some (.ref 0), some (.int x1490), some (.int x1491)]) (st' := [.int x1490, .ref 0]) (h' := (HX w T)) (cs' := 0) (sl' := 0) rfl ?_
  obtain ⟨c1492, hq, h⟩ := ai_bdE h
  refine ev_call (M' := mf_takesBallast) (L' := [some (.ref 0), some (.int x1490)]) (rest := []) (rv := some (.int c1492.1)) (h' := (HX c1492.2 T)) rfl (Ef_takesBallast_0 x1490 w _ _ hq T) ?_
  show ai_ev D1 mf_holds 5 [some (.ref 0), some (.int x1490), some (.int x1491)] [.int c1492.1] (HX c1492.2 T) 0 0 _
  rcases ai_ifE h with ⟨hc, h⟩ | ⟨hc, h⟩
  · refine ev_if_eq (t := 19) rfl rfl (fun _ => ?_) (fun c9 => absurd hc c9)
    refine ev_go 2 (pc' := 22) (L' := [some (.ref 0), some (.int x1490), some (.int x1491)]) (st' := [.int (-10), .ref 0]) (h' := (HX c1492.2 T)) (cs' := 0) (sl' := 0) rfl ?_
    obtain ⟨c1493, hq, h⟩ := ai_bdE h
    refine ev_call (M' := mf_bad) (L' := [some (.ref 0), some (.int (-10))]) (rest := []) (rv := some (.int c1493.1)) (h' := (HX c1493.2 T)) rfl (Ef_bad_0 (-10) c1492.2 _ _ hq T) ?_
    show ai_ev D1 mf_holds 25 [some (.ref 0), some (.int x1490), some (.int x1491)] [.int c1493.1] (HX c1493.2 T) 0 0 _
    obtain ⟨rfl, rfl⟩ := ai_smP h
    exact ev_end rfl
  · refine ev_if_eq (t := 19) rfl rfl (fun c9 => absurd c9 hc) (fun _ => ?_)
    refine ev_go 3 (pc' := 13) (L' := [some (.ref 0), some (.int x1490), some (.int x1491)]) (st' := [.int x1491, .ref 1]) (h' := (HX c1492.2 T)) (cs' := 0) (sl' := 0) rfl ?_
    obtain ⟨c1494, hq, h⟩ := ai_bdE h
    refine ev_call (M' := msea_hasCell) (L' := [some (.ref 1), some (.int x1491)]) (rest := []) (rv := some (.int c1494.1)) (h' := (HX c1494.2 T)) rfl (Esea_hasCell_1 x1491 c1492.2 _ _ hq T) ?_
    show ai_ev D1 mf_holds 16 [some (.ref 0), some (.int x1490), some (.int x1491)] [.int c1494.1] (HX c1494.2 T) 0 0 _
    rcases ai_ifE h with ⟨hc, h⟩ | ⟨hc, h⟩
    · refine ev_if_ne (t := 26) rfl rfl (fun c9 => absurd hc c9) (fun _ => ?_)
      refine ev_go 2 (pc' := 22) (L' := [some (.ref 0), some (.int x1490), some (.int x1491)]) (st' := [.int (-10), .ref 0]) (h' := (HX c1494.2 T)) (cs' := 0) (sl' := 0) rfl ?_
      obtain ⟨c1496, hq, h⟩ := ai_bdE h
      refine ev_call (M' := mf_bad) (L' := [some (.ref 0), some (.int (-10))]) (rest := []) (rv := some (.int c1496.1)) (h' := (HX c1496.2 T)) rfl (Ef_bad_0 (-10) c1494.2 _ _ hq T) ?_
      show ai_ev D1 mf_holds 25 [some (.ref 0), some (.int x1490), some (.int x1491)] [.int c1496.1] (HX c1496.2 T) 0 0 _
      obtain ⟨rfl, rfl⟩ := ai_smP h
      exact ev_end rfl
    · refine ev_if_ne (t := 26) rfl rfl (fun _ => ?_) (fun c9 => absurd c9 hc)
      refine ev_go 7 (pc' := 38) (L' := [some (.ref 0), some (.int x1490), some (.int x1491)]) (st' := [.int (a_s1_hour c1494.2), .int 99, .int x1491, .int x1490, .ref 0]) (h' := (HX c1494.2 T)) (cs' := 0) (sl' := 0) rfl ?_
      obtain ⟨c1495, hq, h⟩ := ai_bdE h
      refine ev_call (M' := mf_letGoWithBallast) (L' := [some (.ref 0), some (.int x1490), some (.int x1491), some (.int 99), some (.int (a_s1_hour c1494.2))]) (rest := []) (rv := none) (h' := (HX c1495 T)) rfl (Ef_letGoWithBallast_0 n x1490 x1491 99 (a_s1_hour c1494.2) c1494.2 _ hq T) ?_
      show ai_ev D1 mf_holds 41 [some (.ref 0), some (.int x1490), some (.int x1491)] [] (HX c1495 T) 0 0 _
      refine ev_go 3 (pc' := 48) (L' := [some (.ref 0), some (.int x1490), some (.int x1491)]) (st' := [.int (a_fall_stopper c1495)]) (h' := (HX c1495 T)) (cs' := 0) (sl' := 0) rfl ?_
      obtain ⟨rfl, rfl⟩ := ai_smP h
      exact ev_end rfl
set_option maxHeartbeats 40000000 in
set_option maxRecDepth 100000 in
theorem EGf_bestHour_0 : ∀ n : Nat, (∀ (y1506 : Int32) (y1507 : Int32) (y1508 : Int32) (y1509 : Int32) (y1510 : Int32) (y1511 : Int32) (w : WX) (r : Int32) (w' : WX), Gf_bestHour_0 n 0 y1506 y1507 y1508 y1509 y1510 y1511 w = some (r, w') → ∀ (T : ai_H) (o7 : Option Value), ai_ev D1 mf_bestHour 45 [some (.ref 0), some (.int y1506), some (.int y1507), some (.int y1508), some (.int y1509), some (.int y1510), some (.int y1511), o7] [] (HX w T) 0 0 (some (.int r), HX w' T)) := by
  intro n
  induction n with
  | zero =>
    exact (fun _ _ _ _ _ _ _ _ _ h => by cases h)
  | succ n ih0 =>
    intro y1506 y1507 y1508 y1509 y1510 y1511 w r w' h T o7
    simp only [Gf_bestHour_0] at h
    refine ev_go 2 (pc' := 49) (L' := [some (.ref 0), some (.int y1506), some (.int y1507), some (.int y1508), some (.int y1509), some (.int y1510), some (.int y1511), o7]) (st' := [.int 6, .int y1511]) (h' := (HX w T)) (cs' := 0) (sl' := 0) rfl ?_
    rcases ai_ifE h with ⟨hc, h⟩ | ⟨hc, h⟩
    · refine ev_ic_ge (t := 98) rfl rfl (fun _ => ?_) (fun c9 => absurd hc c9)
      refine ev_go 1 (pc' := 100) (L' := [some (.ref 0), some (.int y1506), some (.int y1507), some (.int y1508), some (.int y1509), some (.int y1510), some (.int y1511), o7]) (st' := [.int y1509]) (h' := (HX w T)) (cs' := 0) (sl' := 0) rfl ?_
      obtain ⟨rfl, rfl⟩ := ai_smP h
      exact ev_end rfl
    · refine ev_ic_ge (t := 98) rfl rfl (fun c9 => absurd c9 hc) (fun _ => ?_)
      refine ev_go 9 (pc' := 66) (L' := [some (.ref 0), some (.int y1506), some (.int y1507), some (.int y1508), some (.int y1509), some (.int y1510), some (.int y1511), o7]) (st' := [.int ((a_s1_hour w) + y1511), .int y1508, .int y1507, .int y1506, .ref 0]) (h' := (HX w T)) (cs' := 0) (sl' := 0) rfl ?_
      obtain ⟨c1512, hq, h⟩ := ai_bdE h
      refine ev_call (M' := mf_leastBallast) (L' := [some (.ref 0), some (.int y1506), some (.int y1507), some (.int y1508), some (.int ((a_s1_hour w) + y1511)), none]) (rest := []) (rv := some (.int c1512.1)) (h' := (HX c1512.2 T)) rfl (Ef_leastBallast_0 n y1506 y1507 y1508 ((a_s1_hour w) + y1511) w _ _ hq T) ?_
      show ai_ev D1 mf_bestHour 69 [some (.ref 0), some (.int y1506), some (.int y1507), some (.int y1508), some (.int y1509), some (.int y1510), some (.int y1511), o7] [.int c1512.1] (HX c1512.2 T) 0 0 _
      refine ev_go 3 (pc' := 74) (L' := [some (.ref 0), some (.int y1506), some (.int y1507), some (.int y1508), some (.int y1509), some (.int y1510), some (.int y1511), some (.int c1512.1)]) (st' := [.int (-1), .int c1512.1]) (h' := (HX c1512.2 T)) (cs' := 0) (sl' := 0) rfl ?_
      rcases ai_ifE h with ⟨hc, h⟩ | ⟨hc, h⟩
      · refine ev_ic_eq (t := 92) rfl rfl (fun _ => ?_) (fun c9 => absurd hc c9)
        refine ev_go 2 (pc' := 45) (L' := [some (.ref 0), some (.int y1506), some (.int y1507), some (.int y1508), some (.int y1509), some (.int y1510), some (.int (y1511 + 1)), some (.int c1512.1)]) (st' := []) (h' := (HX c1512.2 T)) (cs' := 0) (sl' := 0) rfl ?_
        exact ih0 _ _ _ _ _ _ _ _ _ h T _
      · refine ev_ic_eq (t := 92) rfl rfl (fun c9 => absurd c9 hc) (fun _ => ?_)
        refine ev_go 2 (pc' := 81) (L' := [some (.ref 0), some (.int y1506), some (.int y1507), some (.int y1508), some (.int y1509), some (.int y1510), some (.int y1511), some (.int c1512.1)]) (st' := [.int y1510, .int c1512.1]) (h' := (HX c1512.2 T)) (cs' := 0) (sl' := 0) rfl ?_
        rcases ai_ifE h with ⟨hc, h⟩ | ⟨hc, h⟩
        · refine ev_ic_ge (t := 92) rfl rfl (fun _ => ?_) (fun c9 => absurd hc c9)
          refine ev_go 2 (pc' := 45) (L' := [some (.ref 0), some (.int y1506), some (.int y1507), some (.int y1508), some (.int y1509), some (.int y1510), some (.int (y1511 + 1)), some (.int c1512.1)]) (st' := []) (h' := (HX c1512.2 T)) (cs' := 0) (sl' := 0) rfl ?_
          exact ih0 _ _ _ _ _ _ _ _ _ h T _
        · refine ev_ic_ge (t := 92) rfl rfl (fun c9 => absurd c9 hc) (fun _ => ?_)
          refine ev_go 6 (pc' := 45) (L' := [some (.ref 0), some (.int y1506), some (.int y1507), some (.int y1508), some (.int y1511), some (.int c1512.1), some (.int (y1511 + 1)), some (.int c1512.1)]) (st' := []) (h' := (HX c1512.2 T)) (cs' := 0) (sl' := 0) rfl ?_
          exact ih0 _ _ _ _ _ _ _ _ _ h T _
set_option maxHeartbeats 40000000 in
set_option maxRecDepth 100000 in
theorem Ef_bestHour_0 (n : Nat) (x1497 : Int32) (x1498 : Int32) (x1499 : Int32) (w : WX) (r : Int32) (w' : WX) (h : Ff_bestHour_0 n x1497 x1498 x1499 w = some (r, w')) (T : ai_H) : ai_ev D1 mf_bestHour 0 [some (.ref 0), some (.int x1497), some (.int x1498), some (.int x1499), none, none, none, none] [] (HX w T) 0 0 (some (.int r), HX w' T) := by
  unfold Ff_bestHour_0 at h
  have ih0 := EGf_bestHour_0 n
  refine ev_go 2 (pc' := 2) (L' := [some (.ref 0), some (.int x1497), some (.int x1498), some (.int x1499), none, none, none, none]) (st' := [.int x1497, .ref 0]) (h' := (HX w T)) (cs' := 0) (sl' := 0) rfl ?_
  obtain ⟨c1500, hq, h⟩ := ai_bdE h
  refine ev_call (M' := mf_takesBallast) (L' := [some (.ref 0), some (.int x1497)]) (rest := []) (rv := some (.int c1500.1)) (h' := (HX c1500.2 T)) rfl (Ef_takesBallast_0 x1497 w _ _ hq T) ?_
  show ai_ev D1 mf_bestHour 5 [some (.ref 0), some (.int x1497), some (.int x1498), some (.int x1499), none, none, none, none] [.int c1500.1] (HX c1500.2 T) 0 0 _
  rcases ai_ifE h with ⟨hc, h⟩ | ⟨hc, h⟩
  · refine ev_if_eq (t := 28) rfl rfl (fun _ => ?_) (fun c9 => absurd hc c9)
    refine ev_go 2 (pc' := 31) (L' := [some (.ref 0), some (.int x1497), some (.int x1498), some (.int x1499), none, none, none, none]) (st' := [.int (-10), .ref 0]) (h' := (HX c1500.2 T)) (cs' := 0) (sl' := 0) rfl ?_
    obtain ⟨c1501, hq, h⟩ := ai_bdE h
    refine ev_call (M' := mf_bad) (L' := [some (.ref 0), some (.int (-10))]) (rest := []) (rv := some (.int c1501.1)) (h' := (HX c1501.2 T)) rfl (Ef_bad_0 (-10) c1500.2 _ _ hq T) ?_
    show ai_ev D1 mf_bestHour 34 [some (.ref 0), some (.int x1497), some (.int x1498), some (.int x1499), none, none, none, none] [.int c1501.1] (HX c1501.2 T) 0 0 _
    obtain ⟨rfl, rfl⟩ := ai_smP h
    exact ev_end rfl
  · refine ev_if_eq (t := 28) rfl rfl (fun c9 => absurd c9 hc) (fun _ => ?_)
    refine ev_go 3 (pc' := 13) (L' := [some (.ref 0), some (.int x1497), some (.int x1498), some (.int x1499), none, none, none, none]) (st' := [.int x1498, .ref 1]) (h' := (HX c1500.2 T)) (cs' := 0) (sl' := 0) rfl ?_
    obtain ⟨c1502, hq, h⟩ := ai_bdE h
    refine ev_call (M' := msea_hasCell) (L' := [some (.ref 1), some (.int x1498)]) (rest := []) (rv := some (.int c1502.1)) (h' := (HX c1502.2 T)) rfl (Esea_hasCell_1 x1498 c1500.2 _ _ hq T) ?_
    show ai_ev D1 mf_bestHour 16 [some (.ref 0), some (.int x1497), some (.int x1498), some (.int x1499), none, none, none, none] [.int c1502.1] (HX c1502.2 T) 0 0 _
    rcases ai_ifE h with ⟨hc, h⟩ | ⟨hc, h⟩
    · refine ev_if_eq (t := 28) rfl rfl (fun _ => ?_) (fun c9 => absurd hc c9)
      refine ev_go 2 (pc' := 31) (L' := [some (.ref 0), some (.int x1497), some (.int x1498), some (.int x1499), none, none, none, none]) (st' := [.int (-10), .ref 0]) (h' := (HX c1502.2 T)) (cs' := 0) (sl' := 0) rfl ?_
      obtain ⟨c1503, hq, h⟩ := ai_bdE h
      refine ev_call (M' := mf_bad) (L' := [some (.ref 0), some (.int (-10))]) (rest := []) (rv := some (.int c1503.1)) (h' := (HX c1503.2 T)) rfl (Ef_bad_0 (-10) c1502.2 _ _ hq T) ?_
      show ai_ev D1 mf_bestHour 34 [some (.ref 0), some (.int x1497), some (.int x1498), some (.int x1499), none, none, none, none] [.int c1503.1] (HX c1503.2 T) 0 0 _
      obtain ⟨rfl, rfl⟩ := ai_smP h
      exact ev_end rfl
    · refine ev_if_eq (t := 28) rfl rfl (fun c9 => absurd c9 hc) (fun _ => ?_)
      refine ev_go 3 (pc' := 22) (L' := [some (.ref 0), some (.int x1497), some (.int x1498), some (.int x1499), none, none, none, none]) (st' := [.int 4, .int 0, .int x1499]) (h' := (HX c1502.2 T)) (cs' := 0) (sl' := 0) rfl ?_
      obtain ⟨c1504, hq, h⟩ := ai_bdE h
      refine ev_call (M' := mf_within) (L' := [some (.int x1499), some (.int 0), some (.int 4)]) (rest := []) (rv := some (.int c1504)) (h' := (HX c1502.2 T)) rfl (Ef_within x1499 0 4 _ hq (HX c1502.2 T)) ?_
      show ai_ev D1 mf_bestHour 25 [some (.ref 0), some (.int x1497), some (.int x1498), some (.int x1499), none, none, none, none] [.int c1504] (HX c1502.2 T) 0 0 _
      rcases ai_ifE h with ⟨hc, h⟩ | ⟨hc, h⟩
      · refine ev_if_ne (t := 35) rfl rfl (fun c9 => absurd hc c9) (fun _ => ?_)
        refine ev_go 2 (pc' := 31) (L' := [some (.ref 0), some (.int x1497), some (.int x1498), some (.int x1499), none, none, none, none]) (st' := [.int (-10), .ref 0]) (h' := (HX c1502.2 T)) (cs' := 0) (sl' := 0) rfl ?_
        obtain ⟨c1505, hq, h⟩ := ai_bdE h
        refine ev_call (M' := mf_bad) (L' := [some (.ref 0), some (.int (-10))]) (rest := []) (rv := some (.int c1505.1)) (h' := (HX c1505.2 T)) rfl (Ef_bad_0 (-10) c1502.2 _ _ hq T) ?_
        show ai_ev D1 mf_bestHour 34 [some (.ref 0), some (.int x1497), some (.int x1498), some (.int x1499), none, none, none, none] [.int c1505.1] (HX c1505.2 T) 0 0 _
        obtain ⟨rfl, rfl⟩ := ai_smP h
        exact ev_end rfl
      · refine ev_if_ne (t := 35) rfl rfl (fun _ => ?_) (fun c9 => absurd c9 hc)
        refine ev_go 6 (pc' := 45) (L' := [some (.ref 0), some (.int x1497), some (.int x1498), some (.int x1499), some (.int (-1)), some (.int 100), some (.int 0), none]) (st' := []) (h' := (HX c1502.2 T)) (cs' := 0) (sl' := 0) rfl ?_
        exact ih0 _ _ _ _ _ _ _ _ _ h T _
