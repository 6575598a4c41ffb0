set_option maxHeartbeats 40000000 in
set_option maxRecDepth 100000 in
theorem Ef_letGoNow_0 (n : Nat) (x1417 : Int32) (x1418 : Int32) (x1419 : Int32) (w : WX) (w' : WX) (h : Ff_letGoNow_0 n x1417 x1418 x1419 w = some w') (T : ai_H) : ai_ev D1 mf_letGoNow 0 [some (.ref 0), some (.int x1417), some (.int x1418), some (.int x1419)] [] (HX w T) 0 0 (none, HX w' T) := by
  unfold Ff_letGoNow_0 at h
  refine ev_go 2 (pc' := 2) (L' := [some (.ref 0), some (.int x1417), some (.int x1418), some (.int x1419)]) (st' := [.int x1417, .ref 0]) (h' := (HX w T)) (cs' := 0) (sl' := 0) rfl ?_
  obtain ⟨c1420, hq, h⟩ := ai_bdE h
  refine ev_call (M' := mf_shapeNow) (L' := [some (.ref 0), some (.int x1417)]) (rest := []) (rv := none) (h' := (HX c1420 T)) rfl (Ef_shapeNow_0 x1417 w _ hq T) ?_
  show ai_ev D1 mf_letGoNow 5 [some (.ref 0), some (.int x1417), some (.int x1418), some (.int x1419)] [] (HX c1420 T) 0 0 _
  refine ev_go 9 (pc' := 22) (L' := [some (.ref 0), some (.int x1417), some (.int x1418), some (.int x1419)]) (st' := [.int x1419, .int (a_s1_hour c1420), .int x1418, .ref 1, .ref 81]) (h' := (HX c1420 T)) (cs' := 0) (sl' := 0) rfl ?_
  obtain ⟨c1445, hq, h⟩ := ai_bdE h
  refine ev_call (M' := mfall_letGo) (L' := [some (.ref 81), some (.ref 1), some (.int x1418), some (.int (a_s1_hour c1420)), some (.int x1419), none, none, none]) (rest := []) (rv := none) (h' := (HX c1445 T)) rfl (Efall_letGo_81_1 n x1418 (a_s1_hour c1420) x1419 c1420 _ hq T) ?_
  show ai_ev D1 mf_letGoNow 25 [some (.ref 0), some (.int x1417), some (.int x1418), some (.int x1419)] [] (HX c1445 T) 0 0 _
  obtain rfl := Option.some.inj h
  exact ev_end rfl
set_option maxHeartbeats 40000000 in
set_option maxRecDepth 100000 in
theorem Ef_rests_0 (n : Nat) (x1409 : Int32) (x1410 : Int32) (x1411 : Int32) (w : WX) (r : Int32) (w' : WX) (h : Ff_rests_0 n x1409 x1410 x1411 w = some (r, w')) (T : ai_H) : ai_ev D1 mf_rests 0 [some (.ref 0), some (.int x1409), some (.int x1410), some (.int x1411)] [] (HX w T) 0 0 (some (.int r), HX w' T) := by
  unfold Ff_rests_0 at h
  refine ev_go 4 (pc' := 8) (L' := [some (.ref 0), some (.int x1409), some (.int x1410), some (.int x1411)]) (st' := [.int x1409, .ref 7]) (h' := (HX w T)) (cs' := 0) (sl' := 0) rfl ?_
  obtain ⟨c1412, hq, h⟩ := ai_bdE h
  refine ev_call (M' := mthg_has) (L' := [some (.ref 7), some (.int x1409)]) (rest := []) (rv := some (.int c1412.1)) (h' := (HX c1412.2 T)) rfl (Ethg_has_7 x1409 w _ _ hq T) ?_
  show ai_ev D1 mf_rests 11 [some (.ref 0), some (.int x1409), some (.int x1410), some (.int x1411)] [.int c1412.1] (HX c1412.2 T) 0 0 _
  rcases ai_ifE h with ⟨hc, h⟩ | ⟨hc, h⟩
  · refine ev_if_eq (t := 34) rfl rfl (fun _ => ?_) (fun c9 => absurd hc c9)
    refine ev_go 2 (pc' := 37) (L' := [some (.ref 0), some (.int x1409), some (.int x1410), some (.int x1411)]) (st' := [.int (-2), .ref 0]) (h' := (HX c1412.2 T)) (cs' := 0) (sl' := 0) rfl ?_
    obtain ⟨c1413, hq, h⟩ := ai_bdE h
    refine ev_call (M' := mf_bad) (L' := [some (.ref 0), some (.int (-2))]) (rest := []) (rv := some (.int c1413.1)) (h' := (HX c1413.2 T)) rfl (Ef_bad_0 (-2) c1412.2 _ _ hq T) ?_
    show ai_ev D1 mf_rests 40 [some (.ref 0), some (.int x1409), some (.int x1410), some (.int x1411)] [.int c1413.1] (HX c1413.2 T) 0 0 _
    obtain ⟨rfl, rfl⟩ := ai_smP h
    exact ev_end rfl
  · refine ev_if_eq (t := 34) rfl rfl (fun c9 => absurd c9 hc) (fun _ => ?_)
    refine ev_go 3 (pc' := 19) (L' := [some (.ref 0), some (.int x1409), some (.int x1410), some (.int x1411)]) (st' := [.int x1410, .ref 1]) (h' := (HX c1412.2 T)) (cs' := 0) (sl' := 0) rfl ?_
    obtain ⟨c1414, hq, h⟩ := ai_bdE h
    refine ev_call (M' := msea_hasCell) (L' := [some (.ref 1), some (.int x1410)]) (rest := []) (rv := some (.int c1414.1)) (h' := (HX c1414.2 T)) rfl (Esea_hasCell_1 x1410 c1412.2 _ _ hq T) ?_
    show ai_ev D1 mf_rests 22 [some (.ref 0), some (.int x1409), some (.int x1410), some (.int x1411)] [.int c1414.1] (HX c1414.2 T) 0 0 _
    rcases ai_ifE h with ⟨hc, h⟩ | ⟨hc, h⟩
    · refine ev_if_eq (t := 34) rfl rfl (fun _ => ?_) (fun c9 => absurd hc c9)
      refine ev_go 2 (pc' := 37) (L' := [some (.ref 0), some (.int x1409), some (.int x1410), some (.int x1411)]) (st' := [.int (-2), .ref 0]) (h' := (HX c1414.2 T)) (cs' := 0) (sl' := 0) rfl ?_
      obtain ⟨c1415, hq, h⟩ := ai_bdE h
      refine ev_call (M' := mf_bad) (L' := [some (.ref 0), some (.int (-2))]) (rest := []) (rv := some (.int c1415.1)) (h' := (HX c1415.2 T)) rfl (Ef_bad_0 (-2) c1414.2 _ _ hq T) ?_
      show ai_ev D1 mf_rests 40 [some (.ref 0), some (.int x1409), some (.int x1410), some (.int x1411)] [.int c1415.1] (HX c1415.2 T) 0 0 _
      obtain ⟨rfl, rfl⟩ := ai_smP h
      exact ev_end rfl
    · refine ev_if_eq (t := 34) rfl rfl (fun c9 => absurd c9 hc) (fun _ => ?_)
      refine ev_go 3 (pc' := 28) (L' := [some (.ref 0), some (.int x1409), some (.int x1410), some (.int x1411)]) (st' := [.int 2, .int 0, .int x1411]) (h' := (HX c1414.2 T)) (cs' := 0) (sl' := 0) rfl ?_
      obtain ⟨c1416, hq, h⟩ := ai_bdE h
      refine ev_call (M' := mf_within) (L' := [some (.int x1411), some (.int 0), some (.int 2)]) (rest := []) (rv := some (.int c1416)) (h' := (HX c1414.2 T)) rfl (Ef_within x1411 0 2 _ hq (HX c1414.2 T)) ?_
      show ai_ev D1 mf_rests 31 [some (.ref 0), some (.int x1409), some (.int x1410), some (.int x1411)] [.int c1416] (HX c1414.2 T) 0 0 _
      rcases ai_ifE h with ⟨hc, h⟩ | ⟨hc, h⟩
      · refine ev_if_ne (t := 41) rfl rfl (fun c9 => absurd hc c9) (fun _ => ?_)
        refine ev_go 2 (pc' := 37) (L' := [some (.ref 0), some (.int x1409), some (.int x1410), some (.int x1411)]) (st' := [.int (-2), .ref 0]) (h' := (HX c1414.2 T)) (cs' := 0) (sl' := 0) rfl ?_
        obtain ⟨c1447, hq, h⟩ := ai_bdE h
        refine ev_call (M' := mf_bad) (L' := [some (.ref 0), some (.int (-2))]) (rest := []) (rv := some (.int c1447.1)) (h' := (HX c1447.2 T)) rfl (Ef_bad_0 (-2) c1414.2 _ _ hq T) ?_
        show ai_ev D1 mf_rests 40 [some (.ref 0), some (.int x1409), some (.int x1410), some (.int x1411)] [.int c1447.1] (HX c1447.2 T) 0 0 _
        obtain ⟨rfl, rfl⟩ := ai_smP h
        exact ev_end rfl
      · refine ev_if_ne (t := 41) rfl rfl (fun _ => ?_) (fun c9 => absurd c9 hc)
        refine ev_go 4 (pc' := 45) (L' := [some (.ref 0), some (.int x1409), some (.int x1410), some (.int x1411)]) (st' := [.int 0, .int x1410, .int x1409, .ref 0]) (h' := (HX c1414.2 T)) (cs' := 0) (sl' := 0) rfl ?_
        obtain ⟨c1446, hq, h⟩ := ai_bdE h
        refine ev_call (M' := mf_letGoNow) (L' := [some (.ref 0), some (.int x1409), some (.int x1410), some (.int 0)]) (rest := []) (rv := none) (h' := (HX c1446 T)) rfl (Ef_letGoNow_0 n x1409 x1410 0 c1414.2 _ hq T) ?_
        show ai_ev D1 mf_rests 48 [some (.ref 0), some (.int x1409), some (.int x1410), some (.int x1411)] [] (HX c1446 T) 0 0 _
        refine ev_go 1 (pc' := 49) (L' := [some (.ref 0), some (.int x1409), some (.int x1410), some (.int x1411)]) (st' := [.int x1411]) (h' := (HX c1446 T)) (cs' := 0) (sl' := 0) rfl ?_
        rcases ai_ifE h with ⟨hc, h⟩ | ⟨hc, h⟩
        · refine ev_if_ne (t := 60) rfl rfl (fun c9 => absurd hc c9) (fun _ => ?_)
          refine ev_go 3 (pc' := 59) (L' := [some (.ref 0), some (.int x1409), some (.int x1410), some (.int x1411)]) (st' := [.int (a_fall_layer c1446)]) (h' := (HX c1446 T)) (cs' := 0) (sl' := 0) rfl ?_
          obtain ⟨rfl, rfl⟩ := ai_smP h
          exact ev_end rfl
        · refine ev_if_ne (t := 60) rfl rfl (fun _ => ?_) (fun c9 => absurd c9 hc)
          refine ev_go 2 (pc' := 62) (L' := [some (.ref 0), some (.int x1409), some (.int x1410), some (.int x1411)]) (st' := [.int 1, .int x1411]) (h' := (HX c1446 T)) (cs' := 0) (sl' := 0) rfl ?_
          rcases ai_ifE h with ⟨hc, h⟩ | ⟨hc, h⟩
          · refine ev_ic_ne (t := 75) rfl rfl (fun c9 => absurd hc c9) (fun _ => ?_)
            refine ev_go 4 (pc' := 82) (L' := [some (.ref 0), some (.int x1409), some (.int x1410), some (.int x1411)]) (st' := [.int (a_fall_down c1446)]) (h' := (HX c1446 T)) (cs' := 0) (sl' := 0) rfl ?_
            obtain ⟨rfl, rfl⟩ := ai_smP h
            exact ev_end rfl
          · refine ev_ic_ne (t := 75) rfl rfl (fun _ => ?_) (fun c9 => absurd c9 hc)
            refine ev_go 3 (pc' := 82) (L' := [some (.ref 0), some (.int x1409), some (.int x1410), some (.int x1411)]) (st' := [.int (a_fall_broken c1446)]) (h' := (HX c1446 T)) (cs' := 0) (sl' := 0) rfl ?_
            obtain ⟨rfl, rfl⟩ := ai_smP h
            exact ev_end rfl
set_option maxHeartbeats 40000000 in
set_option maxRecDepth 100000 in
theorem Ef_takesBallast_0 (x1451 : Int32) (w : WX) (r : Int32) (w' : WX) (h : Ff_takesBallast_0 x1451 w = some (r, w')) (T : ai_H) : ai_ev D1 mf_takesBallast 0 [some (.ref 0), some (.int x1451)] [] (HX w T) 0 0 (some (.int r), HX w' T) := by
  unfold Ff_takesBallast_0 at h
  refine ev_go 4 (pc' := 8) (L' := [some (.ref 0), some (.int x1451)]) (st' := [.int x1451, .ref 7]) (h' := (HX w T)) (cs' := 0) (sl' := 0) rfl ?_
  obtain ⟨c1452, hq, h⟩ := ai_bdE h
  refine ev_call (M' := mthg_has) (L' := [some (.ref 7), some (.int x1451)]) (rest := []) (rv := some (.int c1452.1)) (h' := (HX c1452.2 T)) rfl (Ethg_has_7 x1451 w _ _ hq T) ?_
  show ai_ev D1 mf_takesBallast 11 [some (.ref 0), some (.int x1451)] [.int c1452.1] (HX c1452.2 T) 0 0 _
  rcases ai_ifE h with ⟨hc, h⟩ | ⟨hc, h⟩
  · refine ev_if_eq (t := 38) rfl rfl (fun _ => ?_) (fun c9 => absurd hc c9)
    refine ev_go 1 (pc' := 39) (L' := [some (.ref 0), some (.int x1451)]) (st' := [.int 0]) (h' := (HX c1452.2 T)) (cs' := 0) (sl' := 0) rfl ?_
    obtain ⟨rfl, rfl⟩ := ai_smP h
    exact ev_end rfl
  · refine ev_if_eq (t := 38) rfl rfl (fun c9 => absurd c9 hc) (fun _ => ?_)
    refine ev_go 5 (pc' := 25) (L' := [some (.ref 0), some (.int x1451)]) (st' := [.int x1451, .ref 8]) (h' := (HX c1452.2 T)) (cs' := 0) (sl' := 0) rfl ?_
    obtain ⟨v1453, hq, h⟩ := ai_bdE h
    refine ev_iald rfl rfl hq ?_
    refine ev_go 2 (pc' := 28) (L' := [some (.ref 0), some (.int x1451)]) (st' := [.int 3, .int 1, .int v1453]) (h' := (HX c1452.2 T)) (cs' := 0) (sl' := 0) rfl ?_
    obtain ⟨c1454, hq, h⟩ := ai_bdE h
    refine ev_call (M' := mf_within) (L' := [some (.int v1453), some (.int 1), some (.int 3)]) (rest := []) (rv := some (.int c1454)) (h' := (HX c1452.2 T)) rfl (Ef_within v1453 1 3 _ hq (HX c1452.2 T)) ?_
    show ai_ev D1 mf_takesBallast 31 [some (.ref 0), some (.int x1451)] [.int c1454] (HX c1452.2 T) 0 0 _
    rcases ai_ifE h with ⟨hc, h⟩ | ⟨hc, h⟩
    · refine ev_if_eq (t := 38) rfl rfl (fun _ => ?_) (fun c9 => absurd hc c9)
      refine ev_go 1 (pc' := 39) (L' := [some (.ref 0), some (.int x1451)]) (st' := [.int 0]) (h' := (HX c1452.2 T)) (cs' := 0) (sl' := 0) rfl ?_
      obtain ⟨rfl, rfl⟩ := ai_smP h
      exact ev_end rfl
    · refine ev_if_eq (t := 38) rfl rfl (fun c9 => absurd c9 hc) (fun _ => ?_)
      refine ev_go 2 (pc' := 39) (L' := [some (.ref 0), some (.int x1451)]) (st' := [.int 1]) (h' := (HX c1452.2 T)) (cs' := 0) (sl' := 0) rfl ?_
      obtain ⟨rfl, rfl⟩ := ai_smP h
      exact ev_end rfl
set_option maxHeartbeats 40000000 in
set_option maxRecDepth 100000 in
theorem Ef_letGoWithBallast_0 (n : Nat) (x1469 : Int32) (x1470 : Int32) (x1471 : Int32) (x1472 : Int32) (w : WX) (w' : WX) (h : Ff_letGoWithBallast_0 n x1469 x1470 x1471 x1472 w = some w') (T : ai_H) : ai_ev D1 mf_letGoWithBallast 0 [some (.ref 0), some (.int x1469), some (.int x1470), some (.int x1471), some (.int x1472)] [] (HX w T) 0 0 (none, HX w' T) := by
  unfold Ff_letGoWithBallast_0 at h
  refine ev_go 4 (pc' := 5) (L' := [some (.ref 0), some (.int x1469), some (.int x1470), some (.int x1471), some (.int x1472)]) (st' := [.int x1472, .int x1471, .int x1469, .ref 0]) (h' := (HX w T)) (cs' := 0) (sl' := 0) rfl ?_
  obtain ⟨c1473, hq, h⟩ := ai_bdE h
  refine ev_call (M' := mf_shapeWithBallast) (L' := [some (.ref 0), some (.int x1469), some (.int x1471), some (.int x1472), none]) (rest := []) (rv := none) (h' := (HX c1473 T)) rfl (Ef_shapeWithBallast_0 x1469 x1471 x1472 w _ hq T) ?_
  show ai_ev D1 mf_letGoWithBallast 8 [some (.ref 0), some (.int x1469), some (.int x1470), some (.int x1471), some (.int x1472)] [] (HX c1473 T) 0 0 _
  refine ev_go 7 (pc' := 20) (L' := [some (.ref 0), some (.int x1469), some (.int x1470), some (.int x1471), some (.int x1472)]) (st' := [.int 0, .int x1472, .int x1470, .ref 1, .ref 81]) (h' := (HX c1473 T)) (cs' := 0) (sl' := 0) rfl ?_
  obtain ⟨c1474, hq, h⟩ := ai_bdE h
  refine ev_call (M' := mfall_letGo) (L' := [some (.ref 81), some (.ref 1), some (.int x1470), some (.int x1472), some (.int 0), none, none, none]) (rest := []) (rv := none) (h' := (HX c1474 T)) rfl (Efall_letGo_81_1 n x1470 x1472 0 c1473 _ hq T) ?_
  show ai_ev D1 mf_letGoWithBallast 23 [some (.ref 0), some (.int x1469), some (.int x1470), some (.int x1471), some (.int x1472)] [] (HX c1474 T) 0 0 _
  obtain rfl := Option.some.inj h
  exact ev_end rfl
set_option maxHeartbeats 40000000 in
set_option maxRecDepth 100000 in
theorem EGf_leastBallast_0 : ∀ n : Nat, (∀ (y1464 : Int32) (y1465 : Int32) (y1466 : Int32) (y1467 : Int32) (y1468 : Int32) (w : WX) (r : Int32) (w' : WX), Gf_leastBallast_0 n 0 y1464 y1465 y1466 y1467 y1468 w = some (r, w') → ∀ (T : ai_H), ai_ev D1 mf_leastBallast 3 [some (.ref 0), some (.int y1464), some (.int y1465), some (.int y1466), some (.int y1467), some (.int y1468)] [] (HX w T) 0 0 (some (.int r), HX w' T)) := by
  intro n
  induction n with
  | zero =>
    exact (fun _ _ _ _ _ _ _ _ h => by cases h)
  | succ n ih0 =>
    intro y1464 y1465 y1466 y1467 y1468 w r w' h T
    simp only [Gf_leastBallast_0] at h
    refine ev_go 2 (pc' := 7) (L' := [some (.ref 0), some (.int y1464), some (.int y1465), some (.int y1466), some (.int y1467), some (.int y1468)]) (st' := [.int 99, .int y1468]) (h' := (HX w T)) (cs' := 0) (sl' := 0) rfl ?_
    rcases ai_ifE h with ⟨hc, h⟩ | ⟨hc, h⟩
    · refine ev_ic_gt (t := 40) rfl rfl (fun _ => ?_) (fun c9 => absurd hc c9)
      refine ev_go 1 (pc' := 41) (L' := [some (.ref 0), some (.int y1464), some (.int y1465), some (.int y1466), some (.int y1467), some (.int y1468)]) (st' := [.int (-1)]) (h' := (HX w T)) (cs' := 0) (sl' := 0) rfl ?_
      obtain ⟨rfl, rfl⟩ := ai_smP h
      exact ev_end rfl
    · refine ev_ic_gt (t := 40) rfl rfl (fun c9 => absurd c9 hc) (fun _ => ?_)
      refine ev_go 5 (pc' := 17) (L' := [some (.ref 0), some (.int y1464), some (.int y1465), some (.int y1466), some (.int y1467), some (.int y1468)]) (st' := [.int y1467, .int y1468, .int y1465, .int y1464, .ref 0]) (h' := (HX w T)) (cs' := 0) (sl' := 0) rfl ?_
      obtain ⟨c1475, hq, h⟩ := ai_bdE h
      refine ev_call (M' := mf_letGoWithBallast) (L' := [some (.ref 0), some (.int y1464), some (.int y1465), some (.int y1468), some (.int y1467)]) (rest := []) (rv := none) (h' := (HX c1475 T)) rfl (Ef_letGoWithBallast_0 n y1464 y1465 y1468 y1467 w _ hq T) ?_
      show ai_ev D1 mf_leastBallast 20 [some (.ref 0), some (.int y1464), some (.int y1465), some (.int y1466), some (.int y1467), some (.int y1468)] [] (HX c1475 T) 0 0 _
      refine ev_go 4 (pc' := 28) (L' := [some (.ref 0), some (.int y1464), some (.int y1465), some (.int y1466), some (.int y1467), some (.int y1468)]) (st' := [.int y1466, .int (a_fall_layer c1475)]) (h' := (HX c1475 T)) (cs' := 0) (sl' := 0) rfl ?_
      rcases ai_ifE h with ⟨hc, h⟩ | ⟨hc, h⟩
      · refine ev_ic_ne (t := 34) rfl rfl (fun c9 => absurd hc c9) (fun _ => ?_)
        refine ev_go 1 (pc' := 33) (L' := [some (.ref 0), some (.int y1464), some (.int y1465), some (.int y1466), some (.int y1467), some (.int y1468)]) (st' := [.int y1468]) (h' := (HX c1475 T)) (cs' := 0) (sl' := 0) rfl ?_
        obtain ⟨rfl, rfl⟩ := ai_smP h
        exact ev_end rfl
      · refine ev_ic_ne (t := 34) rfl rfl (fun _ => ?_) (fun c9 => absurd c9 hc)
        refine ev_go 2 (pc' := 3) (L' := [some (.ref 0), some (.int y1464), some (.int y1465), some (.int y1466), some (.int y1467), some (.int (y1468 + 1))]) (st' := []) (h' := (HX c1475 T)) (cs' := 0) (sl' := 0) rfl ?_
        exact ih0 _ _ _ _ _ _ _ _ h T
set_option maxHeartbeats 40000000 in
set_option maxRecDepth 100000 in
theorem Ef_leastBallast_0 (n : Nat) (x1460 : Int32) (x1461 : Int32) (x1462 : Int32) (x1463 : Int32) (w : WX) (r : Int32) (w' : WX) (h : Ff_leastBallast_0 n x1460 x1461 x1462 x1463 w = some (r, w')) (T : ai_H) : ai_ev D1 mf_leastBallast 0 [some (.ref 0), some (.int x1460), some (.int x1461), some (.int x1462), some (.int x1463), none] [] (HX w T) 0 0 (some (.int r), HX w' T) := by
  unfold Ff_leastBallast_0 at h
  have ih0 := EGf_leastBallast_0 n
  refine ev_go 2 (pc' := 3) (L' := [some (.ref 0), some (.int x1460), some (.int x1461), some (.int x1462), some (.int x1463), some (.int 0)]) (st' := []) (h' := (HX w T)) (cs' := 0) (sl' := 0) rfl ?_
  exact ih0 _ _ _ _ _ _ _ _ h T
set_option maxHeartbeats 40000000 in
set_option maxRecDepth 100000 in
theorem Ef_sink_0 (n : Nat) (x1448 : Int32) (x1449 : Int32) (x1450 : Int32) (w : WX) (r : Int32) (w' : WX) (h : Ff_sink_0 n x1448 x1449 x1450 w = some (r, w')) (T : ai_H) : ai_ev D1 mf_sink 0 [some (.ref 0), some (.int x1448), some (.int x1449), some (.int x1450)] [] (HX w T) 0 0 (some (.int r), HX w' T) := by
  unfold Ff_sink_0 at h
  refine ev_go 2 (pc' := 2) (L' := [some (.ref 0), some (.int x1448), some (.int x1449), some (.int x1450)]) (st' := [.int x1448, .ref 0]) (h' := (HX w T)) (cs' := 0) (sl' := 0) rfl ?_
  obtain ⟨c1455, hq, h⟩ := ai_bdE h
  refine ev_call (M' := mf_takesBallast) (L' := [some (.ref 0), some (.int x1448)]) (rest := []) (rv := some (.int c1455.1)) (h' := (HX c1455.2 T)) rfl (Ef_takesBallast_0 x1448 w _ _ hq T) ?_
  show ai_ev D1 mf_sink 5 [some (.ref 0), some (.int x1448), some (.int x1449), some (.int x1450)] [.int c1455.1] (HX c1455.2 T) 0 0 _
  rcases ai_ifE h with ⟨hc, h⟩ | ⟨hc, h⟩
  · refine ev_if_eq (t := 28) rfl rfl (fun _ => ?_) (fun c9 => absurd hc c9)
    refine ev_go 2 (pc' := 31) (L' := [some (.ref 0), some (.int x1448), some (.int x1449), some (.int x1450)]) (st' := [.int (-10), .ref 0]) (h' := (HX c1455.2 T)) (cs' := 0) (sl' := 0) rfl ?_
    obtain ⟨c1456, hq, h⟩ := ai_bdE h
    refine ev_call (M' := mf_bad) (L' := [some (.ref 0), some (.int (-10))]) (rest := []) (rv := some (.int c1456.1)) (h' := (HX c1456.2 T)) rfl (Ef_bad_0 (-10) c1455.2 _ _ hq T) ?_
    show ai_ev D1 mf_sink 34 [some (.ref 0), some (.int x1448), some (.int x1449), some (.int x1450)] [.int c1456.1] (HX c1456.2 T) 0 0 _
    obtain ⟨rfl, rfl⟩ := ai_smP h
    exact ev_end rfl
  · refine ev_if_eq (t := 28) rfl rfl (fun c9 => absurd c9 hc) (fun _ => ?_)
    refine ev_go 3 (pc' := 13) (L' := [some (.ref 0), some (.int x1448), some (.int x1449), some (.int x1450)]) (st' := [.int x1449, .ref 1]) (h' := (HX c1455.2 T)) (cs' := 0) (sl' := 0) rfl ?_
    obtain ⟨c1457, hq, h⟩ := ai_bdE h
    refine ev_call (M' := msea_hasCell) (L' := [some (.ref 1), some (.int x1449)]) (rest := []) (rv := some (.int c1457.1)) (h' := (HX c1457.2 T)) rfl (Esea_hasCell_1 x1449 c1455.2 _ _ hq T) ?_
    show ai_ev D1 mf_sink 16 [some (.ref 0), some (.int x1448), some (.int x1449), some (.int x1450)] [.int c1457.1] (HX c1457.2 T) 0 0 _
    rcases ai_ifE h with ⟨hc, h⟩ | ⟨hc, h⟩
    · refine ev_if_eq (t := 28) rfl rfl (fun _ => ?_) (fun c9 => absurd hc c9)
      refine ev_go 2 (pc' := 31) (L' := [some (.ref 0), some (.int x1448), some (.int x1449), some (.int x1450)]) (st' := [.int (-10), .ref 0]) (h' := (HX c1457.2 T)) (cs' := 0) (sl' := 0) rfl ?_
      obtain ⟨c1458, hq, h⟩ := ai_bdE h
      refine ev_call (M' := mf_bad) (L' := [some (.ref 0), some (.int (-10))]) (rest := []) (rv := some (.int c1458.1)) (h' := (HX c1458.2 T)) rfl (Ef_bad_0 (-10) c1457.2 _ _ hq T) ?_
      show ai_ev D1 mf_sink 34 [some (.ref 0), some (.int x1448), some (.int x1449), some (.int x1450)] [.int c1458.1] (HX c1458.2 T) 0 0 _
      obtain ⟨rfl, rfl⟩ := ai_smP h
      exact ev_end rfl
    · refine ev_if_eq (t := 28) rfl rfl (fun c9 => absurd c9 hc) (fun _ => ?_)
      refine ev_go 3 (pc' := 22) (L' := [some (.ref 0), some (.int x1448), some (.int x1449), some (.int x1450)]) (st' := [.int 4, .int 0, .int x1450]) (h' := (HX c1457.2 T)) (cs' := 0) (sl' := 0) rfl ?_
      obtain ⟨c1459, hq, h⟩ := ai_bdE h
      refine ev_call (M' := mf_within) (L' := [some (.int x1450), some (.int 0), some (.int 4)]) (rest := []) (rv := some (.int c1459)) (h' := (HX c1457.2 T)) rfl (Ef_within x1450 0 4 _ hq (HX c1457.2 T)) ?_
      show ai_ev D1 mf_sink 25 [some (.ref 0), some (.int x1448), some (.int x1449), some (.int x1450)] [.int c1459] (HX c1457.2 T) 0 0 _
      rcases ai_ifE h with ⟨hc, h⟩ | ⟨hc, h⟩
      · refine ev_if_ne (t := 35) rfl rfl (fun c9 => absurd hc c9) (fun _ => ?_)
        refine ev_go 2 (pc' := 31) (L' := [some (.ref 0), some (.int x1448), some (.int x1449), some (.int x1450)]) (st' := [.int (-10), .ref 0]) (h' := (HX c1457.2 T)) (cs' := 0) (sl' := 0) rfl ?_
        obtain ⟨c1477, hq, h⟩ := ai_bdE h
        refine ev_call (M' := mf_bad) (L' := [some (.ref 0), some (.int (-10))]) (rest := []) (rv := some (.int c1477.1)) (h' := (HX c1477.2 T)) rfl (Ef_bad_0 (-10) c1457.2 _ _ hq T) ?_
        show ai_ev D1 mf_sink 34 [some (.ref 0), some (.int x1448), some (.int x1449), some (.int x1450)] [.int c1477.1] (HX c1477.2 T) 0 0 _
        obtain ⟨rfl, rfl⟩ := ai_smP h
        exact ev_end rfl
      · refine ev_if_ne (t := 35) rfl rfl (fun _ => ?_) (fun c9 => absurd c9 hc)
        refine ev_go 7 (pc' := 46) (L' := [some (.ref 0), some (.int x1448), some (.int x1449), some (.int x1450)]) (st' := [.int (a_s1_hour c1457.2), .int x1450, .int x1449, .int x1448, .ref 0]) (h' := (HX c1457.2 T)) (cs' := 0) (sl' := 0) rfl ?_
        obtain ⟨c1476, hq, h⟩ := ai_bdE h
        refine ev_call (M' := mf_leastBallast) (L' := [some (.ref 0), some (.int x1448), some (.int x1449), some (.int x1450), some (.int (a_s1_hour c1457.2)), none]) (rest := []) (rv := some (.int c1476.1)) (h' := (HX c1476.2 T)) rfl (Ef_leastBallast_0 n x1448 x1449 x1450 (a_s1_hour c1457.2) c1457.2 _ _ hq T) ?_
        show ai_ev D1 mf_sink 49 [some (.ref 0), some (.int x1448), some (.int x1449), some (.int x1450)] [.int c1476.1] (HX c1476.2 T) 0 0 _
        obtain ⟨rfl, rfl⟩ := ai_smP h
        exact ev_end rfl
set_option maxHeartbeats 40000000 in
set_option maxRecDepth 100000 in
theorem Ef_holds_0 (n : Nat) (x1478 : Int32) (x1479 : Int32) (w : WX) (r : Int32) (w' : WX) (h : Ff_holds_0 n x1478 x1479 w = some (r, w')) (T : ai_H) : ai_ev D1 mf_holds 0 [some (.ref 0), some (.int x1478), some (.int x1479)] [] (HX w T) 0 0 (some (.int r), HX w' T) := by
  unfold Ff_holds_0 at h
  refine ev_go 2 (pc' := 2) (L' := [some (.ref 0), some (.int x1478), some (.int x1479)]) (st' := [.int x1478, .ref 0]) (h' := (HX w T)) (cs' := 0) (sl' := 0) rfl ?_
  obtain ⟨c1480, hq, h⟩ := ai_bdE h
  refine ev_call (M' := mf_takesBallast) (L' := [some (.ref 0), some (.int x1478)]) (rest := []) (rv := some (.int c1480.1)) (h' := (HX c1480.2 T)) rfl (Ef_takesBallast_0 x1478 w _ _ hq T) ?_
  show ai_ev D1 mf_holds 5 [some (.ref 0), some (.int x1478), some (.int x1479)] [.int c1480.1] (HX c1480.2 T) 0 0 _
  rcases ai_ifE h with ⟨hc, h⟩ | ⟨hc, h⟩
  · refine ev_if_eq (t := 19) rfl rfl (fun _ => ?_) (fun c9 => absurd hc c9)
    refine ev_go 2 (pc' := 22) (L' := [some (.ref 0), some (.int x1478), some (.int x1479)]) (st' := [.int (-10), .ref 0]) (h' := (HX c1480.2 T)) (cs' := 0) (sl' := 0) rfl ?_
    obtain ⟨c1481, hq, h⟩ := ai_bdE h
    refine ev_call (M' := mf_bad) (L' := [some (.ref 0), some (.int (-10))]) (rest := []) (rv := some (.int c1481.1)) (h' := (HX c1481.2 T)) rfl (Ef_bad_0 (-10) c1480.2 _ _ hq T) ?_
    show ai_ev D1 mf_holds 25 [some (.ref 0), some (.int x1478), some (.int x1479)] [.int c1481.1] (HX c1481.2 T) 0 0 _
    obtain ⟨rfl, rfl⟩ := ai_smP h
    exact ev_end rfl
  · refine ev_if_eq (t := 19) rfl rfl (fun c9 => absurd c9 hc) (fun _ => ?_)
    refine ev_go 3 (pc' := 13) (L' := [some (.ref 0), some (.int x1478), some (.int x1479)]) (st' := [.int x1479, .ref 1]) (h' := (HX c1480.2 T)) (cs' := 0) (sl' := 0) rfl ?_
    obtain ⟨c1482, hq, h⟩ := ai_bdE h
    refine ev_call (M' := msea_hasCell) (L' := [some (.ref 1), some (.int x1479)]) (rest := []) (rv := some (.int c1482.1)) (h' := (HX c1482.2 T)) rfl (Esea_hasCell_1 x1479 c1480.2 _ _ hq T) ?_
    show ai_ev D1 mf_holds 16 [some (.ref 0), some (.int x1478), some (.int x1479)] [.int c1482.1] (HX c1482.2 T) 0 0 _
    rcases ai_ifE h with ⟨hc, h⟩ | ⟨hc, h⟩
    · refine ev_if_ne (t := 26) rfl rfl (fun c9 => absurd hc c9) (fun _ => ?_)
      refine ev_go 2 (pc' := 22) (L' := [some (.ref 0), some (.int x1478), some (.int x1479)]) (st' := [.int (-10), .ref 0]) (h' := (HX c1482.2 T)) (cs' := 0) (sl' := 0) rfl ?_
      obtain ⟨c1484, hq, h⟩ := ai_bdE h
      refine ev_call (M' := mf_bad) (L' := [some (.ref 0), some (.int (-10))]) (rest := []) (rv := some (.int c1484.1)) (h' := (HX c1484.2 T)) rfl (Ef_bad_0 (-10) c1482.2 _ _ hq T) ?_
      show ai_ev D1 mf_holds 25 [some (.ref 0), some (.int x1478), some (.int x1479)] [.int c1484.1] (HX c1484.2 T) 0 0 _
      obtain ⟨rfl, rfl⟩ := ai_smP h
      exact ev_end rfl
    · refine ev_if_ne (t := 26) rfl rfl (fun _ => ?_) (fun c9 => absurd c9 hc)
      refine ev_go 7 (pc' := 38) (L' := [some (.ref 0), some (.int x1478), some (.int x1479)]) (st' := [.int (a_s1_hour c1482.2), .int 99, .int x1479, .int x1478, .ref 0]) (h' := (HX c1482.2 T)) (cs' := 0) (sl' := 0) rfl ?_
      obtain ⟨c1483, hq, h⟩ := ai_bdE h
      refine ev_call (M' := mf_letGoWithBallast) (L' := [some (.ref 0), some (.int x1478), some (.int x1479), some (.int 99), some (.int (a_s1_hour c1482.2))]) (rest := []) (rv := none) (h' := (HX c1483 T)) rfl (Ef_letGoWithBallast_0 n x1478 x1479 99 (a_s1_hour c1482.2) c1482.2 _ hq T) ?_
      show ai_ev D1 mf_holds 41 [some (.ref 0), some (.int x1478), some (.int x1479)] [] (HX c1483 T) 0 0 _
      refine ev_go 3 (pc' := 48) (L' := [some (.ref 0), some (.int x1478), some (.int x1479)]) (st' := [.int (a_fall_stopper c1483)]) (h' := (HX c1483 T)) (cs' := 0) (sl' := 0) rfl ?_
      obtain ⟨rfl, rfl⟩ := ai_smP h
      exact ev_end rfl
set_option maxHeartbeats 40000000 in
set_option maxRecDepth 100000 in
theorem EGf_bestHour_0 : ∀ n : Nat, (∀ (y1494 : Int32) (y1495 : Int32) (y1496 : Int32) (y1497 : Int32) (y1498 : Int32) (y1499 : Int32) (w : WX) (r : Int32) (w' : WX), Gf_bestHour_0 n 0 y1494 y1495 y1496 y1497 y1498 y1499 w = some (r, w') → ∀ (T : ai_H) (o7 : Option Value), ai_ev D1 mf_bestHour 45 [some (.ref 0), some (.int y1494), some (.int y1495), some (.int y1496), some (.int y1497), some (.int y1498), some (.int y1499), o7] [] (HX w T) 0 0 (some (.int r), HX w' T)) := by
  intro n
  induction n with
  | zero =>
    exact (fun _ _ _ _ _ _ _ _ _ h => by cases h)
  | succ n ih0 =>
    intro y1494 y1495 y1496 y1497 y1498 y1499 w r w' h T o7
    simp only [Gf_bestHour_0] at h
    refine ev_go 2 (pc' := 49) (L' := [some (.ref 0), some (.int y1494), some (.int y1495), some (.int y1496), some (.int y1497), some (.int y1498), some (.int y1499), o7]) (st' := [.int 6, .int y1499]) (h' := (HX w T)) (cs' := 0) (sl' := 0) rfl ?_
    rcases ai_ifE h with ⟨hc, h⟩ | ⟨hc, h⟩
    · refine ev_ic_ge (t := 98) rfl rfl (fun _ => ?_) (fun c9 => absurd hc c9)
      refine ev_go 1 (pc' := 100) (L' := [some (.ref 0), some (.int y1494), some (.int y1495), some (.int y1496), some (.int y1497), some (.int y1498), some (.int y1499), o7]) (st' := [.int y1497]) (h' := (HX w T)) (cs' := 0) (sl' := 0) rfl ?_
      obtain ⟨rfl, rfl⟩ := ai_smP h
      exact ev_end rfl
    · refine ev_ic_ge (t := 98) rfl rfl (fun c9 => absurd c9 hc) (fun _ => ?_)
      refine ev_go 9 (pc' := 66) (L' := [some (.ref 0), some (.int y1494), some (.int y1495), some (.int y1496), some (.int y1497), some (.int y1498), some (.int y1499), o7]) (st' := [.int ((a_s1_hour w) + y1499), .int y1496, .int y1495, .int y1494, .ref 0]) (h' := (HX w T)) (cs' := 0) (sl' := 0) rfl ?_
      obtain ⟨c1500, hq, h⟩ := ai_bdE h
      refine ev_call (M' := mf_leastBallast) (L' := [some (.ref 0), some (.int y1494), some (.int y1495), some (.int y1496), some (.int ((a_s1_hour w) + y1499)), none]) (rest := []) (rv := some (.int c1500.1)) (h' := (HX c1500.2 T)) rfl (Ef_leastBallast_0 n y1494 y1495 y1496 ((a_s1_hour w) + y1499) w _ _ hq T) ?_
      show ai_ev D1 mf_bestHour 69 [some (.ref 0), some (.int y1494), some (.int y1495), some (.int y1496), some (.int y1497), some (.int y1498), some (.int y1499), o7] [.int c1500.1] (HX c1500.2 T) 0 0 _
      refine ev_go 3 (pc' := 74) (L' := [some (.ref 0), some (.int y1494), some (.int y1495), some (.int y1496), some (.int y1497), some (.int y1498), some (.int y1499), some (.int c1500.1)]) (st' := [.int (-1), .int c1500.1]) (h' := (HX c1500.2 T)) (cs' := 0) (sl' := 0) rfl ?_
      rcases ai_ifE h with ⟨hc, h⟩ | ⟨hc, h⟩
      · refine ev_ic_eq (t := 92) rfl rfl (fun _ => ?_) (fun c9 => absurd hc c9)
        refine ev_go 2 (pc' := 45) (L' := [some (.ref 0), some (.int y1494), some (.int y1495), some (.int y1496), some (.int y1497), some (.int y1498), some (.int (y1499 + 1)), some (.int c1500.1)]) (st' := []) (h' := (HX c1500.2 T)) (cs' := 0) (sl' := 0) rfl ?_
        exact ih0 _ _ _ _ _ _ _ _ _ h T _
      · refine ev_ic_eq (t := 92) rfl rfl (fun c9 => absurd c9 hc) (fun _ => ?_)
        refine ev_go 2 (pc' := 81) (L' := [some (.ref 0), some (.int y1494), some (.int y1495), some (.int y1496), some (.int y1497), some (.int y1498), some (.int y1499), some (.int c1500.1)]) (st' := [.int y1498, .int c1500.1]) (h' := (HX c1500.2 T)) (cs' := 0) (sl' := 0) rfl ?_
        rcases ai_ifE h with ⟨hc, h⟩ | ⟨hc, h⟩
        · refine ev_ic_ge (t := 92) rfl rfl (fun _ => ?_) (fun c9 => absurd hc c9)
          refine ev_go 2 (pc' := 45) (L' := [some (.ref 0), some (.int y1494), some (.int y1495), some (.int y1496), some (.int y1497), some (.int y1498), some (.int (y1499 + 1)), some (.int c1500.1)]) (st' := []) (h' := (HX c1500.2 T)) (cs' := 0) (sl' := 0) rfl ?_
          exact ih0 _ _ _ _ _ _ _ _ _ h T _
        · refine ev_ic_ge (t := 92) rfl rfl (fun c9 => absurd c9 hc) (fun _ => ?_)
          refine ev_go 6 (pc' := 45) (L' := [some (.ref 0), some (.int y1494), some (.int y1495), some (.int y1496), some (.int y1499), some (.int c1500.1), some (.int (y1499 + 1)), some (.int c1500.1)]) (st' := []) (h' := (HX c1500.2 T)) (cs' := 0) (sl' := 0) rfl ?_
          exact ih0 _ _ _ _ _ _ _ _ _ h T _
set_option maxHeartbeats 40000000 in
set_option maxRecDepth 100000 in
theorem Ef_bestHour_0 (n : Nat) (x1485 : Int32) (x1486 : Int32) (x1487 : Int32) (w : WX) (r : Int32) (w' : WX) (h : Ff_bestHour_0 n x1485 x1486 x1487 w = some (r, w')) (T : ai_H) : ai_ev D1 mf_bestHour 0 [some (.ref 0), some (.int x1485), some (.int x1486), some (.int x1487), none, none, none, none] [] (HX w T) 0 0 (some (.int r), HX w' T) := by
  unfold Ff_bestHour_0 at h
  have ih0 := EGf_bestHour_0 n
  refine ev_go 2 (pc' := 2) (L' := [some (.ref 0), some (.int x1485), some (.int x1486), some (.int x1487), none, none, none, none]) (st' := [.int x1485, .ref 0]) (h' := (HX w T)) (cs' := 0) (sl' := 0) rfl ?_
  obtain ⟨c1488, hq, h⟩ := ai_bdE h
  refine ev_call (M' := mf_takesBallast) (L' := [some (.ref 0), some (.int x1485)]) (rest := []) (rv := some (.int c1488.1)) (h' := (HX c1488.2 T)) rfl (Ef_takesBallast_0 x1485 w _ _ hq T) ?_
  show ai_ev D1 mf_bestHour 5 [some (.ref 0), some (.int x1485), some (.int x1486), some (.int x1487), none, none, none, none] [.int c1488.1] (HX c1488.2 T) 0 0 _
  rcases ai_ifE h with ⟨hc, h⟩ | ⟨hc, h⟩
  · refine ev_if_eq (t := 28) rfl rfl (fun _ => ?_) (fun c9 => absurd hc c9)
    refine ev_go 2 (pc' := 31) (L' := [some (.ref 0), some (.int x1485), some (.int x1486), some (.int x1487), none, none, none, none]) (st' := [.int (-10), .ref 0]) (h' := (HX c1488.2 T)) (cs' := 0) (sl' := 0) rfl ?_
    obtain ⟨c1489, hq, h⟩ := ai_bdE h
    refine ev_call (M' := mf_bad) (L' := [some (.ref 0), some (.int (-10))]) (rest := []) (rv := some (.int c1489.1)) (h' := (HX c1489.2 T)) rfl (Ef_bad_0 (-10) c1488.2 _ _ hq T) ?_
    show ai_ev D1 mf_bestHour 34 [some (.ref 0), some (.int x1485), some (.int x1486), some (.int x1487), none, none, none, none] [.int c1489.1] (HX c1489.2 T) 0 0 _
    obtain ⟨rfl, rfl⟩ := ai_smP h
    exact ev_end rfl
  · refine ev_if_eq (t := 28) rfl rfl (fun c9 => absurd c9 hc) (fun _ => ?_)
    refine ev_go 3 (pc' := 13) (L' := [some (.ref 0), some (.int x1485), some (.int x1486), some (.int x1487), none, none, none, none]) (st' := [.int x1486, .ref 1]) (h' := (HX c1488.2 T)) (cs' := 0) (sl' := 0) rfl ?_
    obtain ⟨c1490, hq, h⟩ := ai_bdE h
    refine ev_call (M' := msea_hasCell) (L' := [some (.ref 1), some (.int x1486)]) (rest := []) (rv := some (.int c1490.1)) (h' := (HX c1490.2 T)) rfl (Esea_hasCell_1 x1486 c1488.2 _ _ hq T) ?_
    show ai_ev D1 mf_bestHour 16 [some (.ref 0), some (.int x1485), some (.int x1486), some (.int x1487), none, none, none, none] [.int c1490.1] (HX c1490.2 T) 0 0 _
    rcases ai_ifE h with ⟨hc, h⟩ | ⟨hc, h⟩
    · refine ev_if_eq (t := 28) rfl rfl (fun _ => ?_) (fun c9 => absurd hc c9)
      refine ev_go 2 (pc' := 31) (L' := [some (.ref 0), some (.int x1485), some (.int x1486), some (.int x1487), none, none, none, none]) (st' := [.int (-10), .ref 0]) (h' := (HX c1490.2 T)) (cs' := 0) (sl' := 0) rfl ?_
      obtain ⟨c1491, hq, h⟩ := ai_bdE h
      refine ev_call (M' := mf_bad) (L' := [some (.ref 0), some (.int (-10))]) (rest := []) (rv := some (.int c1491.1)) (h' := (HX c1491.2 T)) rfl (Ef_bad_0 (-10) c1490.2 _ _ hq T) ?_
      show ai_ev D1 mf_bestHour 34 [some (.ref 0), some (.int x1485), some (.int x1486), some (.int x1487), none, none, none, none] [.int c1491.1] (HX c1491.2 T) 0 0 _
      obtain ⟨rfl, rfl⟩ := ai_smP h
      exact ev_end rfl
    · refine ev_if_eq (t := 28) rfl rfl (fun c9 => absurd c9 hc) (fun _ => ?_)
      refine ev_go 3 (pc' := 22) (L' := [some (.ref 0), some (.int x1485), some (.int x1486), some (.int x1487), none, none, none, none]) (st' := [.int 4, .int 0, .int x1487]) (h' := (HX c1490.2 T)) (cs' := 0) (sl' := 0) rfl ?_
      obtain ⟨c1492, hq, h⟩ := ai_bdE h
      refine ev_call (M' := mf_within) (L' := [some (.int x1487), some (.int 0), some (.int 4)]) (rest := []) (rv := some (.int c1492)) (h' := (HX c1490.2 T)) rfl (Ef_within x1487 0 4 _ hq (HX c1490.2 T)) ?_
      show ai_ev D1 mf_bestHour 25 [some (.ref 0), some (.int x1485), some (.int x1486), some (.int x1487), none, none, none, none] [.int c1492] (HX c1490.2 T) 0 0 _
      rcases ai_ifE h with ⟨hc, h⟩ | ⟨hc, h⟩
      · refine ev_if_ne (t := 35) rfl rfl (fun c9 => absurd hc c9) (fun _ => ?_)
        refine ev_go 2 (pc' := 31) (L' := [some (.ref 0), some (.int x1485), some (.int x1486), some (.int x1487), none, none, none, none]) (st' := [.int (-10), .ref 0]) (h' := (HX c1490.2 T)) (cs' := 0) (sl' := 0) rfl ?_
        obtain ⟨c1493, hq, h⟩ := ai_bdE h
        refine ev_call (M' := mf_bad) (L' := [some (.ref 0), some (.int (-10))]) (rest := []) (rv := some (.int c1493.1)) (h' := (HX c1493.2 T)) rfl (Ef_bad_0 (-10) c1490.2 _ _ hq T) ?_
        show ai_ev D1 mf_bestHour 34 [some (.ref 0), some (.int x1485), some (.int x1486), some (.int x1487), none, none, none, none] [.int c1493.1] (HX c1493.2 T) 0 0 _
        obtain ⟨rfl, rfl⟩ := ai_smP h
        exact ev_end rfl
      · refine ev_if_ne (t := 35) rfl rfl (fun _ => ?_) (fun c9 => absurd c9 hc)
        refine ev_go 6 (pc' := 45) (L' := [some (.ref 0), some (.int x1485), some (.int x1486), some (.int x1487), some (.int (-1)), some (.int 100), some (.int 0), none]) (st' := []) (h' := (HX c1490.2 T)) (cs' := 0) (sl' := 0) rfl ?_
        exact ih0 _ _ _ _ _ _ _ _ _ h T _
set_option maxHeartbeats 40000000 in
set_option maxRecDepth 100000 in
theorem EGarr_fill_87 : ∀ n : Nat, (∀ (y1509 : Int32) (y1510 : Int32) (y1511 : Int32) (w : WX) (w' : WX), Garr_fill_87 n 0 y1509 y1510 y1511 w = some w' → ∀ (T : ai_H), ai_ev D1 marr_fill 5 [some (.ref 87), some (.int y1509), some (.int y1510), some (.int y1511)] [] (HX w T) 0 0 (none, HX w' T)) := by
  intro n
  induction n with
  | zero =>
    exact (fun _ _ _ _ _ h => by cases h)
  | succ n ih0 =>
    intro y1509 y1510 y1511 w w' h T
    simp only [Garr_fill_87] at h
    refine ev_go 2 (pc' := 7) (L' := [some (.ref 87), some (.int y1509), some (.int y1510), some (.int y1511)]) (st' := [.int y1511, .int y1510]) (h' := (HX w T)) (cs' := 0) (sl' := 0) rfl ?_
    rcases ai_ifE h with ⟨hc, h⟩ | ⟨hc, h⟩
    · refine ev_ic_ge (t := 20) rfl rfl (fun _ => ?_) (fun c9 => absurd hc c9)
      obtain rfl := Option.some.inj h
      exact ev_end rfl
    · refine ev_ic_ge (t := 20) rfl rfl (fun c9 => absurd c9 hc) (fun _ => ?_)
      refine ev_go 3 (pc' := 13) (L' := [some (.ref 87), some (.int y1509), some (.int y1510), some (.int y1511)]) (st' := [.int y1509, .int y1510, .ref 87]) (h' := (HX w T)) (cs' := 0) (sl' := 0) rfl ?_
      obtain ⟨q1512, hq, h⟩ := ai_bdE h
      refine ev_iast rfl rfl hq ?_
      rw [HXs_87]
      refine ev_go 2 (pc' := 5) (L' := [some (.ref 87), some (.int y1509), some (.int (y1510 + 1)), some (.int y1511)]) (st' := []) (h' := (HX (u_ways_reached w q1512) T)) (cs' := 0) (sl' := 0) rfl ?_
      exact ih0 _ _ _ _ _ h T
set_option maxHeartbeats 40000000 in
set_option maxRecDepth 100000 in
theorem Earr_fill_87 (n : Nat) (x1508 : Int32) (w : WX) (w' : WX) (h : Farr_fill_87 n x1508 w = some w') (T : ai_H) : ai_ev D1 marr_fill 0 [some (.ref 87), some (.int x1508), none, none] [] (HX w T) 0 0 (none, HX w' T) := by
  unfold Farr_fill_87 at h
  have ih0 := EGarr_fill_87 n
  refine ev_go 5 (pc' := 5) (L' := [some (.ref 87), some (.int x1508), some (.int 0), some (.int (Int32.ofNat (List.length (a_ways_reached w))))]) (st' := []) (h' := (HX w T)) (cs' := 0) (sl' := 0) rfl ?_
  exact ih0 _ _ _ _ _ h T
set_option maxHeartbeats 40000000 in
set_option maxRecDepth 100000 in
theorem Eway_numberOf (x1514 : Int32) (r : Int32) (h : Fway_numberOf x1514 = some r) (hh : ai_H) : ai_ev D1 mway_numberOf 0 [some (.int x1514)] [] hh 0 0 (some (.int r), hh) := by
  unfold Fway_numberOf at h
  refine ev_go 9 (pc' := 11) (L' := [some (.int x1514)]) (st' := [.int (((x1514 / 10) * 4) + (x1514 - x1514 / 10 * 10))]) (h' := hh) (cs' := 0) (sl' := 0) rfl ?_
  obtain rfl := Option.some.inj h
  exact ev_end rfl
set_option maxHeartbeats 40000000 in
set_option maxRecDepth 100000 in
theorem Eway_join_86 (x1528 : Int32) (x1529 : Int32) (x1530 : Int32) (w : WX) (w' : WX) (h : Fway_join_86 x1528 x1529 x1530 w = some w') (T : ai_H) : ai_ev D1 mway_join 0 [some (.ref 86), some (.int x1528), some (.int x1529), some (.int x1530)] [] (HX w T) 0 0 (none, HX w' T) := by
  unfold Fway_join_86 at h
  refine ev_go 6 (pc' := 10) (L' := [some (.ref 86), some (.int x1528), some (.int x1529), some (.int x1530)]) (st' := [.int x1528, .ref 87, .int x1528, .ref 87]) (h' := (HX w T)) (cs' := 0) (sl' := 0) rfl ?_
  obtain ⟨v1531, hq, h⟩ := ai_bdE h
  refine ev_iald rfl rfl hq ?_
  refine ev_go 3 (pc' := 16) (L' := [some (.ref 86), some (.int x1528), some (.int x1529), some (.int x1530)]) (st' := [.int x1529, .ref 87, .int v1531, .int x1528, .ref 87]) (h' := (HX w T)) (cs' := 0) (sl' := 0) rfl ?_
  obtain ⟨v1532, hq, h⟩ := ai_bdE h
  refine ev_iald rfl rfl hq ?_
  refine ev_go 3 (pc' := 22) (L' := [some (.ref 86), some (.int x1528), some (.int x1529), some (.int x1530)]) (st' := [.int (if (v1532 + x1530) < v1531 then (v1532 + x1530) else v1531), .int x1528, .ref 87]) (h' := (HX w T)) (cs' := 0) (sl' := 0) rfl ?_
  obtain ⟨q1533, hq, h⟩ := ai_bdE h
  refine ev_iast rfl rfl hq ?_
  rw [HXs_87]
  refine ev_go 6 (pc' := 33) (L' := [some (.ref 86), some (.int x1528), some (.int x1529), some (.int x1530)]) (st' := [.int x1529, .ref 87, .int x1529, .ref 87]) (h' := (HX (u_ways_reached w q1533) T)) (cs' := 0) (sl' := 0) rfl ?_
  obtain ⟨v1534, hq, h⟩ := ai_bdE h
  refine ev_iald rfl rfl hq ?_
  refine ev_go 3 (pc' := 39) (L' := [some (.ref 86), some (.int x1528), some (.int x1529), some (.int x1530)]) (st' := [.int x1528, .ref 87, .int v1534, .int x1529, .ref 87]) (h' := (HX (u_ways_reached w q1533) T)) (cs' := 0) (sl' := 0) rfl ?_
  obtain ⟨v1535, hq, h⟩ := ai_bdE h
  refine ev_iald rfl rfl hq ?_
  refine ev_go 3 (pc' := 45) (L' := [some (.ref 86), some (.int x1528), some (.int x1529), some (.int x1530)]) (st' := [.int (if (v1535 + x1530) < v1534 then (v1535 + x1530) else v1534), .int x1529, .ref 87]) (h' := (HX (u_ways_reached w q1533) T)) (cs' := 0) (sl' := 0) rfl ?_
  obtain ⟨q1536, hq, h⟩ := ai_bdE h
  refine ev_iast rfl rfl hq ?_
  rw [HXs_87]
  obtain rfl := Option.some.inj h
  exact ev_end rfl
set_option maxHeartbeats 40000000 in
set_option maxRecDepth 100000 in
theorem EGway_goByLifts_86_1 : ∀ n : Nat, (∀ (y1522 : Int32) (w : WX) (w' : WX), Gway_goByLifts_86_1 n 0 y1522 w = some w' → ∀ (T : ai_H), ai_ev D1 mway_goByLifts 2 [some (.ref 86), some (.ref 1), some (.int y1522)] [] (HX w T) 0 0 (none, HX w' T)) := by
  intro n
  induction n with
  | zero =>
    exact (fun _ _ _ h => by cases h)
  | succ n ih0 =>
    intro y1522 w w' h T
    simp only [Gway_goByLifts_86_1] at h
    refine ev_go 4 (pc' := 10) (L' := [some (.ref 86), some (.ref 1), some (.int y1522)]) (st' := [.int (a_s1lifts_count w), .int y1522]) (h' := (HX w T)) (cs' := 0) (sl' := 0) rfl ?_
    rcases ai_ifE h with ⟨hc, h⟩ | ⟨hc, h⟩
    · refine ev_ic_ge (t := 56) rfl rfl (fun _ => ?_) (fun c9 => absurd hc c9)
      obtain rfl := Option.some.inj h
      exact ev_end rfl
    · refine ev_ic_ge (t := 56) rfl rfl (fun c9 => absurd c9 hc) (fun _ => ?_)
      refine ev_go 5 (pc' := 22) (L' := [some (.ref 86), some (.ref 1), some (.int y1522)]) (st' := [.int y1522, .ref 13, .ref 86]) (h' := (HX w T)) (cs' := 0) (sl' := 0) rfl ?_
      obtain ⟨v1523, hq, h⟩ := ai_bdE h
      refine ev_iald rfl rfl hq ?_
      obtain ⟨c1524, hq, h⟩ := ai_bdE h
      refine ev_call (M' := mway_numberOf) (L' := [some (.int v1523)]) (rest := [.ref 86]) (rv := some (.int c1524)) (h' := (HX w T)) rfl (Eway_numberOf v1523 _ hq (HX w T)) ?_
      show ai_ev D1 mway_goByLifts 26 [some (.ref 86), some (.ref 1), some (.int y1522)] [.int c1524, .ref 86] (HX w T) 0 0 _
      refine ev_go 4 (pc' := 34) (L' := [some (.ref 86), some (.ref 1), some (.int y1522)]) (st' := [.int y1522, .ref 14, .int c1524, .ref 86]) (h' := (HX w T)) (cs' := 0) (sl' := 0) rfl ?_
      obtain ⟨v1525, hq, h⟩ := ai_bdE h
      refine ev_iald rfl rfl hq ?_
      obtain ⟨c1526, hq, h⟩ := ai_bdE h
      refine ev_call (M' := mway_numberOf) (L' := [some (.int v1525)]) (rest := [.int c1524, .ref 86]) (rv := some (.int c1526)) (h' := (HX w T)) rfl (Eway_numberOf v1525 _ hq (HX w T)) ?_
      show ai_ev D1 mway_goByLifts 38 [some (.ref 86), some (.ref 1), some (.int y1522)] [.int c1526, .int c1524, .ref 86] (HX w T) 0 0 _
      refine ev_go 4 (pc' := 46) (L' := [some (.ref 86), some (.ref 1), some (.int y1522)]) (st' := [.int y1522, .ref 15, .int c1526, .int c1524, .ref 86]) (h' := (HX w T)) (cs' := 0) (sl' := 0) rfl ?_
      obtain ⟨v1527, hq, h⟩ := ai_bdE h
      refine ev_iald rfl rfl hq ?_
      obtain ⟨c1537, hq, h⟩ := ai_bdE h
      refine ev_call (M' := mway_join) (L' := [some (.ref 86), some (.int c1524), some (.int c1526), some (.int v1527)]) (rest := []) (rv := none) (h' := (HX c1537 T)) rfl (Eway_join_86 c1524 c1526 v1527 w _ hq T) ?_
      show ai_ev D1 mway_goByLifts 50 [some (.ref 86), some (.ref 1), some (.int y1522)] [] (HX c1537 T) 0 0 _
      refine ev_go 2 (pc' := 2) (L' := [some (.ref 86), some (.ref 1), some (.int (y1522 + 1))]) (st' := []) (h' := (HX c1537 T)) (cs' := 0) (sl' := 0) rfl ?_
      exact ih0 _ _ _ h T
set_option maxHeartbeats 40000000 in
set_option maxRecDepth 100000 in
theorem Eway_goByLifts_86_1 (n : Nat) (w : WX) (w' : WX) (h : Fway_goByLifts_86_1 n w = some w') (T : ai_H) : ai_ev D1 mway_goByLifts 0 [some (.ref 86), some (.ref 1), none] [] (HX w T) 0 0 (none, HX w' T) := by
  unfold Fway_goByLifts_86_1 at h
  have ih0 := EGway_goByLifts_86_1 n
  refine ev_go 2 (pc' := 2) (L' := [some (.ref 86), some (.ref 1), some (.int 0)]) (st' := []) (h' := (HX w T)) (cs' := 0) (sl' := 0) rfl ?_
  exact ih0 _ _ _ h T
set_option maxHeartbeats 40000000 in
set_option maxRecDepth 100000 in
theorem EGway_goBeside_86_1 : ∀ n : Nat, (∀ (y1539 : Int32) (w : WX) (w' : WX), Gway_goBeside_86_1 n 0 y1539 0 w = some w' → ∀ (T : ai_H) (o3 : Option Value), ai_ev D1 mway_goBeside 2 [some (.ref 86), some (.ref 1), some (.int y1539), o3] [] (HX w T) 0 0 (none, HX w' T)) ∧ (∀ (y1540 : Int32) (y1541 : Int32) (w : WX) (w' : WX), Gway_goBeside_86_1 n 1 y1540 y1541 w = some w' → ∀ (T : ai_H), ai_ev D1 mway_goBeside 14 [some (.ref 86), some (.ref 1), some (.int y1540), some (.int y1541)] [] (HX w T) 0 0 (none, HX w' T)) := by
  intro n
  induction n with
  | zero =>
    exact ⟨(fun _ _ _ h => by cases h), (fun _ _ _ _ h => by cases h)⟩
  | succ n ih =>
    obtain ⟨ih0, ih1⟩ := ih
    refine ⟨?_, ?_⟩
    · intro y1539 w w' h T o3
      simp only [Gway_goBeside_86_1] at h
      refine ev_go 5 (pc' := 9) (L' := [some (.ref 86), some (.ref 1), some (.int y1539), o3]) (st' := [.int ((a_s1_cells w) - 1), .int y1539]) (h' := (HX w T)) (cs' := 0) (sl' := 0) rfl ?_
      rcases ai_ifE h with ⟨hc, h⟩ | ⟨hc, h⟩
      · refine ev_ic_ge (t := 76) rfl rfl (fun _ => ?_) (fun c9 => absurd hc c9)
        obtain rfl := Option.some.inj h
        exact ev_end rfl
      · refine ev_ic_ge (t := 76) rfl rfl (fun c9 => absurd c9 hc) (fun _ => ?_)
        refine ev_go 2 (pc' := 14) (L' := [some (.ref 86), some (.ref 1), some (.int y1539), some (.int 0)]) (st' := []) (h' := (HX w T)) (cs' := 0) (sl' := 0) rfl ?_
        exact ih1 _ _ _ _ h T
    · intro y1540 y1541 w w' h T
      simp only [Gway_goBeside_86_1] at h
      refine ev_go 2 (pc' := 16) (L' := [some (.ref 86), some (.ref 1), some (.int y1540), some (.int y1541)]) (st' := [.int 4, .int y1541]) (h' := (HX w T)) (cs' := 0) (sl' := 0) rfl ?_
      rcases ai_ifE h with ⟨hc, h⟩ | ⟨hc, h⟩
      · refine ev_ic_ge (t := 70) rfl rfl (fun _ => ?_) (fun c9 => absurd hc c9)
        refine ev_go 2 (pc' := 2) (L' := [some (.ref 86), some (.ref 1), some (.int (y1540 + 1)), some (.int y1541)]) (st' := []) (h' := (HX w T)) (cs' := 0) (sl' := 0) rfl ?_
        exact ih0 _ _ _ h T _
      · refine ev_ic_ge (t := 70) rfl rfl (fun c9 => absurd c9 hc) (fun _ => ?_)
        refine ev_go 5 (pc' := 26) (L' := [some (.ref 86), some (.ref 1), some (.int y1540), some (.int y1541)]) (st' := [.int (a_s1_hour w), .int y1540, .int y1541, .ref 1]) (h' := (HX w T)) (cs' := 0) (sl' := 0) rfl ?_
        obtain ⟨c1542, hq, h⟩ := ai_bdE h
        refine ev_call (M' := msea_thickAt) (L' := [some (.ref 1), some (.int y1541), some (.int y1540), some (.int (a_s1_hour w))]) (rest := []) (rv := some (.int c1542.1)) (h' := (HX c1542.2 T)) rfl (Esea_thickAt_1 y1541 y1540 (a_s1_hour w) w _ _ hq T) ?_
        show ai_ev D1 mway_goBeside 29 [some (.ref 86), some (.ref 1), some (.int y1540), some (.int y1541)] [.int c1542.1] (HX c1542.2 T) 0 0 _
        rcases ai_ifE h with ⟨hc, h⟩ | ⟨hc, h⟩
        · refine ev_if_le (t := 64) rfl rfl (fun _ => ?_) (fun c9 => absurd hc c9)
          refine ev_go 2 (pc' := 14) (L' := [some (.ref 86), some (.ref 1), some (.int y1540), some (.int (y1541 + 1))]) (st' := []) (h' := (HX c1542.2 T)) (cs' := 0) (sl' := 0) rfl ?_
          exact ih1 _ _ _ _ h T
        · refine ev_if_le (t := 64) rfl rfl (fun c9 => absurd c9 hc) (fun _ => ?_)
          refine ev_go 7 (pc' := 41) (L' := [some (.ref 86), some (.ref 1), some (.int y1540), some (.int y1541)]) (st' := [.int (a_s1_hour c1542.2), .int (y1540 + 1), .int y1541, .ref 1]) (h' := (HX c1542.2 T)) (cs' := 0) (sl' := 0) rfl ?_
          obtain ⟨c1543, hq, h⟩ := ai_bdE h
          refine ev_call (M' := msea_thickAt) (L' := [some (.ref 1), some (.int y1541), some (.int (y1540 + 1)), some (.int (a_s1_hour c1542.2))]) (rest := []) (rv := some (.int c1543.1)) (h' := (HX c1543.2 T)) rfl (Esea_thickAt_1 y1541 (y1540 + 1) (a_s1_hour c1542.2) c1542.2 _ _ hq T) ?_
          show ai_ev D1 mway_goBeside 44 [some (.ref 86), some (.ref 1), some (.int y1540), some (.int y1541)] [.int c1543.1] (HX c1543.2 T) 0 0 _
          rcases ai_ifE h with ⟨hc, h⟩ | ⟨hc, h⟩
          · refine ev_if_le (t := 64) rfl rfl (fun _ => ?_) (fun c9 => absurd hc c9)
            refine ev_go 2 (pc' := 14) (L' := [some (.ref 86), some (.ref 1), some (.int y1540), some (.int (y1541 + 1))]) (st' := []) (h' := (HX c1543.2 T)) (cs' := 0) (sl' := 0) rfl ?_
            exact ih1 _ _ _ _ h T
          · refine ev_if_le (t := 64) rfl rfl (fun c9 => absurd c9 hc) (fun _ => ?_)
            refine ev_go 14 (pc' := 61) (L' := [some (.ref 86), some (.ref 1), some (.int y1540), some (.int y1541)]) (st' := [.int 3, .int (((y1540 + 1) * 4) + y1541), .int ((y1540 * 4) + y1541), .ref 86]) (h' := (HX c1543.2 T)) (cs' := 0) (sl' := 0) rfl ?_
            obtain ⟨c1544, hq, h⟩ := ai_bdE h
            refine ev_call (M' := mway_join) (L' := [some (.ref 86), some (.int ((y1540 * 4) + y1541)), some (.int (((y1540 + 1) * 4) + y1541)), some (.int 3)]) (rest := []) (rv := none) (h' := (HX c1544 T)) rfl (Eway_join_86 ((y1540 * 4) + y1541) (((y1540 + 1) * 4) + y1541) 3 c1543.2 _ hq T) ?_
            show ai_ev D1 mway_goBeside 64 [some (.ref 86), some (.ref 1), some (.int y1540), some (.int y1541)] [] (HX c1544 T) 0 0 _
            refine ev_go 2 (pc' := 14) (L' := [some (.ref 86), some (.ref 1), some (.int y1540), some (.int (y1541 + 1))]) (st' := []) (h' := (HX c1544 T)) (cs' := 0) (sl' := 0) rfl ?_
            exact ih1 _ _ _ _ h T
set_option maxHeartbeats 40000000 in
set_option maxRecDepth 100000 in
theorem Eway_goBeside_86_1 (n : Nat) (w : WX) (w' : WX) (h : Fway_goBeside_86_1 n w = some w') (T : ai_H) : ai_ev D1 mway_goBeside 0 [some (.ref 86), some (.ref 1), none, none] [] (HX w T) 0 0 (none, HX w' T) := by
  unfold Fway_goBeside_86_1 at h
  obtain ⟨ih0, ih1⟩ := EGway_goBeside_86_1 n
  refine ev_go 2 (pc' := 2) (L' := [some (.ref 86), some (.ref 1), some (.int 0), none]) (st' := []) (h' := (HX w T)) (cs' := 0) (sl' := 0) rfl ?_
  exact ih0 _ _ _ h T _
set_option maxHeartbeats 40000000 in
set_option maxRecDepth 100000 in
theorem EGway_soonestWay_86_1 : ∀ n : Nat, (∀ (y1517 : Int32) (y1518 : Int32) (y1519 : Int32) (w : WX) (r : Int32) (w' : WX), Gway_soonestWay_86_1 n 0 y1517 y1518 y1519 w = some (r, w') → ∀ (T : ai_H), ai_ev D1 mway_soonestWay 22 [some (.ref 86), some (.ref 1), some (.int y1517), some (.int y1518), some (.int y1519)] [] (HX w T) 0 0 (some (.int r), HX w' T)) := by
  intro n
  induction n with
  | zero =>
    exact (fun _ _ _ _ _ _ h => by cases h)
  | succ n ih0 =>
    intro y1517 y1518 y1519 w r w' h T
    simp only [Gway_soonestWay_86_1] at h
    refine ev_go 2 (pc' := 26) (L' := [some (.ref 86), some (.ref 1), some (.int y1517), some (.int y1518), some (.int y1519)]) (st' := [.int 24, .int y1519]) (h' := (HX w T)) (cs' := 0) (sl' := 0) rfl ?_
    rcases ai_ifE h with ⟨hc, h⟩ | ⟨hc, h⟩
    · refine ev_ic_ge (t := 45) rfl rfl (fun _ => ?_) (fun c9 => absurd hc c9)
      refine ev_go 3 (pc' := 50) (L' := [some (.ref 86), some (.ref 1), some (.int y1517), some (.int y1518), some (.int y1519)]) (st' := [.int y1518, .ref 87]) (h' := (HX w T)) (cs' := 0) (sl' := 0) rfl ?_
      obtain ⟨c1520, hq, h⟩ := ai_bdE h
      refine ev_call (M' := mway_numberOf) (L' := [some (.int y1518)]) (rest := [.ref 87]) (rv := some (.int c1520)) (h' := (HX w T)) rfl (Eway_numberOf y1518 _ hq (HX w T)) ?_
      show ai_ev D1 mway_soonestWay 53 [some (.ref 86), some (.ref 1), some (.int y1517), some (.int y1518), some (.int y1519)] [.int c1520, .ref 87] (HX w T) 0 0 _
      obtain ⟨v1521, hq, h⟩ := ai_bdE h
      refine ev_iald rfl rfl hq ?_
      refine ev_go 3 (pc' := 60) (L' := [some (.ref 86), some (.ref 1), some (.int y1517), some (.int y1518), some (.int v1521)]) (st' := [.int 1000000, .int v1521]) (h' := (HX w T)) (cs' := 0) (sl' := 0) rfl ?_
      rcases ai_ifE h with ⟨hc, h⟩ | ⟨hc, h⟩
      · refine ev_ic_lt (t := 67) rfl rfl (fun _ => ?_) (fun c9 => absurd hc c9)
        refine ev_go 1 (pc' := 69) (L' := [some (.ref 86), some (.ref 1), some (.int y1517), some (.int y1518), some (.int v1521)]) (st' := [.int v1521]) (h' := (HX w T)) (cs' := 0) (sl' := 0) rfl ?_
        obtain ⟨rfl, rfl⟩ := ai_smP h
        exact ev_end rfl
      · refine ev_ic_lt (t := 67) rfl rfl (fun c9 => absurd c9 hc) (fun _ => ?_)
        refine ev_go 2 (pc' := 69) (L' := [some (.ref 86), some (.ref 1), some (.int y1517), some (.int y1518), some (.int v1521)]) (st' := [.int (-1)]) (h' := (HX w T)) (cs' := 0) (sl' := 0) rfl ?_
        obtain ⟨rfl, rfl⟩ := ai_smP h
        exact ev_end rfl
    · refine ev_ic_ge (t := 45) rfl rfl (fun c9 => absurd c9 hc) (fun _ => ?_)
      refine ev_go 2 (pc' := 31) (L' := [some (.ref 86), some (.ref 1), some (.int y1517), some (.int y1518), some (.int y1519)]) (st' := [.ref 1, .ref 86]) (h' := (HX w T)) (cs' := 0) (sl' := 0) rfl ?_
      obtain ⟨c1538, hq, h⟩ := ai_bdE h
      refine ev_call (M' := mway_goByLifts) (L' := [some (.ref 86), some (.ref 1), none]) (rest := []) (rv := none) (h' := (HX c1538 T)) rfl (Eway_goByLifts_86_1 n w _ hq T) ?_
      show ai_ev D1 mway_soonestWay 34 [some (.ref 86), some (.ref 1), some (.int y1517), some (.int y1518), some (.int y1519)] [] (HX c1538 T) 0 0 _
      refine ev_go 2 (pc' := 36) (L' := [some (.ref 86), some (.ref 1), some (.int y1517), some (.int y1518), some (.int y1519)]) (st' := [.ref 1, .ref 86]) (h' := (HX c1538 T)) (cs' := 0) (sl' := 0) rfl ?_
      obtain ⟨c1545, hq, h⟩ := ai_bdE h
      refine ev_call (M' := mway_goBeside) (L' := [some (.ref 86), some (.ref 1), none, none]) (rest := []) (rv := none) (h' := (HX c1545 T)) rfl (Eway_goBeside_86_1 n c1538 _ hq T) ?_
      show ai_ev D1 mway_soonestWay 39 [some (.ref 86), some (.ref 1), some (.int y1517), some (.int y1518), some (.int y1519)] [] (HX c1545 T) 0 0 _
      refine ev_go 2 (pc' := 22) (L' := [some (.ref 86), some (.ref 1), some (.int y1517), some (.int y1518), some (.int (y1519 + 1))]) (st' := []) (h' := (HX c1545 T)) (cs' := 0) (sl' := 0) rfl ?_
      exact ih0 _ _ _ _ _ _ h T
set_option maxHeartbeats 40000000 in
set_option maxRecDepth 100000 in
theorem Eway_soonestWay_86_1 (n : Nat) (x1506 : Int32) (x1507 : Int32) (w : WX) (r : Int32) (w' : WX) (h : Fway_soonestWay_86_1 n x1506 x1507 w = some (r, w')) (T : ai_H) : ai_ev D1 mway_soonestWay 0 [some (.ref 86), some (.ref 1), some (.int x1506), some (.int x1507), none] [] (HX w T) 0 0 (some (.int r), HX w' T) := by
  unfold Fway_soonestWay_86_1 at h
  have ih0 := EGway_soonestWay_86_1 n
  refine ev_go 3 (pc' := 6) (L' := [some (.ref 86), some (.ref 1), some (.int x1506), some (.int x1507), none]) (st' := [.int 1000000, .ref 87]) (h' := (HX w T)) (cs' := 0) (sl' := 0) rfl ?_
  obtain ⟨c1513, hq, h⟩ := ai_bdE h
  refine ev_call (M' := marr_fill) (L' := [some (.ref 87), some (.int 1000000), none, none]) (rest := []) (rv := none) (h' := (HX c1513 T)) rfl (Earr_fill_87 n 1000000 w _ hq T) ?_
  show ai_ev D1 mway_soonestWay 9 [some (.ref 86), some (.ref 1), some (.int x1506), some (.int x1507), none] [] (HX c1513 T) 0 0 _
  refine ev_go 3 (pc' := 14) (L' := [some (.ref 86), some (.ref 1), some (.int x1506), some (.int x1507), none]) (st' := [.int x1506, .ref 87]) (h' := (HX c1513 T)) (cs' := 0) (sl' := 0) rfl ?_
  obtain ⟨c1515, hq, h⟩ := ai_bdE h
  refine ev_call (M' := mway_numberOf) (L' := [some (.int x1506)]) (rest := [.ref 87]) (rv := some (.int c1515)) (h' := (HX c1513 T)) rfl (Eway_numberOf x1506 _ hq (HX c1513 T)) ?_
  show ai_ev D1 mway_soonestWay 17 [some (.ref 86), some (.ref 1), some (.int x1506), some (.int x1507), none] [.int c1515, .ref 87] (HX c1513 T) 0 0 _
  refine ev_go 1 (pc' := 18) (L' := [some (.ref 86), some (.ref 1), some (.int x1506), some (.int x1507), none]) (st' := [.int 0, .int c1515, .ref 87]) (h' := (HX c1513 T)) (cs' := 0) (sl' := 0) rfl ?_
  obtain ⟨q1516, hq, h⟩ := ai_bdE h
  refine ev_iast rfl rfl hq ?_
  rw [HXs_87]
  refine ev_go 2 (pc' := 22) (L' := [some (.ref 86), some (.ref 1), some (.int x1506), some (.int x1507), some (.int 1)]) (st' := []) (h' := (HX (u_ways_reached c1513 q1516) T)) (cs' := 0) (sl' := 0) rfl ?_
  exact ih0 _ _ _ _ _ _ h T
set_option maxHeartbeats 40000000 in
set_option maxRecDepth 100000 in
theorem Ef_soonest_0 (n : Nat) (x1501 : Int32) (x1502 : Int32) (w : WX) (r : Int32) (w' : WX) (h : Ff_soonest_0 n x1501 x1502 w = some (r, w')) (T : ai_H) : ai_ev D1 mf_soonest 0 [some (.ref 0), some (.int x1501), some (.int x1502)] [] (HX w T) 0 0 (some (.int r), HX w' T) := by
  unfold Ff_soonest_0 at h
  refine ev_go 3 (pc' := 5) (L' := [some (.ref 0), some (.int x1501), some (.int x1502)]) (st' := [.int x1501, .ref 1]) (h' := (HX w T)) (cs' := 0) (sl' := 0) rfl ?_
  obtain ⟨c1503, hq, h⟩ := ai_bdE h
  refine ev_call (M' := msea_hasPlace) (L' := [some (.ref 1), some (.int x1501)]) (rest := []) (rv := some (.int c1503.1)) (h' := (HX c1503.2 T)) rfl (Esea_hasPlace_1 x1501 w _ _ hq T) ?_
  show ai_ev D1 mf_soonest 8 [some (.ref 0), some (.int x1501), some (.int x1502)] [.int c1503.1] (HX c1503.2 T) 0 0 _
  rcases ai_ifE h with ⟨hc, h⟩ | ⟨hc, h⟩
  · refine ev_if_eq (t := 22) rfl rfl (fun _ => ?_) (fun c9 => absurd hc c9)
    refine ev_go 2 (pc' := 25) (L' := [some (.ref 0), some (.int x1501), some (.int x1502)]) (st' := [.int (-2), .ref 0]) (h' := (HX c1503.2 T)) (cs' := 0) (sl' := 0) rfl ?_
    obtain ⟨c1504, hq, h⟩ := ai_bdE h
    refine ev_call (M' := mf_bad) (L' := [some (.ref 0), some (.int (-2))]) (rest := []) (rv := some (.int c1504.1)) (h' := (HX c1504.2 T)) rfl (Ef_bad_0 (-2) c1503.2 _ _ hq T) ?_
    show ai_ev D1 mf_soonest 28 [some (.ref 0), some (.int x1501), some (.int x1502)] [.int c1504.1] (HX c1504.2 T) 0 0 _
    obtain ⟨rfl, rfl⟩ := ai_smP h
    exact ev_end rfl
  · refine ev_if_eq (t := 22) rfl rfl (fun c9 => absurd c9 hc) (fun _ => ?_)
    refine ev_go 3 (pc' := 16) (L' := [some (.ref 0), some (.int x1501), some (.int x1502)]) (st' := [.int x1502, .ref 1]) (h' := (HX c1503.2 T)) (cs' := 0) (sl' := 0) rfl ?_
    obtain ⟨c1505, hq, h⟩ := ai_bdE h
    refine ev_call (M' := msea_hasPlace) (L' := [some (.ref 1), some (.int x1502)]) (rest := []) (rv := some (.int c1505.1)) (h' := (HX c1505.2 T)) rfl (Esea_hasPlace_1 x1502 c1503.2 _ _ hq T) ?_
    show ai_ev D1 mf_soonest 19 [some (.ref 0), some (.int x1501), some (.int x1502)] [.int c1505.1] (HX c1505.2 T) 0 0 _
    rcases ai_ifE h with ⟨hc, h⟩ | ⟨hc, h⟩
    · refine ev_if_ne (t := 29) rfl rfl (fun c9 => absurd hc c9) (fun _ => ?_)
      refine ev_go 2 (pc' := 25) (L' := [some (.ref 0), some (.int x1501), some (.int x1502)]) (st' := [.int (-2), .ref 0]) (h' := (HX c1505.2 T)) (cs' := 0) (sl' := 0) rfl ?_
      obtain ⟨c1547, hq, h⟩ := ai_bdE h
      refine ev_call (M' := mf_bad) (L' := [some (.ref 0), some (.int (-2))]) (rest := []) (rv := some (.int c1547.1)) (h' := (HX c1547.2 T)) rfl (Ef_bad_0 (-2) c1505.2 _ _ hq T) ?_
      show ai_ev D1 mf_soonest 28 [some (.ref 0), some (.int x1501), some (.int x1502)] [.int c1547.1] (HX c1547.2 T) 0 0 _
      obtain ⟨rfl, rfl⟩ := ai_smP h
      exact ev_end rfl
    · refine ev_if_ne (t := 29) rfl rfl (fun _ => ?_) (fun c9 => absurd c9 hc)
      refine ev_go 6 (pc' := 39) (L' := [some (.ref 0), some (.int x1501), some (.int x1502)]) (st' := [.int x1502, .int x1501, .ref 1, .ref 86]) (h' := (HX c1505.2 T)) (cs' := 0) (sl' := 0) rfl ?_
      obtain ⟨c1546, hq, h⟩ := ai_bdE h
      refine ev_call (M' := mway_soonestWay) (L' := [some (.ref 86), some (.ref 1), some (.int x1501), some (.int x1502), none]) (rest := []) (rv := some (.int c1546.1)) (h' := (HX c1546.2 T)) rfl (Eway_soonestWay_86_1 n x1501 x1502 c1505.2 _ _ hq T) ?_
      show ai_ev D1 mf_soonest 42 [some (.ref 0), some (.int x1501), some (.int x1502)] [.int c1546.1] (HX c1546.2 T) 0 0 _
      obtain ⟨rfl, rfl⟩ := ai_smP h
      exact ev_end rfl
set_option maxHeartbeats 40000000 in
set_option maxRecDepth 100000 in
theorem EGsea_ceilingOf_1 : ∀ n : Nat, (∀ (y1556 : Int32) (y1557 : Int32) (y1558 : Int32) (y1559 : Int32) (y1560 : Int32) (w : WX) (r : Int32) (w' : WX), Gsea_ceilingOf_1 n 0 y1556 y1557 y1558 y1559 y1560 w = some (r, w') → ∀ (T : ai_H) (o6 o7 : Option Value), ai_ev D1 msea_ceilingOf 15 [some (.ref 1), some (.int y1556), some (.int y1557), some (.int y1558), some (.int y1559), some (.int y1560), o6, o7] [] (HX w T) 0 0 (some (.int r), HX w' T)) := by
  intro n
  induction n with
  | zero =>
    exact (fun _ _ _ _ _ _ _ _ h => by cases h)
  | succ n ih0 =>
    intro y1556 y1557 y1558 y1559 y1560 w r w' h T o6 o7
    simp only [Gsea_ceilingOf_1] at h
    refine ev_go 3 (pc' := 21) (L' := [some (.ref 1), some (.int y1556), some (.int y1557), some (.int y1558), some (.int y1559), some (.int y1560), o6, o7]) (st' := [.int (a_s1_towns w), .int y1560]) (h' := (HX w T)) (cs' := 0) (sl' := 0) rfl ?_
    rcases ai_ifE h with ⟨hc, h⟩ | ⟨hc, h⟩
    · refine ev_ic_ge (t := 83) rfl rfl (fun _ => ?_) (fun c9 => absurd hc c9)
      refine ev_go 1 (pc' := 84) (L' := [some (.ref 1), some (.int y1556), some (.int y1557), some (.int y1558), some (.int y1559), some (.int y1560), o6, o7]) (st' := [.int y1558]) (h' := (HX w T)) (cs' := 0) (sl' := 0) rfl ?_
      obtain ⟨rfl, rfl⟩ := ai_smP h
      exact ev_end rfl
    · refine ev_ic_ge (t := 83) rfl rfl (fun c9 => absurd c9 hc) (fun _ => ?_)
      refine ev_go 3 (pc' := 30) (L' := [some (.ref 1), some (.int y1556), some (.int y1557), some (.int y1558), some (.int y1559), some (.int y1560), o6, o7]) (st' := [.int y1560, .ref 16]) (h' := (HX w T)) (cs' := 0) (sl' := 0) rfl ?_
      obtain ⟨v1561, hq, h⟩ := ai_bdE h
      refine ev_iald rfl rfl hq ?_
      refine ev_go 7 (pc' := 42) (L' := [some (.ref 1), some (.int y1556), some (.int y1557), some (.int y1558), some (.int y1559), some (.int y1560), some (.int v1561), o7]) (st' := [.int (y1557 / 10), .int (v1561 / 10)]) (h' := (HX w T)) (cs' := 0) (sl' := 0) rfl ?_
      rcases ai_ifE h with ⟨hc, h⟩ | ⟨hc, h⟩
      · refine ev_ic_ne (t := 55) rfl rfl (fun c9 => absurd hc c9) (fun _ => ?_)
        refine ev_go 2 (pc' := 48) (L' := [some (.ref 1), some (.int y1556), some (.int y1557), some (.int y1558), some (.int y1559), some (.int y1560), some (.int v1561), o7]) (st' := [.int y1557, .int v1561]) (h' := (HX w T)) (cs' := 0) (sl' := 0) rfl ?_
        rcases ai_ifE h with ⟨hc, h⟩ | ⟨hc, h⟩
        · refine ev_ic_ge (t := 55) rfl rfl (fun _ => ?_) (fun c9 => absurd hc c9)
          refine ev_go 6 (pc' := 15) (L' := [some (.ref 1), some (.int y1556), some (.int y1557), some (.int y1558), some (.int y1559), some (.int (y1560 + 1)), some (.int v1561), some (.int 0)]) (st' := []) (h' := (HX w T)) (cs' := 0) (sl' := 0) rfl ?_
          exact ih0 _ _ _ _ _ _ _ _ h T _ _
        · refine ev_ic_ge (t := 55) rfl rfl (fun c9 => absurd c9 hc) (fun _ => ?_)
          refine ev_go 7 (pc' := 67) (L' := [some (.ref 1), some (.int y1556), some (.int y1557), some (.int y1558), some (.int y1559), some (.int y1560), some (.int v1561), some (.int 1)]) (st' := [.int y1559, .int v1561]) (h' := (HX w T)) (cs' := 0) (sl' := 0) rfl ?_
          rcases ai_ifE h with ⟨hc, h⟩ | ⟨hc, h⟩
          · refine ev_ic_le (t := 77) rfl rfl (fun _ => ?_) (fun c9 => absurd hc c9)
            refine ev_go 2 (pc' := 15) (L' := [some (.ref 1), some (.int y1556), some (.int y1557), some (.int y1558), some (.int y1559), some (.int (y1560 + 1)), some (.int v1561), some (.int 1)]) (st' := []) (h' := (HX w T)) (cs' := 0) (sl' := 0) rfl ?_
            exact ih0 _ _ _ _ _ _ _ _ h T _ _
          · refine ev_ic_le (t := 77) rfl rfl (fun c9 => absurd c9 hc) (fun _ => ?_)
            refine ev_go 6 (pc' := 15) (L' := [some (.ref 1), some (.int y1556), some (.int y1557), some (.int y1560), some (.int v1561), some (.int (y1560 + 1)), some (.int v1561), some (.int 1)]) (st' := []) (h' := (HX w T)) (cs' := 0) (sl' := 0) rfl ?_
            exact ih0 _ _ _ _ _ _ _ _ h T _ _
      · refine ev_ic_ne (t := 55) rfl rfl (fun _ => ?_) (fun c9 => absurd c9 hc)
        refine ev_go 6 (pc' := 15) (L' := [some (.ref 1), some (.int y1556), some (.int y1557), some (.int y1558), some (.int y1559), some (.int (y1560 + 1)), some (.int v1561), some (.int 0)]) (st' := []) (h' := (HX w T)) (cs' := 0) (sl' := 0) rfl ?_
        exact ih0 _ _ _ _ _ _ _ _ h T _ _
set_option maxHeartbeats 40000000 in
set_option maxRecDepth 100000 in
theorem Esea_ceilingOf_1 (n : Nat) (x1554 : Int32) (w : WX) (r : Int32) (w' : WX) (h : Fsea_ceilingOf_1 n x1554 w = some (r, w')) (T : ai_H) : ai_ev D1 msea_ceilingOf 0 [some (.ref 1), some (.int x1554), none, none, none, none, none, none] [] (HX w T) 0 0 (some (.int r), HX w' T) := by
  unfold Fsea_ceilingOf_1 at h
  have ih0 := EGsea_ceilingOf_1 n
  refine ev_go 3 (pc' := 5) (L' := [some (.ref 1), some (.int x1554), none, none, none, none, none, none]) (st' := [.int x1554, .ref 16]) (h' := (HX w T)) (cs' := 0) (sl' := 0) rfl ?_
  obtain ⟨v1555, hq, h⟩ := ai_bdE h
  refine ev_iald rfl rfl hq ?_
  refine ev_go 7 (pc' := 15) (L' := [some (.ref 1), some (.int x1554), some (.int v1555), some (.int (-1)), some (.int (-1)), some (.int 0), none, none]) (st' := []) (h' := (HX w T)) (cs' := 0) (sl' := 0) rfl ?_
  exact ih0 _ _ _ _ _ _ _ _ h T _ _
