set_option maxHeartbeats 40000000 in
set_option maxRecDepth 100000 in
theorem Ef_isSpill_0 (x1401 : Int32) (x1402 : Int32) (x1403 : Int32) (w : WX) (r : Int32) (w' : WX) (h : Ff_isSpill_0 x1401 x1402 x1403 w = some (r, w')) (T : ai_H) : ai_ev D1 mf_isSpill 0 [some (.ref 0), some (.int x1401), some (.int x1402), some (.int x1403)] [] (HX w T) 0 0 (some (.int r), HX w' T) := by
  unfold Ff_isSpill_0 at h
  refine ev_go 3 (pc' := 5) (L' := [some (.ref 0), some (.int x1401), some (.int x1402), some (.int x1403)]) (st' := [.int x1401, .ref 1]) (h' := (HX w T)) (cs' := 0) (sl' := 0) rfl ?_
  obtain ⟨c1404, hq, h⟩ := ai_bdE h
  refine ev_call (M' := msea_hasCell) (L' := [some (.ref 1), some (.int x1401)]) (rest := []) (rv := some (.int c1404.1)) (h' := (HX c1404.2 T)) rfl (Esea_hasCell_1 x1401 w _ _ hq T) ?_
  show ai_ev D1 mf_isSpill 8 [some (.ref 0), some (.int x1401), some (.int x1402), some (.int x1403)] [.int c1404.1] (HX c1404.2 T) 0 0 _
  rcases ai_ifE h with ⟨hc, h⟩ | ⟨hc, h⟩
  · refine ev_if_eq (t := 36) rfl rfl (fun _ => ?_) (fun c9 => absurd hc c9)
    refine ev_go 1 (pc' := 37) (L' := [some (.ref 0), some (.int x1401), some (.int x1402), some (.int x1403)]) (st' := [.int 0]) (h' := (HX c1404.2 T)) (cs' := 0) (sl' := 0) rfl ?_
    obtain ⟨rfl, rfl⟩ := ai_smP h
    exact ev_end rfl
  · refine ev_if_eq (t := 36) rfl rfl (fun c9 => absurd c9 hc) (fun _ => ?_)
    refine ev_go 3 (pc' := 16) (L' := [some (.ref 0), some (.int x1401), some (.int x1402), some (.int x1403)]) (st' := [.int 999, .int 0, .int x1402]) (h' := (HX c1404.2 T)) (cs' := 0) (sl' := 0) rfl ?_
    obtain ⟨c1405, hq, h⟩ := ai_bdE h
    refine ev_call (M' := mf_within) (L' := [some (.int x1402), some (.int 0), some (.int 999)]) (rest := []) (rv := some (.int c1405)) (h' := (HX c1404.2 T)) rfl (Ef_within x1402 0 999 _ hq (HX c1404.2 T)) ?_
    show ai_ev D1 mf_isSpill 19 [some (.ref 0), some (.int x1401), some (.int x1402), some (.int x1403)] [.int c1405] (HX c1404.2 T) 0 0 _
    rcases ai_ifE h with ⟨hc, h⟩ | ⟨hc, h⟩
    · refine ev_if_eq (t := 36) rfl rfl (fun _ => ?_) (fun c9 => absurd hc c9)
      refine ev_go 1 (pc' := 37) (L' := [some (.ref 0), some (.int x1401), some (.int x1402), some (.int x1403)]) (st' := [.int 0]) (h' := (HX c1404.2 T)) (cs' := 0) (sl' := 0) rfl ?_
      obtain ⟨rfl, rfl⟩ := ai_smP h
      exact ev_end rfl
    · refine ev_if_eq (t := 36) rfl rfl (fun c9 => absurd c9 hc) (fun _ => ?_)
      refine ev_go 3 (pc' := 26) (L' := [some (.ref 0), some (.int x1401), some (.int x1402), some (.int x1403)]) (st' := [.int 40, .int 0, .int x1403]) (h' := (HX c1404.2 T)) (cs' := 0) (sl' := 0) rfl ?_
      obtain ⟨c1406, hq, h⟩ := ai_bdE h
      refine ev_call (M' := mf_within) (L' := [some (.int x1403), some (.int 0), some (.int 40)]) (rest := []) (rv := some (.int c1406)) (h' := (HX c1404.2 T)) rfl (Ef_within x1403 0 40 _ hq (HX c1404.2 T)) ?_
      show ai_ev D1 mf_isSpill 29 [some (.ref 0), some (.int x1401), some (.int x1402), some (.int x1403)] [.int c1406] (HX c1404.2 T) 0 0 _
      rcases ai_ifE h with ⟨hc, h⟩ | ⟨hc, h⟩
      · refine ev_if_eq (t := 36) rfl rfl (fun _ => ?_) (fun c9 => absurd hc c9)
        refine ev_go 1 (pc' := 37) (L' := [some (.ref 0), some (.int x1401), some (.int x1402), some (.int x1403)]) (st' := [.int 0]) (h' := (HX c1404.2 T)) (cs' := 0) (sl' := 0) rfl ?_
        obtain ⟨rfl, rfl⟩ := ai_smP h
        exact ev_end rfl
      · refine ev_if_eq (t := 36) rfl rfl (fun c9 => absurd c9 hc) (fun _ => ?_)
        refine ev_go 2 (pc' := 37) (L' := [some (.ref 0), some (.int x1401), some (.int x1402), some (.int x1403)]) (st' := [.int 1]) (h' := (HX c1404.2 T)) (cs' := 0) (sl' := 0) rfl ?_
        obtain ⟨rfl, rfl⟩ := ai_smP h
        exact ev_end rfl
set_option maxHeartbeats 40000000 in
set_option maxRecDepth 100000 in
theorem EGarr_fill_84 : ∀ n : Nat, (∀ (y1413 : Int32) (y1414 : Int32) (y1415 : Int32) (w : WX) (w' : WX), Garr_fill_84 n 0 y1413 y1414 y1415 w = some w' → ∀ (T : ai_H), ai_ev D1 marr_fill 5 [some (.ref 84), some (.int y1413), some (.int y1414), some (.int y1415)] [] (HX w T) 0 0 (none, HX w' T)) := by
  intro n
  induction n with
  | zero =>
    exact (fun _ _ _ _ _ h => by cases h)
  | succ n ih0 =>
    intro y1413 y1414 y1415 w w' h T
    simp only [Garr_fill_84] at h
    refine ev_go 2 (pc' := 7) (L' := [some (.ref 84), some (.int y1413), some (.int y1414), some (.int y1415)]) (st' := [.int y1415, .int y1414]) (h' := (HX w T)) (cs' := 0) (sl' := 0) rfl ?_
    rcases ai_ifE h with ⟨hc, h⟩ | ⟨hc, h⟩
    · refine ev_ic_ge (t := 20) rfl rfl (fun _ => ?_) (fun c9 => absurd hc c9)
      obtain rfl := Option.some.inj h
      exact ev_end rfl
    · refine ev_ic_ge (t := 20) rfl rfl (fun c9 => absurd c9 hc) (fun _ => ?_)
      refine ev_go 3 (pc' := 13) (L' := [some (.ref 84), some (.int y1413), some (.int y1414), some (.int y1415)]) (st' := [.int y1413, .int y1414, .ref 84]) (h' := (HX w T)) (cs' := 0) (sl' := 0) rfl ?_
      obtain ⟨q1416, hq, h⟩ := ai_bdE h
      refine ev_iast rfl rfl hq ?_
      show ai_ev D1 marr_fill 14 [some (.ref 84), some (.int y1413), some (.int y1414), some (.int y1415)] [] (HX (u_spread_amounts w q1416) T) 0 0 _
      refine ev_go 2 (pc' := 5) (L' := [some (.ref 84), some (.int y1413), some (.int (y1414 + 1)), some (.int y1415)]) (st' := []) (h' := (HX (u_spread_amounts w q1416) T)) (cs' := 0) (sl' := 0) rfl ?_
      exact ih0 _ _ _ _ _ h T
set_option maxHeartbeats 40000000 in
set_option maxRecDepth 100000 in
theorem Earr_fill_84 (n : Nat) (x1412 : Int32) (w : WX) (w' : WX) (h : Farr_fill_84 n x1412 w = some w') (T : ai_H) : ai_ev D1 marr_fill 0 [some (.ref 84), some (.int x1412), none, none] [] (HX w T) 0 0 (none, HX w' T) := by
  unfold Farr_fill_84 at h
  have ih0 := EGarr_fill_84 n
  refine ev_go 5 (pc' := 5) (L' := [some (.ref 84), some (.int x1412), some (.int 0), some (.int (Int32.ofNat (List.length (a_spread_amounts w))))]) (st' := []) (h' := (HX w T)) (cs' := 0) (sl' := 0) rfl ?_
  exact ih0 _ _ _ _ _ h T
set_option maxHeartbeats 40000000 in
set_option maxRecDepth 100000 in
theorem Espr_start_83 (n : Nat) (x1410 : Int32) (x1411 : Int32) (w : WX) (w' : WX) (h : Fspr_start_83 n x1410 x1411 w = some w') (T : ai_H) : ai_ev D1 mspr_start 0 [some (.ref 83), some (.int x1410), some (.int x1411)] [] (HX w T) 0 0 (none, HX w' T) := by
  unfold Fspr_start_83 at h
  refine ev_go 3 (pc' := 5) (L' := [some (.ref 83), some (.int x1410), some (.int x1411)]) (st' := [.int 0, .ref 84]) (h' := (HX w T)) (cs' := 0) (sl' := 0) rfl ?_
  obtain ⟨c1417, hq, h⟩ := ai_bdE h
  refine ev_call (M' := marr_fill) (L' := [some (.ref 84), some (.int 0), none, none]) (rest := []) (rv := none) (h' := (HX c1417 T)) rfl (Earr_fill_84 n 0 w _ hq T) ?_
  show ai_ev D1 mspr_start 8 [some (.ref 83), some (.int x1410), some (.int x1411)] [] (HX c1417 T) 0 0 _
  refine ev_go 4 (pc' := 14) (L' := [some (.ref 83), some (.int x1410), some (.int x1411)]) (st' := [.int x1411, .int x1410, .ref 84]) (h' := (HX c1417 T)) (cs' := 0) (sl' := 0) rfl ?_
  obtain ⟨q1418, hq, h⟩ := ai_bdE h
  refine ev_iast rfl rfl hq ?_
  show ai_ev D1 mspr_start 15 [some (.ref 83), some (.int x1410), some (.int x1411)] [] (HX (u_spread_amounts c1417 q1418) T) 0 0 _
  obtain rfl := Option.some.inj h
  exact ev_end rfl
set_option maxHeartbeats 40000000 in
set_option maxRecDepth 100000 in
theorem EGspr_goOn_83 : ∀ n : Nat, (∀ (y1429 : Int32) (y1430 : Int32) (y1431 : Int32) (w : WX) (w' : WX), Gspr_goOn_83 n 0 y1429 y1430 y1431 w = some w' → ∀ (T : ai_H), ai_ev D1 mspr_goOn 2 [some (.ref 83), some (.int y1429), some (.int y1430), some (.int y1431)] [] (HX w T) 0 0 (none, HX w' T)) ∧ (∀ (y1434 : Int32) (y1435 : Int32) (y1436 : Int32) (w : WX) (w' : WX), Gspr_goOn_83 n 1 y1434 y1435 y1436 w = some w' → ∀ (T : ai_H), ai_ev D1 mspr_goOn 29 [some (.ref 83), some (.int y1434), some (.int y1435), some (.int y1436)] [] (HX w T) 0 0 (none, HX w' T)) := by
  intro n
  induction n with
  | zero =>
    exact ⟨(fun _ _ _ _ _ h => by cases h), (fun _ _ _ _ _ h => by cases h)⟩
  | succ n ih =>
    obtain ⟨ih0, ih1⟩ := ih
    refine ⟨?_, ?_⟩
    · intro y1429 y1430 y1431 w w' h T
      simp only [Gspr_goOn_83] at h
      refine ev_go 2 (pc' := 4) (L' := [some (.ref 83), some (.int y1429), some (.int y1430), some (.int y1431)]) (st' := [.int y1429, .int y1431]) (h' := (HX w T)) (cs' := 0) (sl' := 0) rfl ?_
      rcases ai_ifE h with ⟨hc, h⟩ | ⟨hc, h⟩
      · refine ev_ic_ge (t := 27) rfl rfl (fun _ => ?_) (fun c9 => absurd hc c9)
        refine ev_go 2 (pc' := 29) (L' := [some (.ref 83), some (.int y1429), some (.int y1430), some (.int 0)]) (st' := []) (h' := (HX w T)) (cs' := 0) (sl' := 0) rfl ?_
        exact ih1 _ _ _ _ _ h T
      · refine ev_ic_ge (t := 27) rfl rfl (fun c9 => absurd c9 hc) (fun _ => ?_)
        refine ev_go 6 (pc' := 17) (L' := [some (.ref 83), some (.int y1429), some (.int y1430), some (.int y1431)]) (st' := [.int y1431, .ref 84, .int y1431, .ref 85]) (h' := (HX w T)) (cs' := 0) (sl' := 0) rfl ?_
        obtain ⟨v1432, hq, h⟩ := ai_bdE h
        refine ev_iald rfl rfl hq ?_
        refine ev_go 2 (pc' := 20) (L' := [some (.ref 83), some (.int y1429), some (.int y1430), some (.int y1431)]) (st' := [.int (v1432 / 4), .int y1431, .ref 85]) (h' := (HX w T)) (cs' := 0) (sl' := 0) rfl ?_
        obtain ⟨q1433, hq, h⟩ := ai_bdE h
        refine ev_iast rfl rfl hq ?_
        show ai_ev D1 mspr_goOn 21 [some (.ref 83), some (.int y1429), some (.int y1430), some (.int y1431)] [] (HX (u_spread_gifts w q1433) T) 0 0 _
        refine ev_go 2 (pc' := 2) (L' := [some (.ref 83), some (.int y1429), some (.int y1430), some (.int (y1431 + 1))]) (st' := []) (h' := (HX (u_spread_gifts w q1433) T)) (cs' := 0) (sl' := 0) rfl ?_
        exact ih0 _ _ _ _ _ h T
    · intro y1434 y1435 y1436 w w' h T
      simp only [Gspr_goOn_83] at h
      refine ev_go 4 (pc' := 33) (L' := [some (.ref 83), some (.int y1434), some (.int y1435), some (.int y1436)]) (st' := [.int (y1434 - 1), .int y1436]) (h' := (HX w T)) (cs' := 0) (sl' := 0) rfl ?_
      rcases ai_ifE h with ⟨hc, h⟩ | ⟨hc, h⟩
      · refine ev_ic_ge (t := 100) rfl rfl (fun _ => ?_) (fun c9 => absurd hc c9)
        obtain rfl := Option.some.inj h
        exact ev_end rfl
      · refine ev_ic_ge (t := 100) rfl rfl (fun c9 => absurd c9 hc) (fun _ => ?_)
        refine ev_go 5 (pc' := 41) (L' := [some (.ref 83), some (.int y1434), some (.int y1435), some (.int y1436)]) (st' := [.int ((y1435 >>> (y1436 &&& 31)) &&& 1)]) (h' := (HX w T)) (cs' := 0) (sl' := 0) rfl ?_
        rcases ai_ifE h with ⟨hc, h⟩ | ⟨hc, h⟩
        · refine ev_if_ne (t := 94) rfl rfl (fun c9 => absurd hc c9) (fun _ => ?_)
          refine ev_go 4 (pc' := 50) (L' := [some (.ref 83), some (.int y1434), some (.int y1435), some (.int y1436)]) (st' := [.int y1436, .ref 84, .int y1436, .ref 84]) (h' := (HX w T)) (cs' := 0) (sl' := 0) rfl ?_
          obtain ⟨v1437, hq, h⟩ := ai_bdE h
          refine ev_iald rfl rfl hq ?_
          refine ev_go 5 (pc' := 58) (L' := [some (.ref 83), some (.int y1434), some (.int y1435), some (.int y1436)]) (st' := [.int (y1436 + 1), .ref 85, .int v1437, .int y1436, .ref 84]) (h' := (HX w T)) (cs' := 0) (sl' := 0) rfl ?_
          obtain ⟨v1438, hq, h⟩ := ai_bdE h
          refine ev_iald rfl rfl hq ?_
          refine ev_go 3 (pc' := 64) (L' := [some (.ref 83), some (.int y1434), some (.int y1435), some (.int y1436)]) (st' := [.int y1436, .ref 85, .int v1438, .int v1437, .int y1436, .ref 84]) (h' := (HX w T)) (cs' := 0) (sl' := 0) rfl ?_
          obtain ⟨v1439, hq, h⟩ := ai_bdE h
          refine ev_iald rfl rfl hq ?_
          refine ev_go 2 (pc' := 67) (L' := [some (.ref 83), some (.int y1434), some (.int y1435), some (.int y1436)]) (st' := [.int (v1437 + (v1438 - v1439)), .int y1436, .ref 84]) (h' := (HX w T)) (cs' := 0) (sl' := 0) rfl ?_
          obtain ⟨q1440, hq, h⟩ := ai_bdE h
          refine ev_iast rfl rfl hq ?_
          show ai_ev D1 mspr_goOn 68 [some (.ref 83), some (.int y1434), some (.int y1435), some (.int y1436)] [] (HX (u_spread_amounts w q1440) T) 0 0 _
          refine ev_go 6 (pc' := 76) (L' := [some (.ref 83), some (.int y1434), some (.int y1435), some (.int y1436)]) (st' := [.int (y1436 + 1), .ref 84, .int (y1436 + 1), .ref 84]) (h' := (HX (u_spread_amounts w q1440) T)) (cs' := 0) (sl' := 0) rfl ?_
          obtain ⟨v1441, hq, h⟩ := ai_bdE h
          refine ev_iald rfl rfl hq ?_
          refine ev_go 3 (pc' := 82) (L' := [some (.ref 83), some (.int y1434), some (.int y1435), some (.int y1436)]) (st' := [.int y1436, .ref 85, .int v1441, .int (y1436 + 1), .ref 84]) (h' := (HX (u_spread_amounts w q1440) T)) (cs' := 0) (sl' := 0) rfl ?_
          obtain ⟨v1442, hq, h⟩ := ai_bdE h
          refine ev_iald rfl rfl hq ?_
          refine ev_go 5 (pc' := 90) (L' := [some (.ref 83), some (.int y1434), some (.int y1435), some (.int y1436)]) (st' := [.int (y1436 + 1), .ref 85, .int v1442, .int v1441, .int (y1436 + 1), .ref 84]) (h' := (HX (u_spread_amounts w q1440) T)) (cs' := 0) (sl' := 0) rfl ?_
          obtain ⟨v1443, hq, h⟩ := ai_bdE h
          refine ev_iald rfl rfl hq ?_
          refine ev_go 2 (pc' := 93) (L' := [some (.ref 83), some (.int y1434), some (.int y1435), some (.int y1436)]) (st' := [.int (v1441 + (v1442 - v1443)), .int (y1436 + 1), .ref 84]) (h' := (HX (u_spread_amounts w q1440) T)) (cs' := 0) (sl' := 0) rfl ?_
          obtain ⟨q1444, hq, h⟩ := ai_bdE h
          refine ev_iast rfl rfl hq ?_
          show ai_ev D1 mspr_goOn 94 [some (.ref 83), some (.int y1434), some (.int y1435), some (.int y1436)] [] (HX (u_spread_amounts w q1444) T) 0 0 _
          refine ev_go 2 (pc' := 29) (L' := [some (.ref 83), some (.int y1434), some (.int y1435), some (.int (y1436 + 1))]) (st' := []) (h' := (HX (u_spread_amounts w q1444) T)) (cs' := 0) (sl' := 0) rfl ?_
          exact ih1 _ _ _ _ _ h T
        · refine ev_if_ne (t := 94) rfl rfl (fun _ => ?_) (fun c9 => absurd c9 hc)
          refine ev_go 2 (pc' := 29) (L' := [some (.ref 83), some (.int y1434), some (.int y1435), some (.int (y1436 + 1))]) (st' := []) (h' := (HX w T)) (cs' := 0) (sl' := 0) rfl ?_
          exact ih1 _ _ _ _ _ h T
set_option maxHeartbeats 40000000 in
set_option maxRecDepth 100000 in
theorem Espr_goOn_83 (n : Nat) (x1427 : Int32) (x1428 : Int32) (w : WX) (w' : WX) (h : Fspr_goOn_83 n x1427 x1428 w = some w') (T : ai_H) : ai_ev D1 mspr_goOn 0 [some (.ref 83), some (.int x1427), some (.int x1428), none] [] (HX w T) 0 0 (none, HX w' T) := by
  unfold Fspr_goOn_83 at h
  obtain ⟨ih0, ih1⟩ := EGspr_goOn_83 n
  refine ev_go 2 (pc' := 2) (L' := [some (.ref 83), some (.int x1427), some (.int x1428), some (.int 0)]) (st' := []) (h' := (HX w T)) (cs' := 0) (sl' := 0) rfl ?_
  exact ih0 _ _ _ _ _ h T
set_option maxHeartbeats 40000000 in
set_option maxRecDepth 100000 in
theorem EGf_spill_0 : ∀ n : Nat, (∀ (y1421 : Int32) (y1422 : Int32) (y1423 : Int32) (y1424 : Int32) (y1425 : Int32) (w : WX) (r : Int32) (w' : WX), Gf_spill_0 n 0 y1421 y1422 y1423 y1424 y1425 w = some (r, w') → ∀ (T : ai_H), ai_ev D1 mf_spill 41 [some (.ref 0), some (.int y1421), some (.int y1422), some (.int y1423), some (.int y1424), some (.int y1425)] [] (HX w T) 0 0 (some (.int r), HX w' T)) := by
  intro n
  induction n with
  | zero =>
    exact (fun _ _ _ _ _ _ _ _ h => by cases h)
  | succ n ih0 =>
    intro y1421 y1422 y1423 y1424 y1425 w r w' h T
    simp only [Gf_spill_0] at h
    refine ev_go 2 (pc' := 44) (L' := [some (.ref 0), some (.int y1421), some (.int y1422), some (.int y1423), some (.int y1424), some (.int y1425)]) (st' := [.int y1423, .int y1425]) (h' := (HX w T)) (cs' := 0) (sl' := 0) rfl ?_
    rcases ai_ifE h with ⟨hc, h⟩ | ⟨hc, h⟩
    · refine ev_ic_ge (t := 74) rfl rfl (fun _ => ?_) (fun c9 => absurd hc c9)
      refine ev_go 4 (pc' := 83) (L' := [some (.ref 0), some (.int y1421), some (.int y1422), some (.int y1423), some (.int y1424), some (.int y1425)]) (st' := [.int y1424, .ref 84]) (h' := (HX w T)) (cs' := 0) (sl' := 0) rfl ?_
      obtain ⟨v1426, hq, h⟩ := ai_bdE h
      refine ev_iald rfl rfl hq ?_
      obtain ⟨rfl, rfl⟩ := ai_smP h
      exact ev_end rfl
    · refine ev_ic_ge (t := 74) rfl rfl (fun c9 => absurd c9 hc) (fun _ => ?_)
      refine ev_go 8 (pc' := 65) (L' := [some (.ref 0), some (.int y1421), some (.int y1422), some (.int y1423), some (.int y1424), some (.int y1425)]) (st' := [.int (a_s1_dams w), .int (a_s1_cells w), .ref 83]) (h' := (HX w T)) (cs' := 0) (sl' := 0) rfl ?_
      obtain ⟨c1445, hq, h⟩ := ai_bdE h
      refine ev_call (M' := mspr_goOn) (L' := [some (.ref 83), some (.int (a_s1_cells w)), some (.int (a_s1_dams w)), none]) (rest := []) (rv := none) (h' := (HX c1445 T)) rfl (Espr_goOn_83 n (a_s1_cells w) (a_s1_dams w) w _ hq T) ?_
      show ai_ev D1 mf_spill 68 [some (.ref 0), some (.int y1421), some (.int y1422), some (.int y1423), some (.int y1424), some (.int y1425)] [] (HX c1445 T) 0 0 _
      refine ev_go 2 (pc' := 41) (L' := [some (.ref 0), some (.int y1421), some (.int y1422), some (.int y1423), some (.int y1424), some (.int (y1425 + 1))]) (st' := []) (h' := (HX c1445 T)) (cs' := 0) (sl' := 0) rfl ?_
      exact ih0 _ _ _ _ _ _ _ _ h T
set_option maxHeartbeats 40000000 in
set_option maxRecDepth 100000 in
theorem Ef_spill_0 (n : Nat) (x1397 : Int32) (x1398 : Int32) (x1399 : Int32) (x1400 : Int32) (w : WX) (r : Int32) (w' : WX) (h : Ff_spill_0 n x1397 x1398 x1399 x1400 w = some (r, w')) (T : ai_H) : ai_ev D1 mf_spill 0 [some (.ref 0), some (.int x1397), some (.int x1398), some (.int x1399), some (.int x1400), none] [] (HX w T) 0 0 (some (.int r), HX w' T) := by
  unfold Ff_spill_0 at h
  have ih0 := EGf_spill_0 n
  refine ev_go 4 (pc' := 4) (L' := [some (.ref 0), some (.int x1397), some (.int x1398), some (.int x1399), some (.int x1400), none]) (st' := [.int x1399, .int x1398, .int x1397, .ref 0]) (h' := (HX w T)) (cs' := 0) (sl' := 0) rfl ?_
  obtain ⟨c1407, hq, h⟩ := ai_bdE h
  refine ev_call (M' := mf_isSpill) (L' := [some (.ref 0), some (.int x1397), some (.int x1398), some (.int x1399)]) (rest := []) (rv := some (.int c1407.1)) (h' := (HX c1407.2 T)) rfl (Ef_isSpill_0 x1397 x1398 x1399 w _ _ hq T) ?_
  show ai_ev D1 mf_spill 7 [some (.ref 0), some (.int x1397), some (.int x1398), some (.int x1399), some (.int x1400), none] [.int c1407.1] (HX c1407.2 T) 0 0 _
  rcases ai_ifE h with ⟨hc, h⟩ | ⟨hc, h⟩
  · refine ev_if_eq (t := 22) rfl rfl (fun _ => ?_) (fun c9 => absurd hc c9)
    refine ev_go 2 (pc' := 25) (L' := [some (.ref 0), some (.int x1397), some (.int x1398), some (.int x1399), some (.int x1400), none]) (st' := [.int (-2), .ref 0]) (h' := (HX c1407.2 T)) (cs' := 0) (sl' := 0) rfl ?_
    obtain ⟨c1408, hq, h⟩ := ai_bdE h
    refine ev_call (M' := mf_bad) (L' := [some (.ref 0), some (.int (-2))]) (rest := []) (rv := some (.int c1408.1)) (h' := (HX c1408.2 T)) rfl (Ef_bad_0 (-2) c1407.2 _ _ hq T) ?_
    show ai_ev D1 mf_spill 28 [some (.ref 0), some (.int x1397), some (.int x1398), some (.int x1399), some (.int x1400), none] [.int c1408.1] (HX c1408.2 T) 0 0 _
    obtain ⟨rfl, rfl⟩ := ai_smP h
    exact ev_end rfl
  · refine ev_if_eq (t := 22) rfl rfl (fun c9 => absurd c9 hc) (fun _ => ?_)
    refine ev_go 3 (pc' := 16) (L' := [some (.ref 0), some (.int x1397), some (.int x1398), some (.int x1399), some (.int x1400), none]) (st' := [.int x1400, .ref 1]) (h' := (HX c1407.2 T)) (cs' := 0) (sl' := 0) rfl ?_
    obtain ⟨c1409, hq, h⟩ := ai_bdE h
    refine ev_call (M' := msea_hasCell) (L' := [some (.ref 1), some (.int x1400)]) (rest := []) (rv := some (.int c1409.1)) (h' := (HX c1409.2 T)) rfl (Esea_hasCell_1 x1400 c1407.2 _ _ hq T) ?_
    show ai_ev D1 mf_spill 19 [some (.ref 0), some (.int x1397), some (.int x1398), some (.int x1399), some (.int x1400), none] [.int c1409.1] (HX c1409.2 T) 0 0 _
    rcases ai_ifE h with ⟨hc, h⟩ | ⟨hc, h⟩
    · refine ev_if_ne (t := 29) rfl rfl (fun c9 => absurd hc c9) (fun _ => ?_)
      refine ev_go 2 (pc' := 25) (L' := [some (.ref 0), some (.int x1397), some (.int x1398), some (.int x1399), some (.int x1400), none]) (st' := [.int (-2), .ref 0]) (h' := (HX c1409.2 T)) (cs' := 0) (sl' := 0) rfl ?_
      obtain ⟨c1420, hq, h⟩ := ai_bdE h
      refine ev_call (M' := mf_bad) (L' := [some (.ref 0), some (.int (-2))]) (rest := []) (rv := some (.int c1420.1)) (h' := (HX c1420.2 T)) rfl (Ef_bad_0 (-2) c1409.2 _ _ hq T) ?_
      show ai_ev D1 mf_spill 28 [some (.ref 0), some (.int x1397), some (.int x1398), some (.int x1399), some (.int x1400), none] [.int c1420.1] (HX c1420.2 T) 0 0 _
      obtain ⟨rfl, rfl⟩ := ai_smP h
      exact ev_end rfl
    · refine ev_if_ne (t := 29) rfl rfl (fun _ => ?_) (fun c9 => absurd c9 hc)
      refine ev_go 4 (pc' := 35) (L' := [some (.ref 0), some (.int x1397), some (.int x1398), some (.int x1399), some (.int x1400), none]) (st' := [.int x1398, .int x1397, .ref 83]) (h' := (HX c1409.2 T)) (cs' := 0) (sl' := 0) rfl ?_
      obtain ⟨c1419, hq, h⟩ := ai_bdE h
      refine ev_call (M' := mspr_start) (L' := [some (.ref 83), some (.int x1397), some (.int x1398)]) (rest := []) (rv := none) (h' := (HX c1419 T)) rfl (Espr_start_83 n x1397 x1398 c1409.2 _ hq T) ?_
      show ai_ev D1 mf_spill 38 [some (.ref 0), some (.int x1397), some (.int x1398), some (.int x1399), some (.int x1400), none] [] (HX c1419 T) 0 0 _
      refine ev_go 2 (pc' := 41) (L' := [some (.ref 0), some (.int x1397), some (.int x1398), some (.int x1399), some (.int x1400), some (.int 0)]) (st' := []) (h' := (HX c1419 T)) (cs' := 0) (sl' := 0) rfl ?_
      exact ih0 _ _ _ _ _ _ _ _ h T
set_option maxHeartbeats 40000000 in
set_option maxRecDepth 100000 in
theorem Eint_bitCount (x1461 : Int32) (r : Int32) (h : Fint_bitCount x1461 = some r) (hh : ai_H) : ai_ev D1 mint_bitCount 0 [some (.int x1461)] [] hh 0 0 (some (.int r), hh) := by
  unfold Fint_bitCount at h
  refine ev_go 41 (pc' := 52) (L' := [some (.int (((((((x1461 - (((x1461 : Int32).toUInt32 >>> ((1 : Int32).toUInt32 &&& Int32.toUInt32 31)).toInt32 &&& 1431655765)) &&& 858993459) + ((((x1461 - (((x1461 : Int32).toUInt32 >>> ((1 : Int32).toUInt32 &&& Int32.toUInt32 31)).toInt32 &&& 1431655765)) : Int32).toUInt32 >>> ((2 : Int32).toUInt32 &&& Int32.toUInt32 31)).toInt32 &&& 858993459)) + (((((x1461 - (((x1461 : Int32).toUInt32 >>> ((1 : Int32).toUInt32 &&& Int32.toUInt32 31)).toInt32 &&& 1431655765)) &&& 858993459) + ((((x1461 - (((x1461 : Int32).toUInt32 >>> ((1 : Int32).toUInt32 &&& Int32.toUInt32 31)).toInt32 &&& 1431655765)) : Int32).toUInt32 >>> ((2 : Int32).toUInt32 &&& Int32.toUInt32 31)).toInt32 &&& 858993459)) : Int32).toUInt32 >>> ((4 : Int32).toUInt32 &&& Int32.toUInt32 31)).toInt32) &&& 252645135) + (((((((x1461 - (((x1461 : Int32).toUInt32 >>> ((1 : Int32).toUInt32 &&& Int32.toUInt32 31)).toInt32 &&& 1431655765)) &&& 858993459) + ((((x1461 - (((x1461 : Int32).toUInt32 >>> ((1 : Int32).toUInt32 &&& Int32.toUInt32 31)).toInt32 &&& 1431655765)) : Int32).toUInt32 >>> ((2 : Int32).toUInt32 &&& Int32.toUInt32 31)).toInt32 &&& 858993459)) + (((((x1461 - (((x1461 : Int32).toUInt32 >>> ((1 : Int32).toUInt32 &&& Int32.toUInt32 31)).toInt32 &&& 1431655765)) &&& 858993459) + ((((x1461 - (((x1461 : Int32).toUInt32 >>> ((1 : Int32).toUInt32 &&& Int32.toUInt32 31)).toInt32 &&& 1431655765)) : Int32).toUInt32 >>> ((2 : Int32).toUInt32 &&& Int32.toUInt32 31)).toInt32 &&& 858993459)) : Int32).toUInt32 >>> ((4 : Int32).toUInt32 &&& Int32.toUInt32 31)).toInt32) &&& 252645135) : Int32).toUInt32 >>> ((8 : Int32).toUInt32 &&& Int32.toUInt32 31)).toInt32) + ((((((((x1461 - (((x1461 : Int32).toUInt32 >>> ((1 : Int32).toUInt32 &&& Int32.toUInt32 31)).toInt32 &&& 1431655765)) &&& 858993459) + ((((x1461 - (((x1461 : Int32).toUInt32 >>> ((1 : Int32).toUInt32 &&& Int32.toUInt32 31)).toInt32 &&& 1431655765)) : Int32).toUInt32 >>> ((2 : Int32).toUInt32 &&& Int32.toUInt32 31)).toInt32 &&& 858993459)) + (((((x1461 - (((x1461 : Int32).toUInt32 >>> ((1 : Int32).toUInt32 &&& Int32.toUInt32 31)).toInt32 &&& 1431655765)) &&& 858993459) + ((((x1461 - (((x1461 : Int32).toUInt32 >>> ((1 : Int32).toUInt32 &&& Int32.toUInt32 31)).toInt32 &&& 1431655765)) : Int32).toUInt32 >>> ((2 : Int32).toUInt32 &&& Int32.toUInt32 31)).toInt32 &&& 858993459)) : Int32).toUInt32 >>> ((4 : Int32).toUInt32 &&& Int32.toUInt32 31)).toInt32) &&& 252645135) + (((((((x1461 - (((x1461 : Int32).toUInt32 >>> ((1 : Int32).toUInt32 &&& Int32.toUInt32 31)).toInt32 &&& 1431655765)) &&& 858993459) + ((((x1461 - (((x1461 : Int32).toUInt32 >>> ((1 : Int32).toUInt32 &&& Int32.toUInt32 31)).toInt32 &&& 1431655765)) : Int32).toUInt32 >>> ((2 : Int32).toUInt32 &&& Int32.toUInt32 31)).toInt32 &&& 858993459)) + (((((x1461 - (((x1461 : Int32).toUInt32 >>> ((1 : Int32).toUInt32 &&& Int32.toUInt32 31)).toInt32 &&& 1431655765)) &&& 858993459) + ((((x1461 - (((x1461 : Int32).toUInt32 >>> ((1 : Int32).toUInt32 &&& Int32.toUInt32 31)).toInt32 &&& 1431655765)) : Int32).toUInt32 >>> ((2 : Int32).toUInt32 &&& Int32.toUInt32 31)).toInt32 &&& 858993459)) : Int32).toUInt32 >>> ((4 : Int32).toUInt32 &&& Int32.toUInt32 31)).toInt32) &&& 252645135) : Int32).toUInt32 >>> ((8 : Int32).toUInt32 &&& Int32.toUInt32 31)).toInt32) : Int32).toUInt32 >>> ((16 : Int32).toUInt32 &&& Int32.toUInt32 31)).toInt32))]) (st' := [.int ((((((((x1461 - (((x1461 : Int32).toUInt32 >>> ((1 : Int32).toUInt32 &&& Int32.toUInt32 31)).toInt32 &&& 1431655765)) &&& 858993459) + ((((x1461 - (((x1461 : Int32).toUInt32 >>> ((1 : Int32).toUInt32 &&& Int32.toUInt32 31)).toInt32 &&& 1431655765)) : Int32).toUInt32 >>> ((2 : Int32).toUInt32 &&& Int32.toUInt32 31)).toInt32 &&& 858993459)) + (((((x1461 - (((x1461 : Int32).toUInt32 >>> ((1 : Int32).toUInt32 &&& Int32.toUInt32 31)).toInt32 &&& 1431655765)) &&& 858993459) + ((((x1461 - (((x1461 : Int32).toUInt32 >>> ((1 : Int32).toUInt32 &&& Int32.toUInt32 31)).toInt32 &&& 1431655765)) : Int32).toUInt32 >>> ((2 : Int32).toUInt32 &&& Int32.toUInt32 31)).toInt32 &&& 858993459)) : Int32).toUInt32 >>> ((4 : Int32).toUInt32 &&& Int32.toUInt32 31)).toInt32) &&& 252645135) + (((((((x1461 - (((x1461 : Int32).toUInt32 >>> ((1 : Int32).toUInt32 &&& Int32.toUInt32 31)).toInt32 &&& 1431655765)) &&& 858993459) + ((((x1461 - (((x1461 : Int32).toUInt32 >>> ((1 : Int32).toUInt32 &&& Int32.toUInt32 31)).toInt32 &&& 1431655765)) : Int32).toUInt32 >>> ((2 : Int32).toUInt32 &&& Int32.toUInt32 31)).toInt32 &&& 858993459)) + (((((x1461 - (((x1461 : Int32).toUInt32 >>> ((1 : Int32).toUInt32 &&& Int32.toUInt32 31)).toInt32 &&& 1431655765)) &&& 858993459) + ((((x1461 - (((x1461 : Int32).toUInt32 >>> ((1 : Int32).toUInt32 &&& Int32.toUInt32 31)).toInt32 &&& 1431655765)) : Int32).toUInt32 >>> ((2 : Int32).toUInt32 &&& Int32.toUInt32 31)).toInt32 &&& 858993459)) : Int32).toUInt32 >>> ((4 : Int32).toUInt32 &&& Int32.toUInt32 31)).toInt32) &&& 252645135) : Int32).toUInt32 >>> ((8 : Int32).toUInt32 &&& Int32.toUInt32 31)).toInt32) + ((((((((x1461 - (((x1461 : Int32).toUInt32 >>> ((1 : Int32).toUInt32 &&& Int32.toUInt32 31)).toInt32 &&& 1431655765)) &&& 858993459) + ((((x1461 - (((x1461 : Int32).toUInt32 >>> ((1 : Int32).toUInt32 &&& Int32.toUInt32 31)).toInt32 &&& 1431655765)) : Int32).toUInt32 >>> ((2 : Int32).toUInt32 &&& Int32.toUInt32 31)).toInt32 &&& 858993459)) + (((((x1461 - (((x1461 : Int32).toUInt32 >>> ((1 : Int32).toUInt32 &&& Int32.toUInt32 31)).toInt32 &&& 1431655765)) &&& 858993459) + ((((x1461 - (((x1461 : Int32).toUInt32 >>> ((1 : Int32).toUInt32 &&& Int32.toUInt32 31)).toInt32 &&& 1431655765)) : Int32).toUInt32 >>> ((2 : Int32).toUInt32 &&& Int32.toUInt32 31)).toInt32 &&& 858993459)) : Int32).toUInt32 >>> ((4 : Int32).toUInt32 &&& Int32.toUInt32 31)).toInt32) &&& 252645135) + (((((((x1461 - (((x1461 : Int32).toUInt32 >>> ((1 : Int32).toUInt32 &&& Int32.toUInt32 31)).toInt32 &&& 1431655765)) &&& 858993459) + ((((x1461 - (((x1461 : Int32).toUInt32 >>> ((1 : Int32).toUInt32 &&& Int32.toUInt32 31)).toInt32 &&& 1431655765)) : Int32).toUInt32 >>> ((2 : Int32).toUInt32 &&& Int32.toUInt32 31)).toInt32 &&& 858993459)) + (((((x1461 - (((x1461 : Int32).toUInt32 >>> ((1 : Int32).toUInt32 &&& Int32.toUInt32 31)).toInt32 &&& 1431655765)) &&& 858993459) + ((((x1461 - (((x1461 : Int32).toUInt32 >>> ((1 : Int32).toUInt32 &&& Int32.toUInt32 31)).toInt32 &&& 1431655765)) : Int32).toUInt32 >>> ((2 : Int32).toUInt32 &&& Int32.toUInt32 31)).toInt32 &&& 858993459)) : Int32).toUInt32 >>> ((4 : Int32).toUInt32 &&& Int32.toUInt32 31)).toInt32) &&& 252645135) : Int32).toUInt32 >>> ((8 : Int32).toUInt32 &&& Int32.toUInt32 31)).toInt32) : Int32).toUInt32 >>> ((16 : Int32).toUInt32 &&& Int32.toUInt32 31)).toInt32) &&& 63)]) (h' := hh) (cs' := 0) (sl' := 0) rfl ?_
  obtain rfl := Option.some.inj h
  exact ev_end rfl
set_option maxHeartbeats 40000000 in
set_option maxRecDepth 100000 in
theorem EGspr_isIn_83 : ∀ n : Nat, (∀ (y1477 : Int32) (y1478 : Int32) (w : WX) (r : Int32) (w' : WX), Gspr_isIn_83 n 0 y1477 y1478 w = some (r, w') → ∀ (T : ai_H), ai_ev D1 mspr_isIn 2 [some (.ref 83), some (.int y1477), some (.int y1478)] [] (HX w T) 0 0 (some (.int r), HX w' T)) := by
  intro n
  induction n with
  | zero =>
    exact (fun _ _ _ _ _ h => by cases h)
  | succ n ih0 =>
    intro y1477 y1478 w r w' h T
    simp only [Gspr_isIn_83] at h
    refine ev_go 2 (pc' := 5) (L' := [some (.ref 83), some (.int y1477), some (.int y1478)]) (st' := [.int 6, .int y1478]) (h' := (HX w T)) (cs' := 0) (sl' := 0) rfl ?_
    rcases ai_ifE h with ⟨hc, h⟩ | ⟨hc, h⟩
    · refine ev_ic_ge (t := 34) rfl rfl (fun _ => ?_) (fun c9 => absurd hc c9)
      refine ev_go 1 (pc' := 35) (L' := [some (.ref 83), some (.int y1477), some (.int y1478)]) (st' := [.int 0]) (h' := (HX w T)) (cs' := 0) (sl' := 0) rfl ?_
      obtain ⟨rfl, rfl⟩ := ai_smP h
      exact ev_end rfl
    · refine ev_ic_ge (t := 34) rfl rfl (fun c9 => absurd c9 hc) (fun _ => ?_)
      refine ev_go 6 (pc' := 14) (L' := [some (.ref 83), some (.int y1477), some (.int y1478)]) (st' := [.int 1, .int ((y1477 >>> (y1478 &&& 31)) &&& 1)]) (h' := (HX w T)) (cs' := 0) (sl' := 0) rfl ?_
      rcases ai_ifE h with ⟨hc, h⟩ | ⟨hc, h⟩
      · refine ev_ic_ne (t := 28) rfl rfl (fun c9 => absurd hc c9) (fun _ => ?_)
        refine ev_go 3 (pc' := 22) (L' := [some (.ref 83), some (.int y1477), some (.int y1478)]) (st' := [.int y1478, .ref 84]) (h' := (HX w T)) (cs' := 0) (sl' := 0) rfl ?_
        obtain ⟨v1479, hq, h⟩ := ai_bdE h
        refine ev_iald rfl rfl hq ?_
        rcases ai_ifE h with ⟨hc, h⟩ | ⟨hc, h⟩
        · refine ev_if_le (t := 28) rfl rfl (fun _ => ?_) (fun c9 => absurd hc c9)
          refine ev_go 2 (pc' := 2) (L' := [some (.ref 83), some (.int y1477), some (.int (y1478 + 1))]) (st' := []) (h' := (HX w T)) (cs' := 0) (sl' := 0) rfl ?_
          exact ih0 _ _ _ _ _ h T
        · refine ev_if_le (t := 28) rfl rfl (fun c9 => absurd c9 hc) (fun _ => ?_)
          refine ev_go 1 (pc' := 27) (L' := [some (.ref 83), some (.int y1477), some (.int y1478)]) (st' := [.int 1]) (h' := (HX w T)) (cs' := 0) (sl' := 0) rfl ?_
          obtain ⟨rfl, rfl⟩ := ai_smP h
          exact ev_end rfl
      · refine ev_ic_ne (t := 28) rfl rfl (fun _ => ?_) (fun c9 => absurd c9 hc)
        refine ev_go 2 (pc' := 2) (L' := [some (.ref 83), some (.int y1477), some (.int (y1478 + 1))]) (st' := []) (h' := (HX w T)) (cs' := 0) (sl' := 0) rfl ?_
        exact ih0 _ _ _ _ _ h T
set_option maxHeartbeats 40000000 in
set_option maxRecDepth 100000 in
theorem Espr_isIn_83 (n : Nat) (x1476 : Int32) (w : WX) (r : Int32) (w' : WX) (h : Fspr_isIn_83 n x1476 w = some (r, w')) (T : ai_H) : ai_ev D1 mspr_isIn 0 [some (.ref 83), some (.int x1476), none] [] (HX w T) 0 0 (some (.int r), HX w' T) := by
  unfold Fspr_isIn_83 at h
  have ih0 := EGspr_isIn_83 n
  refine ev_go 2 (pc' := 2) (L' := [some (.ref 83), some (.int x1476), some (.int 0)]) (st' := []) (h' := (HX w T)) (cs' := 0) (sl' := 0) rfl ?_
  exact ih0 _ _ _ _ _ h T
set_option maxHeartbeats 40000000 in
set_option maxRecDepth 100000 in
theorem EGf_keepsOut_0 : ∀ n : Nat, (∀ (y1470 : Int32) (y1471 : Int32) (y1472 : Int32) (y1473 : Int32) (y1474 : Int32) (y1475 : Int32) (w : WX) (r : Int32) (w' : WX), Gf_keepsOut_0 n 0 y1470 y1471 y1472 y1473 y1474 y1475 w = some (r, w') → ∀ (T : ai_H), ai_ev D1 mf_keepsOut 12 [some (.ref 0), some (.int y1470), some (.int y1471), some (.int y1472), some (.int y1473), some (.int y1474), some (.int y1475)] [] (HX w T) 0 0 (some (.int r), HX w' T)) := by
  intro n
  induction n with
  | zero =>
    exact (fun _ _ _ _ _ _ _ _ _ h => by cases h)
  | succ n ih0 =>
    intro y1470 y1471 y1472 y1473 y1474 y1475 w r w' h T
    simp only [Gf_keepsOut_0] at h
    refine ev_go 2 (pc' := 15) (L' := [some (.ref 0), some (.int y1470), some (.int y1471), some (.int y1472), some (.int y1473), some (.int y1474), some (.int y1475)]) (st' := [.int y1472, .int y1475]) (h' := (HX w T)) (cs' := 0) (sl' := 0) rfl ?_
    rcases ai_ifE h with ⟨hc, h⟩ | ⟨hc, h⟩
    · refine ev_ic_ge (t := 54) rfl rfl (fun _ => ?_) (fun c9 => absurd hc c9)
      refine ev_go 3 (pc' := 60) (L' := [some (.ref 0), some (.int y1470), some (.int y1471), some (.int y1472), some (.int y1473), some (.int y1474), some (.int y1475)]) (st' := [.int y1473, .ref 83]) (h' := (HX w T)) (cs' := 0) (sl' := 0) rfl ?_
      obtain ⟨c1480, hq, h⟩ := ai_bdE h
      refine ev_call (M' := mspr_isIn) (L' := [some (.ref 83), some (.int y1473), none]) (rest := []) (rv := some (.int c1480.1)) (h' := (HX c1480.2 T)) rfl (Espr_isIn_83 n y1473 w _ _ hq T) ?_
      show ai_ev D1 mf_keepsOut 63 [some (.ref 0), some (.int y1470), some (.int y1471), some (.int y1472), some (.int y1473), some (.int y1474), some (.int y1475)] [.int c1480.1] (HX c1480.2 T) 0 0 _
      rcases ai_ifE h with ⟨hc, h⟩ | ⟨hc, h⟩
      · refine ev_if_ne (t := 70) rfl rfl (fun c9 => absurd hc c9) (fun _ => ?_)
        refine ev_go 2 (pc' := 71) (L' := [some (.ref 0), some (.int y1470), some (.int y1471), some (.int y1472), some (.int y1473), some (.int y1474), some (.int y1475)]) (st' := [.int 1]) (h' := (HX c1480.2 T)) (cs' := 0) (sl' := 0) rfl ?_
        obtain ⟨rfl, rfl⟩ := ai_smP h
        exact ev_end rfl
      · refine ev_if_ne (t := 70) rfl rfl (fun _ => ?_) (fun c9 => absurd c9 hc)
        refine ev_go 1 (pc' := 71) (L' := [some (.ref 0), some (.int y1470), some (.int y1471), some (.int y1472), some (.int y1473), some (.int y1474), some (.int y1475)]) (st' := [.int 0]) (h' := (HX c1480.2 T)) (cs' := 0) (sl' := 0) rfl ?_
        obtain ⟨rfl, rfl⟩ := ai_smP h
        exact ev_end rfl
    · refine ev_ic_ge (t := 54) rfl rfl (fun c9 => absurd c9 hc) (fun _ => ?_)
      refine ev_go 3 (pc' := 24) (L' := [some (.ref 0), some (.int y1470), some (.int y1471), some (.int y1472), some (.int y1473), some (.int y1474), some (.int y1475)]) (st' := [.int y1473, .ref 83]) (h' := (HX w T)) (cs' := 0) (sl' := 0) rfl ?_
      obtain ⟨c1481, hq, h⟩ := ai_bdE h
      refine ev_call (M' := mspr_isIn) (L' := [some (.ref 83), some (.int y1473), none]) (rest := []) (rv := some (.int c1481.1)) (h' := (HX c1481.2 T)) rfl (Espr_isIn_83 n y1473 w _ _ hq T) ?_
      show ai_ev D1 mf_keepsOut 27 [some (.ref 0), some (.int y1470), some (.int y1471), some (.int y1472), some (.int y1473), some (.int y1474), some (.int y1475)] [.int c1481.1] (HX c1481.2 T) 0 0 _
      rcases ai_ifE h with ⟨hc, h⟩ | ⟨hc, h⟩
      · refine ev_if_eq (t := 32) rfl rfl (fun _ => ?_) (fun c9 => absurd hc c9)
        refine ev_go 6 (pc' := 45) (L' := [some (.ref 0), some (.int y1470), some (.int y1471), some (.int y1472), some (.int y1473), some (.int y1474), some (.int y1475)]) (st' := [.int y1474, .int (a_s1_cells c1481.2), .ref 83]) (h' := (HX c1481.2 T)) (cs' := 0) (sl' := 0) rfl ?_
        obtain ⟨c1482, hq, h⟩ := ai_bdE h
        refine ev_call (M' := mspr_goOn) (L' := [some (.ref 83), some (.int (a_s1_cells c1481.2)), some (.int y1474), none]) (rest := []) (rv := none) (h' := (HX c1482 T)) rfl (Espr_goOn_83 n (a_s1_cells c1481.2) y1474 c1481.2 _ hq T) ?_
        show ai_ev D1 mf_keepsOut 48 [some (.ref 0), some (.int y1470), some (.int y1471), some (.int y1472), some (.int y1473), some (.int y1474), some (.int y1475)] [] (HX c1482 T) 0 0 _
        refine ev_go 2 (pc' := 12) (L' := [some (.ref 0), some (.int y1470), some (.int y1471), some (.int y1472), some (.int y1473), some (.int y1474), some (.int (y1475 + 1))]) (st' := []) (h' := (HX c1482 T)) (cs' := 0) (sl' := 0) rfl ?_
        exact ih0 _ _ _ _ _ _ _ _ _ h T
      · refine ev_if_eq (t := 32) rfl rfl (fun c9 => absurd c9 hc) (fun _ => ?_)
        refine ev_go 1 (pc' := 31) (L' := [some (.ref 0), some (.int y1470), some (.int y1471), some (.int y1472), some (.int y1473), some (.int y1474), some (.int y1475)]) (st' := [.int 0]) (h' := (HX c1481.2 T)) (cs' := 0) (sl' := 0) rfl ?_
        obtain ⟨rfl, rfl⟩ := ai_smP h
        exact ev_end rfl
set_option maxHeartbeats 40000000 in
set_option maxRecDepth 100000 in
theorem Ef_keepsOut_0 (n : Nat) (x1464 : Int32) (x1465 : Int32) (x1466 : Int32) (x1467 : Int32) (x1468 : Int32) (w : WX) (r : Int32) (w' : WX) (h : Ff_keepsOut_0 n x1464 x1465 x1466 x1467 x1468 w = some (r, w')) (T : ai_H) : ai_ev D1 mf_keepsOut 0 [some (.ref 0), some (.int x1464), some (.int x1465), some (.int x1466), some (.int x1467), some (.int x1468), none] [] (HX w T) 0 0 (some (.int r), HX w' T) := by
  unfold Ff_keepsOut_0 at h
  have ih0 := EGf_keepsOut_0 n
  refine ev_go 4 (pc' := 6) (L' := [some (.ref 0), some (.int x1464), some (.int x1465), some (.int x1466), some (.int x1467), some (.int x1468), none]) (st' := [.int x1465, .int x1464, .ref 83]) (h' := (HX w T)) (cs' := 0) (sl' := 0) rfl ?_
  obtain ⟨c1469, hq, h⟩ := ai_bdE h
  refine ev_call (M' := mspr_start) (L' := [some (.ref 83), some (.int x1464), some (.int x1465)]) (rest := []) (rv := none) (h' := (HX c1469 T)) rfl (Espr_start_83 n x1464 x1465 w _ hq T) ?_
  show ai_ev D1 mf_keepsOut 9 [some (.ref 0), some (.int x1464), some (.int x1465), some (.int x1466), some (.int x1467), some (.int x1468), none] [] (HX c1469 T) 0 0 _
  refine ev_go 2 (pc' := 12) (L' := [some (.ref 0), some (.int x1464), some (.int x1465), some (.int x1466), some (.int x1467), some (.int x1468), some (.int 0)]) (st' := []) (h' := (HX c1469 T)) (cs' := 0) (sl' := 0) rfl ?_
  exact ih0 _ _ _ _ _ _ _ _ _ h T
set_option maxHeartbeats 40000000 in
set_option maxRecDepth 100000 in
theorem EGf_keepOut_0 : ∀ n : Nat, (∀ (y1454 : Int32) (y1455 : Int32) (y1456 : Int32) (y1457 : Int32) (y1458 : Int32) (y1459 : Int32) (y1460 : Int32) (w : WX) (r : Int32) (w' : WX), Gf_keepOut_0 n 0 y1454 y1455 y1456 y1457 y1458 y1459 y1460 w = some (r, w') → ∀ (T : ai_H) (o8 o9 : Option Value), ai_ev D1 mf_keepOut 56 [some (.ref 0), some (.int y1454), some (.int y1455), some (.int y1456), some (.int y1457), some (.int y1458), some (.int y1459), some (.int y1460), o8, o9] [] (HX w T) 0 0 (some (.int r), HX w' T)) := by
  intro n
  induction n with
  | zero =>
    exact (fun _ _ _ _ _ _ _ _ _ _ h => by cases h)
  | succ n ih0 =>
    intro y1454 y1455 y1456 y1457 y1458 y1459 y1460 w r w' h T o8 o9
    simp only [Gf_keepOut_0] at h
    refine ev_go 2 (pc' := 60) (L' := [some (.ref 0), some (.int y1454), some (.int y1455), some (.int y1456), some (.int y1457), some (.int y1458), some (.int y1459), some (.int y1460), o8, o9]) (st' := [.int y1459, .int y1460]) (h' := (HX w T)) (cs' := 0) (sl' := 0) rfl ?_
    rcases ai_ifE h with ⟨hc, h⟩ | ⟨hc, h⟩
    · refine ev_ic_ge (t := 151) rfl rfl (fun _ => ?_) (fun c9 => absurd hc c9)
      refine ev_go 1 (pc' := 153) (L' := [some (.ref 0), some (.int y1454), some (.int y1455), some (.int y1456), some (.int y1457), some (.int y1458), some (.int y1459), some (.int y1460), o8, o9]) (st' := [.int y1458]) (h' := (HX w T)) (cs' := 0) (sl' := 0) rfl ?_
      obtain ⟨rfl, rfl⟩ := ai_smP h
      exact ev_end rfl
    · refine ev_ic_ge (t := 151) rfl rfl (fun c9 => absurd c9 hc) (fun _ => ?_)
      refine ev_go 5 (pc' := 73) (L' := [some (.ref 0), some (.int y1454), some (.int y1455), some (.int y1456), some (.int y1457), some (.int y1458), some (.int y1459), some (.int y1460), o8, o9]) (st' := [.int (y1460 &&& (a_s1_dams w))]) (h' := (HX w T)) (cs' := 0) (sl' := 0) rfl ?_
      rcases ai_ifE h with ⟨hc, h⟩ | ⟨hc, h⟩
      · refine ev_if_ne (t := 80) rfl rfl (fun c9 => absurd hc c9) (fun _ => ?_)
        refine ev_go 5 (pc' := 86) (L' := [some (.ref 0), some (.int y1454), some (.int y1455), some (.int y1456), some (.int y1457), some (.int y1458), some (.int y1459), some (.int y1460), some (.int 1), o9]) (st' := [.int (-1), .int y1458]) (h' := (HX w T)) (cs' := 0) (sl' := 0) rfl ?_
        rcases ai_ifE h with ⟨hc, h⟩ | ⟨hc, h⟩
        · refine ev_ic_eq (t := 102) rfl rfl (fun _ => ?_) (fun c9 => absurd hc c9)
          refine ev_go 17 (pc' := 135) (L' := [some (.ref 0), some (.int y1454), some (.int y1455), some (.int y1456), some (.int y1457), some (.int y1458), some (.int y1459), some (.int y1460), some (.int 1), some (.int 1)]) (st' := [.int ((a_s1_dams w) ||| y1460), .int y1457, .int y1456, .int y1455, .int y1454, .ref 0]) (h' := (HX w T)) (cs' := 0) (sl' := 0) rfl ?_
          obtain ⟨c1483, hq, h⟩ := ai_bdE h
          refine ev_call (M' := mf_keepsOut) (L' := [some (.ref 0), some (.int y1454), some (.int y1455), some (.int y1456), some (.int y1457), some (.int ((a_s1_dams w) ||| y1460)), none]) (rest := []) (rv := some (.int c1483.1)) (h' := (HX c1483.2 T)) rfl (Ef_keepsOut_0 n y1454 y1455 y1456 y1457 ((a_s1_dams w) ||| y1460) w _ _ hq T) ?_
          show ai_ev D1 mf_keepOut 138 [some (.ref 0), some (.int y1454), some (.int y1455), some (.int y1456), some (.int y1457), some (.int y1458), some (.int y1459), some (.int y1460), some (.int 1), some (.int 1)] [.int c1483.1] (HX c1483.2 T) 0 0 _
          rcases ai_ifE h with ⟨hc, h⟩ | ⟨hc, h⟩
          · refine ev_if_eq (t := 145) rfl rfl (fun _ => ?_) (fun c9 => absurd hc c9)
            refine ev_go 2 (pc' := 56) (L' := [some (.ref 0), some (.int y1454), some (.int y1455), some (.int y1456), some (.int y1457), some (.int y1458), some (.int y1459), some (.int (y1460 + 1)), some (.int 1), some (.int 1)]) (st' := []) (h' := (HX c1483.2 T)) (cs' := 0) (sl' := 0) rfl ?_
            exact ih0 _ _ _ _ _ _ _ _ _ _ h T _ _
          · refine ev_if_eq (t := 145) rfl rfl (fun c9 => absurd c9 hc) (fun _ => ?_)
            refine ev_go 4 (pc' := 56) (L' := [some (.ref 0), some (.int y1454), some (.int y1455), some (.int y1456), some (.int y1457), some (.int y1460), some (.int y1459), some (.int (y1460 + 1)), some (.int 1), some (.int 1)]) (st' := []) (h' := (HX c1483.2 T)) (cs' := 0) (sl' := 0) rfl ?_
            exact ih0 _ _ _ _ _ _ _ _ _ _ h T _ _
        · refine ev_ic_eq (t := 102) rfl rfl (fun c9 => absurd c9 hc) (fun _ => ?_)
          refine ev_go 1 (pc' := 91) (L' := [some (.ref 0), some (.int y1454), some (.int y1455), some (.int y1456), some (.int y1457), some (.int y1458), some (.int y1459), some (.int y1460), some (.int 1), o9]) (st' := [.int y1460]) (h' := (HX w T)) (cs' := 0) (sl' := 0) rfl ?_
          obtain ⟨c1484, hq, h⟩ := ai_bdE h
          refine ev_call (M' := mint_bitCount) (L' := [some (.int y1460)]) (rest := []) (rv := some (.int c1484)) (h' := (HX w T)) rfl (Eint_bitCount y1460 _ hq (HX w T)) ?_
          show ai_ev D1 mf_keepOut 94 [some (.ref 0), some (.int y1454), some (.int y1455), some (.int y1456), some (.int y1457), some (.int y1458), some (.int y1459), some (.int y1460), some (.int 1), o9] [.int c1484] (HX w T) 0 0 _
          refine ev_go 1 (pc' := 96) (L' := [some (.ref 0), some (.int y1454), some (.int y1455), some (.int y1456), some (.int y1457), some (.int y1458), some (.int y1459), some (.int y1460), some (.int 1), o9]) (st' := [.int y1458, .int c1484]) (h' := (HX w T)) (cs' := 0) (sl' := 0) rfl ?_
          obtain ⟨c1485, hq, h⟩ := ai_bdE h
          refine ev_call (M' := mint_bitCount) (L' := [some (.int y1458)]) (rest := [.int c1484]) (rv := some (.int c1485)) (h' := (HX w T)) rfl (Eint_bitCount y1458 _ hq (HX w T)) ?_
          show ai_ev D1 mf_keepOut 99 [some (.ref 0), some (.int y1454), some (.int y1455), some (.int y1456), some (.int y1457), some (.int y1458), some (.int y1459), some (.int y1460), some (.int 1), o9] [.int c1485, .int c1484] (HX w T) 0 0 _
          rcases ai_ifE h with ⟨hc, h⟩ | ⟨hc, h⟩
          · refine ev_ic_ge (t := 106) rfl rfl (fun _ => ?_) (fun c9 => absurd hc c9)
            refine ev_go 8 (pc' := 56) (L' := [some (.ref 0), some (.int y1454), some (.int y1455), some (.int y1456), some (.int y1457), some (.int y1458), some (.int y1459), some (.int (y1460 + 1)), some (.int 1), some (.int 0)]) (st' := []) (h' := (HX w T)) (cs' := 0) (sl' := 0) rfl ?_
            exact ih0 _ _ _ _ _ _ _ _ _ _ h T _ _
          · refine ev_ic_ge (t := 106) rfl rfl (fun c9 => absurd c9 hc) (fun _ => ?_)
            refine ev_go 17 (pc' := 135) (L' := [some (.ref 0), some (.int y1454), some (.int y1455), some (.int y1456), some (.int y1457), some (.int y1458), some (.int y1459), some (.int y1460), some (.int 1), some (.int 1)]) (st' := [.int ((a_s1_dams w) ||| y1460), .int y1457, .int y1456, .int y1455, .int y1454, .ref 0]) (h' := (HX w T)) (cs' := 0) (sl' := 0) rfl ?_
            obtain ⟨c1486, hq, h⟩ := ai_bdE h
            refine ev_call (M' := mf_keepsOut) (L' := [some (.ref 0), some (.int y1454), some (.int y1455), some (.int y1456), some (.int y1457), some (.int ((a_s1_dams w) ||| y1460)), none]) (rest := []) (rv := some (.int c1486.1)) (h' := (HX c1486.2 T)) rfl (Ef_keepsOut_0 n y1454 y1455 y1456 y1457 ((a_s1_dams w) ||| y1460) w _ _ hq T) ?_
            show ai_ev D1 mf_keepOut 138 [some (.ref 0), some (.int y1454), some (.int y1455), some (.int y1456), some (.int y1457), some (.int y1458), some (.int y1459), some (.int y1460), some (.int 1), some (.int 1)] [.int c1486.1] (HX c1486.2 T) 0 0 _
            rcases ai_ifE h with ⟨hc, h⟩ | ⟨hc, h⟩
            · refine ev_if_eq (t := 145) rfl rfl (fun _ => ?_) (fun c9 => absurd hc c9)
              refine ev_go 2 (pc' := 56) (L' := [some (.ref 0), some (.int y1454), some (.int y1455), some (.int y1456), some (.int y1457), some (.int y1458), some (.int y1459), some (.int (y1460 + 1)), some (.int 1), some (.int 1)]) (st' := []) (h' := (HX c1486.2 T)) (cs' := 0) (sl' := 0) rfl ?_
              exact ih0 _ _ _ _ _ _ _ _ _ _ h T _ _
            · refine ev_if_eq (t := 145) rfl rfl (fun c9 => absurd c9 hc) (fun _ => ?_)
              refine ev_go 4 (pc' := 56) (L' := [some (.ref 0), some (.int y1454), some (.int y1455), some (.int y1456), some (.int y1457), some (.int y1460), some (.int y1459), some (.int (y1460 + 1)), some (.int 1), some (.int 1)]) (st' := []) (h' := (HX c1486.2 T)) (cs' := 0) (sl' := 0) rfl ?_
              exact ih0 _ _ _ _ _ _ _ _ _ _ h T _ _
      · refine ev_if_ne (t := 80) rfl rfl (fun _ => ?_) (fun c9 => absurd c9 hc)
        refine ev_go 4 (pc' := 86) (L' := [some (.ref 0), some (.int y1454), some (.int y1455), some (.int y1456), some (.int y1457), some (.int y1458), some (.int y1459), some (.int y1460), some (.int 0), o9]) (st' := [.int (-1), .int y1458]) (h' := (HX w T)) (cs' := 0) (sl' := 0) rfl ?_
        rcases ai_ifE h with ⟨hc, h⟩ | ⟨hc, h⟩
        · refine ev_ic_eq (t := 102) rfl rfl (fun _ => ?_) (fun c9 => absurd hc c9)
          refine ev_go 7 (pc' := 56) (L' := [some (.ref 0), some (.int y1454), some (.int y1455), some (.int y1456), some (.int y1457), some (.int y1458), some (.int y1459), some (.int (y1460 + 1)), some (.int 0), some (.int 1)]) (st' := []) (h' := (HX w T)) (cs' := 0) (sl' := 0) rfl ?_
          exact ih0 _ _ _ _ _ _ _ _ _ _ h T _ _
        · refine ev_ic_eq (t := 102) rfl rfl (fun c9 => absurd c9 hc) (fun _ => ?_)
          refine ev_go 1 (pc' := 91) (L' := [some (.ref 0), some (.int y1454), some (.int y1455), some (.int y1456), some (.int y1457), some (.int y1458), some (.int y1459), some (.int y1460), some (.int 0), o9]) (st' := [.int y1460]) (h' := (HX w T)) (cs' := 0) (sl' := 0) rfl ?_
          obtain ⟨c1462, hq, h⟩ := ai_bdE h
          refine ev_call (M' := mint_bitCount) (L' := [some (.int y1460)]) (rest := []) (rv := some (.int c1462)) (h' := (HX w T)) rfl (Eint_bitCount y1460 _ hq (HX w T)) ?_
          show ai_ev D1 mf_keepOut 94 [some (.ref 0), some (.int y1454), some (.int y1455), some (.int y1456), some (.int y1457), some (.int y1458), some (.int y1459), some (.int y1460), some (.int 0), o9] [.int c1462] (HX w T) 0 0 _
          refine ev_go 1 (pc' := 96) (L' := [some (.ref 0), some (.int y1454), some (.int y1455), some (.int y1456), some (.int y1457), some (.int y1458), some (.int y1459), some (.int y1460), some (.int 0), o9]) (st' := [.int y1458, .int c1462]) (h' := (HX w T)) (cs' := 0) (sl' := 0) rfl ?_
          obtain ⟨c1463, hq, h⟩ := ai_bdE h
          refine ev_call (M' := mint_bitCount) (L' := [some (.int y1458)]) (rest := [.int c1462]) (rv := some (.int c1463)) (h' := (HX w T)) rfl (Eint_bitCount y1458 _ hq (HX w T)) ?_
          show ai_ev D1 mf_keepOut 99 [some (.ref 0), some (.int y1454), some (.int y1455), some (.int y1456), some (.int y1457), some (.int y1458), some (.int y1459), some (.int y1460), some (.int 0), o9] [.int c1463, .int c1462] (HX w T) 0 0 _
          rcases ai_ifE h with ⟨hc, h⟩ | ⟨hc, h⟩
          · refine ev_ic_ge (t := 106) rfl rfl (fun _ => ?_) (fun c9 => absurd hc c9)
            refine ev_go 6 (pc' := 56) (L' := [some (.ref 0), some (.int y1454), some (.int y1455), some (.int y1456), some (.int y1457), some (.int y1458), some (.int y1459), some (.int (y1460 + 1)), some (.int 0), some (.int 0)]) (st' := []) (h' := (HX w T)) (cs' := 0) (sl' := 0) rfl ?_
            exact ih0 _ _ _ _ _ _ _ _ _ _ h T _ _
          · refine ev_ic_ge (t := 106) rfl rfl (fun c9 => absurd c9 hc) (fun _ => ?_)
            refine ev_go 7 (pc' := 56) (L' := [some (.ref 0), some (.int y1454), some (.int y1455), some (.int y1456), some (.int y1457), some (.int y1458), some (.int y1459), some (.int (y1460 + 1)), some (.int 0), some (.int 1)]) (st' := []) (h' := (HX w T)) (cs' := 0) (sl' := 0) rfl ?_
            exact ih0 _ _ _ _ _ _ _ _ _ _ h T _ _
set_option maxHeartbeats 40000000 in
set_option maxRecDepth 100000 in
theorem Ef_keepOut_0 (n : Nat) (x1446 : Int32) (x1447 : Int32) (x1448 : Int32) (x1449 : Int32) (w : WX) (r : Int32) (w' : WX) (h : Ff_keepOut_0 n x1446 x1447 x1448 x1449 w = some (r, w')) (T : ai_H) : ai_ev D1 mf_keepOut 0 [some (.ref 0), some (.int x1446), some (.int x1447), some (.int x1448), some (.int x1449), none, none, none, none, none] [] (HX w T) 0 0 (some (.int r), HX w' T) := by
  unfold Ff_keepOut_0 at h
  have ih0 := EGf_keepOut_0 n
  refine ev_go 4 (pc' := 4) (L' := [some (.ref 0), some (.int x1446), some (.int x1447), some (.int x1448), some (.int x1449), none, none, none, none, none]) (st' := [.int x1448, .int x1447, .int x1446, .ref 0]) (h' := (HX w T)) (cs' := 0) (sl' := 0) rfl ?_
  obtain ⟨c1450, hq, h⟩ := ai_bdE h
  refine ev_call (M' := mf_isSpill) (L' := [some (.ref 0), some (.int x1446), some (.int x1447), some (.int x1448)]) (rest := []) (rv := some (.int c1450.1)) (h' := (HX c1450.2 T)) rfl (Ef_isSpill_0 x1446 x1447 x1448 w _ _ hq T) ?_
  show ai_ev D1 mf_keepOut 7 [some (.ref 0), some (.int x1446), some (.int x1447), some (.int x1448), some (.int x1449), none, none, none, none, none] [.int c1450.1] (HX c1450.2 T) 0 0 _
  rcases ai_ifE h with ⟨hc, h⟩ | ⟨hc, h⟩
  · refine ev_if_eq (t := 30) rfl rfl (fun _ => ?_) (fun c9 => absurd hc c9)
    refine ev_go 2 (pc' := 33) (L' := [some (.ref 0), some (.int x1446), some (.int x1447), some (.int x1448), some (.int x1449), none, none, none, none, none]) (st' := [.int (-2), .ref 0]) (h' := (HX c1450.2 T)) (cs' := 0) (sl' := 0) rfl ?_
    obtain ⟨c1451, hq, h⟩ := ai_bdE h
    refine ev_call (M' := mf_bad) (L' := [some (.ref 0), some (.int (-2))]) (rest := []) (rv := some (.int c1451.1)) (h' := (HX c1451.2 T)) rfl (Ef_bad_0 (-2) c1450.2 _ _ hq T) ?_
    show ai_ev D1 mf_keepOut 36 [some (.ref 0), some (.int x1446), some (.int x1447), some (.int x1448), some (.int x1449), none, none, none, none, none] [.int c1451.1] (HX c1451.2 T) 0 0 _
    obtain ⟨rfl, rfl⟩ := ai_smP h
    exact ev_end rfl
  · refine ev_if_eq (t := 30) rfl rfl (fun c9 => absurd c9 hc) (fun _ => ?_)
    refine ev_go 9 (pc' := 24) (L' := [some (.ref 0), some (.int x1446), some (.int x1447), some (.int x1448), some (.int x1449), none, none, none, none, none]) (st' := [.int ((1 <<< ((a_s1_cells c1450.2) &&& 31)) - 1), .int 0, .int x1449]) (h' := (HX c1450.2 T)) (cs' := 0) (sl' := 0) rfl ?_
    obtain ⟨c1452, hq, h⟩ := ai_bdE h
    refine ev_call (M' := mf_within) (L' := [some (.int x1449), some (.int 0), some (.int ((1 <<< ((a_s1_cells c1450.2) &&& 31)) - 1))]) (rest := []) (rv := some (.int c1452)) (h' := (HX c1450.2 T)) rfl (Ef_within x1449 0 ((1 <<< ((a_s1_cells c1450.2) &&& 31)) - 1) _ hq (HX c1450.2 T)) ?_
    show ai_ev D1 mf_keepOut 27 [some (.ref 0), some (.int x1446), some (.int x1447), some (.int x1448), some (.int x1449), none, none, none, none, none] [.int c1452] (HX c1450.2 T) 0 0 _
    rcases ai_ifE h with ⟨hc, h⟩ | ⟨hc, h⟩
    · refine ev_if_ne (t := 37) rfl rfl (fun c9 => absurd hc c9) (fun _ => ?_)
      refine ev_go 2 (pc' := 33) (L' := [some (.ref 0), some (.int x1446), some (.int x1447), some (.int x1448), some (.int x1449), none, none, none, none, none]) (st' := [.int (-2), .ref 0]) (h' := (HX c1450.2 T)) (cs' := 0) (sl' := 0) rfl ?_
      obtain ⟨c1453, hq, h⟩ := ai_bdE h
      refine ev_call (M' := mf_bad) (L' := [some (.ref 0), some (.int (-2))]) (rest := []) (rv := some (.int c1453.1)) (h' := (HX c1453.2 T)) rfl (Ef_bad_0 (-2) c1450.2 _ _ hq T) ?_
      show ai_ev D1 mf_keepOut 36 [some (.ref 0), some (.int x1446), some (.int x1447), some (.int x1448), some (.int x1449), none, none, none, none, none] [.int c1453.1] (HX c1453.2 T) 0 0 _
      obtain ⟨rfl, rfl⟩ := ai_smP h
      exact ev_end rfl
    · refine ev_if_ne (t := 37) rfl rfl (fun _ => ?_) (fun c9 => absurd c9 hc)
      refine ev_go 12 (pc' := 56) (L' := [some (.ref 0), some (.int x1446), some (.int x1447), some (.int x1448), some (.int x1449), some (.int (-1)), some (.int (1 <<< (((a_s1_cells c1450.2) - 1) &&& 31))), some (.int 0), none, none]) (st' := []) (h' := (HX c1450.2 T)) (cs' := 0) (sl' := 0) rfl ?_
      exact ih0 _ _ _ _ _ _ _ _ _ _ h T _ _
set_option maxHeartbeats 40000000 in
set_option maxRecDepth 100000 in
theorem EGsea_allThick_1 : ∀ n : Nat, (∀ (y1496 : Int32) (y1497 : Int32) (y1498 : Int32) (w : WX) (r : Int32) (w' : WX), Gsea_allThick_1 n 0 y1496 y1497 y1498 w = some (r, w') → ∀ (T : ai_H), ai_ev D1 msea_allThick 4 [some (.ref 1), some (.int y1496), some (.int y1497), some (.int y1498)] [] (HX w T) 0 0 (some (.int r), HX w' T)) := by
  intro n
  induction n with
  | zero =>
    exact (fun _ _ _ _ _ _ h => by cases h)
  | succ n ih0 =>
    intro y1496 y1497 y1498 w r w' h T
    simp only [Gsea_allThick_1] at h
    refine ev_go 2 (pc' := 6) (L' := [some (.ref 1), some (.int y1496), some (.int y1497), some (.int y1498)]) (st' := [.int 4, .int y1498]) (h' := (HX w T)) (cs' := 0) (sl' := 0) rfl ?_
    rcases ai_ifE h with ⟨hc, h⟩ | ⟨hc, h⟩
    · refine ev_ic_ge (t := 28) rfl rfl (fun _ => ?_) (fun c9 => absurd hc c9)
      refine ev_go 1 (pc' := 29) (L' := [some (.ref 1), some (.int y1496), some (.int y1497), some (.int y1498)]) (st' := [.int y1497]) (h' := (HX w T)) (cs' := 0) (sl' := 0) rfl ?_
      obtain ⟨rfl, rfl⟩ := ai_smP h
      exact ev_end rfl
    · refine ev_ic_ge (t := 28) rfl rfl (fun c9 => absurd c9 hc) (fun _ => ?_)
      refine ev_go 6 (pc' := 17) (L' := [some (.ref 1), some (.int y1496), some (.int y1497), some (.int y1498)]) (st' := [.int (a_s1_hour w), .int y1496, .int y1498, .ref 1, .int y1497]) (h' := (HX w T)) (cs' := 0) (sl' := 0) rfl ?_
      obtain ⟨c1499, hq, h⟩ := ai_bdE h
      refine ev_call (M' := msea_thickAt) (L' := [some (.ref 1), some (.int y1498), some (.int y1496), some (.int (a_s1_hour w))]) (rest := [.int y1497]) (rv := some (.int c1499.1)) (h' := (HX c1499.2 T)) rfl (Esea_thickAt_1 y1498 y1496 (a_s1_hour w) w _ _ hq T) ?_
      show ai_ev D1 msea_allThick 20 [some (.ref 1), some (.int y1496), some (.int y1497), some (.int y1498)] [.int c1499.1, .int y1497] (HX c1499.2 T) 0 0 _
      refine ev_go 4 (pc' := 4) (L' := [some (.ref 1), some (.int y1496), some (.int (y1497 + c1499.1)), some (.int (y1498 + 1))]) (st' := []) (h' := (HX c1499.2 T)) (cs' := 0) (sl' := 0) rfl ?_
      exact ih0 _ _ _ _ _ _ h T
set_option maxHeartbeats 40000000 in
set_option maxRecDepth 100000 in
theorem Esea_allThick_1 (n : Nat) (x1495 : Int32) (w : WX) (r : Int32) (w' : WX) (h : Fsea_allThick_1 n x1495 w = some (r, w')) (T : ai_H) : ai_ev D1 msea_allThick 0 [some (.ref 1), some (.int x1495), none, none] [] (HX w T) 0 0 (some (.int r), HX w' T) := by
  unfold Fsea_allThick_1 at h
  have ih0 := EGsea_allThick_1 n
  refine ev_go 4 (pc' := 4) (L' := [some (.ref 1), some (.int x1495), some (.int 0), some (.int 0)]) (st' := []) (h' := (HX w T)) (cs' := 0) (sl' := 0) rfl ?_
  exact ih0 _ _ _ _ _ _ h T
set_option maxHeartbeats 40000000 in
set_option maxRecDepth 100000 in
theorem EGf_shaken_0 : ∀ n : Nat, (∀ (y1502 : Int32) (y1503 : Int32) (y1504 : Int32) (y1505 : Int32) (y1506 : Int32) (y1507 : Int32) (y1508 : Int32) (w : WX) (r : Int32) (w' : WX), Gf_shaken_0 n 0 y1502 y1503 y1504 y1505 y1506 y1507 y1508 w = some (r, w') → ∀ (T : ai_H), ai_ev D1 mf_shaken 64 [some (.ref 0), some (.int y1502), some (.int y1503), some (.int y1504), some (.int y1505), some (.int y1506), some (.int y1507), some (.int y1508)] [] (HX w T) 0 0 (some (.int r), HX w' T)) := by
  intro n
  induction n with
  | zero =>
    exact (fun _ _ _ _ _ _ _ _ _ _ h => by cases h)
  | succ n ih0 =>
    intro y1502 y1503 y1504 y1505 y1506 y1507 y1508 w r w' h T
    simp only [Gf_shaken_0] at h
    refine ev_go 2 (pc' := 67) (L' := [some (.ref 0), some (.int y1502), some (.int y1503), some (.int y1504), some (.int y1505), some (.int y1506), some (.int y1507), some (.int y1508)]) (st' := [.int y1502, .int y1508]) (h' := (HX w T)) (cs' := 0) (sl' := 0) rfl ?_
    rcases ai_ifE h with ⟨hc, h⟩ | ⟨hc, h⟩
    · refine ev_ic_gt (t := 97) rfl rfl (fun _ => ?_) (fun c9 => absurd hc c9)
      refine ev_go 1 (pc' := 99) (L' := [some (.ref 0), some (.int y1502), some (.int y1503), some (.int y1504), some (.int y1505), some (.int y1506), some (.int y1507), some (.int y1508)]) (st' := [.int y1506]) (h' := (HX w T)) (cs' := 0) (sl' := 0) rfl ?_
      obtain ⟨rfl, rfl⟩ := ai_smP h
      exact ev_end rfl
    · refine ev_ic_gt (t := 97) rfl rfl (fun c9 => absurd c9 hc) (fun _ => ?_)
      refine ev_go 2 (pc' := 74) (L' := [some (.ref 0), some (.int y1502), some (.int y1503), some (.int y1504), some (.int y1505), some (.int y1506), some (.int y1507), some (.int y1508)]) (st' := [.int y1505, .int y1507]) (h' := (HX w T)) (cs' := 0) (sl' := 0) rfl ?_
      rcases ai_ifE h with ⟨hc, h⟩ | ⟨hc, h⟩
      · refine ev_ic_le (t := 97) rfl rfl (fun _ => ?_) (fun c9 => absurd hc c9)
        refine ev_go 1 (pc' := 99) (L' := [some (.ref 0), some (.int y1502), some (.int y1503), some (.int y1504), some (.int y1505), some (.int y1506), some (.int y1507), some (.int y1508)]) (st' := [.int y1506]) (h' := (HX w T)) (cs' := 0) (sl' := 0) rfl ?_
        obtain ⟨rfl, rfl⟩ := ai_smP h
        exact ev_end rfl
      · refine ev_ic_le (t := 97) rfl rfl (fun c9 => absurd c9 hc) (fun _ => ?_)
        refine ev_go 11 (pc' := 64) (L' := [some (.ref 0), some (.int y1502), some (.int y1503), some (.int y1504), some (.int y1505), some (.int (y1506 + 1)), some (.int (y1507 - ((y1507 + 3) / 4))), some (.int (y1508 + 1))]) (st' := []) (h' := (HX w T)) (cs' := 0) (sl' := 0) rfl ?_
        exact ih0 _ _ _ _ _ _ _ _ _ _ h T
set_option maxHeartbeats 40000000 in
set_option maxRecDepth 100000 in
theorem Ef_shaken_0 (n : Nat) (x1487 : Int32) (x1488 : Int32) (x1489 : Int32) (w : WX) (r : Int32) (w' : WX) (h : Ff_shaken_0 n x1487 x1488 x1489 w = some (r, w')) (T : ai_H) : ai_ev D1 mf_shaken 0 [some (.ref 0), some (.int x1487), some (.int x1488), some (.int x1489), none, none, none, none] [] (HX w T) 0 0 (some (.int r), HX w' T) := by
  unfold Ff_shaken_0 at h
  have ih0 := EGf_shaken_0 n
  refine ev_go 3 (pc' := 4) (L' := [some (.ref 0), some (.int x1487), some (.int x1488), some (.int x1489), none, none, none, none]) (st' := [.int 99, .int 0, .int x1487]) (h' := (HX w T)) (cs' := 0) (sl' := 0) rfl ?_
  obtain ⟨c1490, hq, h⟩ := ai_bdE h
  refine ev_call (M' := mf_within) (L' := [some (.int x1487), some (.int 0), some (.int 99)]) (rest := []) (rv := some (.int c1490)) (h' := (HX w T)) rfl (Ef_within x1487 0 99 _ hq (HX w T)) ?_
  show ai_ev D1 mf_shaken 7 [some (.ref 0), some (.int x1487), some (.int x1488), some (.int x1489), none, none, none, none] [.int c1490] (HX w T) 0 0 _
  rcases ai_ifE h with ⟨hc, h⟩ | ⟨hc, h⟩
  · refine ev_if_eq (t := 30) rfl rfl (fun _ => ?_) (fun c9 => absurd hc c9)
    refine ev_go 2 (pc' := 33) (L' := [some (.ref 0), some (.int x1487), some (.int x1488), some (.int x1489), none, none, none, none]) (st' := [.int (-2), .ref 0]) (h' := (HX w T)) (cs' := 0) (sl' := 0) rfl ?_
    obtain ⟨c1491, hq, h⟩ := ai_bdE h
    refine ev_call (M' := mf_bad) (L' := [some (.ref 0), some (.int (-2))]) (rest := []) (rv := some (.int c1491.1)) (h' := (HX c1491.2 T)) rfl (Ef_bad_0 (-2) w _ _ hq T) ?_
    show ai_ev D1 mf_shaken 36 [some (.ref 0), some (.int x1487), some (.int x1488), some (.int x1489), none, none, none, none] [.int c1491.1] (HX c1491.2 T) 0 0 _
    obtain ⟨rfl, rfl⟩ := ai_smP h
    exact ev_end rfl
  · refine ev_if_eq (t := 30) rfl rfl (fun c9 => absurd c9 hc) (fun _ => ?_)
    refine ev_go 3 (pc' := 15) (L' := [some (.ref 0), some (.int x1487), some (.int x1488), some (.int x1489), none, none, none, none]) (st' := [.int x1488, .ref 1]) (h' := (HX w T)) (cs' := 0) (sl' := 0) rfl ?_
    obtain ⟨c1492, hq, h⟩ := ai_bdE h
    refine ev_call (M' := msea_hasCell) (L' := [some (.ref 1), some (.int x1488)]) (rest := []) (rv := some (.int c1492.1)) (h' := (HX c1492.2 T)) rfl (Esea_hasCell_1 x1488 w _ _ hq T) ?_
    show ai_ev D1 mf_shaken 18 [some (.ref 0), some (.int x1487), some (.int x1488), some (.int x1489), none, none, none, none] [.int c1492.1] (HX c1492.2 T) 0 0 _
    rcases ai_ifE h with ⟨hc, h⟩ | ⟨hc, h⟩
    · refine ev_if_eq (t := 30) rfl rfl (fun _ => ?_) (fun c9 => absurd hc c9)
      refine ev_go 2 (pc' := 33) (L' := [some (.ref 0), some (.int x1487), some (.int x1488), some (.int x1489), none, none, none, none]) (st' := [.int (-2), .ref 0]) (h' := (HX c1492.2 T)) (cs' := 0) (sl' := 0) rfl ?_
      obtain ⟨c1493, hq, h⟩ := ai_bdE h
      refine ev_call (M' := mf_bad) (L' := [some (.ref 0), some (.int (-2))]) (rest := []) (rv := some (.int c1493.1)) (h' := (HX c1493.2 T)) rfl (Ef_bad_0 (-2) c1492.2 _ _ hq T) ?_
      show ai_ev D1 mf_shaken 36 [some (.ref 0), some (.int x1487), some (.int x1488), some (.int x1489), none, none, none, none] [.int c1493.1] (HX c1493.2 T) 0 0 _
      obtain ⟨rfl, rfl⟩ := ai_smP h
      exact ev_end rfl
    · refine ev_if_eq (t := 30) rfl rfl (fun c9 => absurd c9 hc) (fun _ => ?_)
      refine ev_go 3 (pc' := 24) (L' := [some (.ref 0), some (.int x1487), some (.int x1488), some (.int x1489), none, none, none, none]) (st' := [.int 1, .int 0, .int x1489]) (h' := (HX c1492.2 T)) (cs' := 0) (sl' := 0) rfl ?_
      obtain ⟨c1494, hq, h⟩ := ai_bdE h
      refine ev_call (M' := mf_within) (L' := [some (.int x1489), some (.int 0), some (.int 1)]) (rest := []) (rv := some (.int c1494)) (h' := (HX c1492.2 T)) rfl (Ef_within x1489 0 1 _ hq (HX c1492.2 T)) ?_
      show ai_ev D1 mf_shaken 27 [some (.ref 0), some (.int x1487), some (.int x1488), some (.int x1489), none, none, none, none] [.int c1494] (HX c1492.2 T) 0 0 _
      rcases ai_ifE h with ⟨hc, h⟩ | ⟨hc, h⟩
      · refine ev_if_ne (t := 37) rfl rfl (fun c9 => absurd hc c9) (fun _ => ?_)
        refine ev_go 2 (pc' := 33) (L' := [some (.ref 0), some (.int x1487), some (.int x1488), some (.int x1489), none, none, none, none]) (st' := [.int (-2), .ref 0]) (h' := (HX c1492.2 T)) (cs' := 0) (sl' := 0) rfl ?_
        obtain ⟨c1501, hq, h⟩ := ai_bdE h
        refine ev_call (M' := mf_bad) (L' := [some (.ref 0), some (.int (-2))]) (rest := []) (rv := some (.int c1501.1)) (h' := (HX c1501.2 T)) rfl (Ef_bad_0 (-2) c1492.2 _ _ hq T) ?_
        show ai_ev D1 mf_shaken 36 [some (.ref 0), some (.int x1487), some (.int x1488), some (.int x1489), none, none, none, none] [.int c1501.1] (HX c1501.2 T) 0 0 _
        obtain ⟨rfl, rfl⟩ := ai_smP h
        exact ev_end rfl
      · refine ev_if_ne (t := 37) rfl rfl (fun _ => ?_) (fun c9 => absurd c9 hc)
        refine ev_go 1 (pc' := 38) (L' := [some (.ref 0), some (.int x1487), some (.int x1488), some (.int x1489), none, none, none, none]) (st' := [.int x1489]) (h' := (HX c1492.2 T)) (cs' := 0) (sl' := 0) rfl ?_
        rcases ai_ifE h with ⟨hc, h⟩ | ⟨hc, h⟩
        · refine ev_if_ne (t := 45) rfl rfl (fun c9 => absurd hc c9) (fun _ => ?_)
          refine ev_go 9 (pc' := 64) (L' := [some (.ref 0), some (.int x1487), some (.int x1488), some (.int x1489), some (.int 0), some (.int 0), some (.int x1487), some (.int 0)]) (st' := []) (h' := (HX c1492.2 T)) (cs' := 0) (sl' := 0) rfl ?_
          exact ih0 _ _ _ _ _ _ _ _ _ _ h T
        · refine ev_if_ne (t := 45) rfl rfl (fun _ => ?_) (fun c9 => absurd c9 hc)
          refine ev_go 3 (pc' := 50) (L' := [some (.ref 0), some (.int x1487), some (.int x1488), some (.int x1489), none, none, none, none]) (st' := [.int x1488, .ref 1]) (h' := (HX c1492.2 T)) (cs' := 0) (sl' := 0) rfl ?_
          obtain ⟨c1500, hq, h⟩ := ai_bdE h
          refine ev_call (M' := msea_allThick) (L' := [some (.ref 1), some (.int x1488), none, none]) (rest := []) (rv := some (.int c1500.1)) (h' := (HX c1500.2 T)) rfl (Esea_allThick_1 n x1488 c1492.2 _ _ hq T) ?_
          show ai_ev D1 mf_shaken 53 [some (.ref 0), some (.int x1487), some (.int x1488), some (.int x1489), none, none, none, none] [.int c1500.1] (HX c1500.2 T) 0 0 _
          refine ev_go 7 (pc' := 64) (L' := [some (.ref 0), some (.int x1487), some (.int x1488), some (.int x1489), some (.int c1500.1), some (.int 0), some (.int x1487), some (.int 0)]) (st' := []) (h' := (HX c1500.2 T)) (cs' := 0) (sl' := 0) rfl ?_
          exact ih0 _ _ _ _ _ _ _ _ _ _ h T
