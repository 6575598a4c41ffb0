set_option maxHeartbeats 40000000 in
set_option maxRecDepth 100000 in
theorem EGf_lies_0 : ∀ n : Nat, (∀ (y1524 : Int32) (y1525 : Int32) (y1526 : Int32) (y1527 : Int32) (y1528 : Int32) (y1529 : Int32) (y1530 : Int32) (y1531 : Int32) (y1532 : Int32) (w : WX) (r : Int32) (w' : WX), Gf_lies_0 n 0 y1524 y1525 y1526 y1527 y1528 y1529 y1530 y1531 y1532 w = some (r, w') → ∀ (T : ai_H), ai_ev D1 mf_lies 71 [some (.ref 0), some (.int y1524), some (.int y1525), some (.int y1526), some (.int y1527), some (.int y1528), some (.int y1529), some (.int y1530), some (.int y1531), some (.int y1532)] [] (HX w T) 0 0 (some (.int r), HX w' T)) := by
  intro n
  induction n with
  | zero =>
    exact (fun _ _ _ _ _ _ _ _ _ _ _ _ h => by cases h)
  | succ n ih0 =>
    intro y1524 y1525 y1526 y1527 y1528 y1529 y1530 y1531 y1532 w r w' h T
    simp only [Gf_lies_0] at h
    refine ev_go 2 (pc' := 75) (L' := [some (.ref 0), some (.int y1524), some (.int y1525), some (.int y1526), some (.int y1527), some (.int y1528), some (.int y1529), some (.int y1530), some (.int y1531), some (.int y1532)]) (st' := [.int 99, .int y1532]) (h' := (HX w T)) (cs' := 0) (sl' := 0) rfl ?_
    rcases ai_ifE h with ⟨hc, h⟩ | ⟨hc, h⟩
    · refine ev_ic_gt (t := 146) rfl rfl (fun _ => ?_) (fun c9 => absurd hc c9)
      refine ev_go 1 (pc' := 148) (L' := [some (.ref 0), some (.int y1524), some (.int y1525), some (.int y1526), some (.int y1527), some (.int y1528), some (.int y1529), some (.int y1530), some (.int y1531), some (.int y1532)]) (st' := [.int y1528]) (h' := (HX w T)) (cs' := 0) (sl' := 0) rfl ?_
      rcases ai_ifE h with ⟨hc, h⟩ | ⟨hc, h⟩
      · refine ev_if_ne (t := 154) rfl rfl (fun c9 => absurd hc c9) (fun _ => ?_)
        refine ev_go 1 (pc' := 153) (L' := [some (.ref 0), some (.int y1524), some (.int y1525), some (.int y1526), some (.int y1527), some (.int y1528), some (.int y1529), some (.int y1530), some (.int y1531), some (.int y1532)]) (st' := [.int y1529]) (h' := (HX w T)) (cs' := 0) (sl' := 0) rfl ?_
        obtain ⟨rfl, rfl⟩ := ai_smP h
        exact ev_end rfl
      · refine ev_if_ne (t := 154) rfl rfl (fun _ => ?_) (fun c9 => absurd c9 hc)
        refine ev_go 2 (pc' := 157) (L' := [some (.ref 0), some (.int y1524), some (.int y1525), some (.int y1526), some (.int y1527), some (.int y1528), some (.int y1529), some (.int y1530), some (.int y1531), some (.int y1532)]) (st' := [.int 1, .int y1528]) (h' := (HX w T)) (cs' := 0) (sl' := 0) rfl ?_
        rcases ai_ifE h with ⟨hc, h⟩ | ⟨hc, h⟩
        · refine ev_ic_ne (t := 165) rfl rfl (fun c9 => absurd hc c9) (fun _ => ?_)
          refine ev_go 2 (pc' := 167) (L' := [some (.ref 0), some (.int y1524), some (.int y1525), some (.int y1526), some (.int y1527), some (.int y1528), some (.int y1529), some (.int y1530), some (.int y1531), some (.int y1532)]) (st' := [.int y1530]) (h' := (HX w T)) (cs' := 0) (sl' := 0) rfl ?_
          obtain ⟨rfl, rfl⟩ := ai_smP h
          exact ev_end rfl
        · refine ev_ic_ne (t := 165) rfl rfl (fun _ => ?_) (fun c9 => absurd c9 hc)
          refine ev_go 1 (pc' := 167) (L' := [some (.ref 0), some (.int y1524), some (.int y1525), some (.int y1526), some (.int y1527), some (.int y1528), some (.int y1529), some (.int y1530), some (.int y1531), some (.int y1532)]) (st' := [.int y1531]) (h' := (HX w T)) (cs' := 0) (sl' := 0) rfl ?_
          obtain ⟨rfl, rfl⟩ := ai_smP h
          exact ev_end rfl
    · refine ev_ic_gt (t := 146) rfl rfl (fun c9 => absurd c9 hc) (fun _ => ?_)
      refine ev_go 7 (pc' := 89) (L' := [some (.ref 0), some (.int y1524), some (.int y1525), some (.int y1526), some (.int y1527), some (.int y1528), some (.int y1529), some (.int y1530), some (.int y1531), some (.int y1532)]) (st' := [.int y1527, .int 0, .int y1524, .int y1532, .int 4, .ref 81]) (h' := (HX w T)) (cs' := 0) (sl' := 0) rfl ?_
      obtain ⟨c1533, hq, h⟩ := ai_bdE h
      refine ev_call (M' := mfall_shape) (L' := [some (.ref 81), some (.int 4), some (.int y1532), some (.int y1524), some (.int 0), some (.int y1527)]) (rest := []) (rv := none) (h' := (HX c1533 T)) rfl (Efall_shape_81 4 y1532 y1524 0 y1527 w _ hq T) ?_
      show ai_ev D1 mf_lies 92 [some (.ref 0), some (.int y1524), some (.int y1525), some (.int y1526), some (.int y1527), some (.int y1528), some (.int y1529), some (.int y1530), some (.int y1531), some (.int y1532)] [] (HX c1533 T) 0 0 _
      refine ev_go 7 (pc' := 104) (L' := [some (.ref 0), some (.int y1524), some (.int y1525), some (.int y1526), some (.int y1527), some (.int y1528), some (.int y1529), some (.int y1530), some (.int y1531), some (.int y1532)]) (st' := [.int 0, .int y1527, .int y1525, .ref 1, .ref 81]) (h' := (HX c1533 T)) (cs' := 0) (sl' := 0) rfl ?_
      obtain ⟨c1534, hq, h⟩ := ai_bdE h
      refine ev_call (M' := mfall_letGo) (L' := [some (.ref 81), some (.ref 1), some (.int y1525), some (.int y1527), some (.int 0), none, none, none]) (rest := []) (rv := none) (h' := (HX c1534 T)) rfl (Efall_letGo_81_1 n y1525 y1527 0 c1533 _ hq T) ?_
      show ai_ev D1 mf_lies 107 [some (.ref 0), some (.int y1524), some (.int y1525), some (.int y1526), some (.int y1527), some (.int y1528), some (.int y1529), some (.int y1530), some (.int y1531), some (.int y1532)] [] (HX c1534 T) 0 0 _
      refine ev_go 4 (pc' := 115) (L' := [some (.ref 0), some (.int y1524), some (.int y1525), some (.int y1526), some (.int y1527), some (.int y1528), some (.int y1529), some (.int y1530), some (.int y1531), some (.int y1532)]) (st' := [.int y1526, .int (a_fall_layer c1534)]) (h' := (HX c1534 T)) (cs' := 0) (sl' := 0) rfl ?_
      rcases ai_ifE h with ⟨hc, h⟩ | ⟨hc, h⟩
      · refine ev_ic_ne (t := 140) rfl rfl (fun c9 => absurd hc c9) (fun _ => ?_)
        refine ev_go 3 (pc' := 124) (L' := [some (.ref 0), some (.int y1524), some (.int y1525), some (.int y1526), some (.int y1527), some (.int y1528), some (.int (y1529 + 1)), some (.int y1530), some (.int y1531), some (.int y1532)]) (st' := [.int (-1), .int y1530]) (h' := (HX c1534 T)) (cs' := 0) (sl' := 0) rfl ?_
        rcases ai_ifE h with ⟨hc, h⟩ | ⟨hc, h⟩
        · refine ev_ic_ne (t := 132) rfl rfl (fun c9 => absurd hc c9) (fun _ => ?_)
          refine ev_go 7 (pc' := 71) (L' := [some (.ref 0), some (.int y1524), some (.int y1525), some (.int y1526), some (.int y1527), some (.int y1528), some (.int (y1529 + 1)), some (.int y1532), some (.int y1532), some (.int (y1532 + 1))]) (st' := []) (h' := (HX c1534 T)) (cs' := 0) (sl' := 0) rfl ?_
          exact ih0 _ _ _ _ _ _ _ _ _ _ _ _ h T
        · refine ev_ic_ne (t := 132) rfl rfl (fun _ => ?_) (fun c9 => absurd c9 hc)
          refine ev_go 6 (pc' := 71) (L' := [some (.ref 0), some (.int y1524), some (.int y1525), some (.int y1526), some (.int y1527), some (.int y1528), some (.int (y1529 + 1)), some (.int y1530), some (.int y1532), some (.int (y1532 + 1))]) (st' := []) (h' := (HX c1534 T)) (cs' := 0) (sl' := 0) rfl ?_
          exact ih0 _ _ _ _ _ _ _ _ _ _ _ _ h T
      · refine ev_ic_ne (t := 140) rfl rfl (fun _ => ?_) (fun c9 => absurd c9 hc)
        refine ev_go 2 (pc' := 71) (L' := [some (.ref 0), some (.int y1524), some (.int y1525), some (.int y1526), some (.int y1527), some (.int y1528), some (.int y1529), some (.int y1530), some (.int y1531), some (.int (y1532 + 1))]) (st' := []) (h' := (HX c1534 T)) (cs' := 0) (sl' := 0) rfl ?_
        exact ih0 _ _ _ _ _ _ _ _ _ _ _ _ h T
set_option maxHeartbeats 40000000 in
set_option maxRecDepth 100000 in
theorem Ef_lies_0 (n : Nat) (x1509 : Int32) (x1510 : Int32) (x1511 : Int32) (x1512 : Int32) (x1513 : Int32) (w : WX) (r : Int32) (w' : WX) (h : Ff_lies_0 n x1509 x1510 x1511 x1512 x1513 w = some (r, w')) (T : ai_H) : ai_ev D1 mf_lies 0 [some (.ref 0), some (.int x1509), some (.int x1510), some (.int x1511), some (.int x1512), some (.int x1513), none, none, none, none] [] (HX w T) 0 0 (some (.int r), HX w' T) := by
  unfold Ff_lies_0 at h
  have ih0 := EGf_lies_0 n
  refine ev_go 3 (pc' := 4) (L' := [some (.ref 0), some (.int x1509), some (.int x1510), some (.int x1511), some (.int x1512), some (.int x1513), none, none, none, none]) (st' := [.int 9, .int 1, .int x1509]) (h' := (HX w T)) (cs' := 0) (sl' := 0) rfl ?_
  obtain ⟨c1514, hq, h⟩ := ai_bdE h
  refine ev_call (M' := mf_within) (L' := [some (.int x1509), some (.int 1), some (.int 9)]) (rest := []) (rv := some (.int c1514)) (h' := (HX w T)) rfl (Ef_within x1509 1 9 _ hq (HX w T)) ?_
  show ai_ev D1 mf_lies 7 [some (.ref 0), some (.int x1509), some (.int x1510), some (.int x1511), some (.int x1512), some (.int x1513), none, none, none, none] [.int c1514] (HX w T) 0 0 _
  rcases ai_ifE h with ⟨hc, h⟩ | ⟨hc, h⟩
  · refine ev_if_eq (t := 52) rfl rfl (fun _ => ?_) (fun c9 => absurd hc c9)
    refine ev_go 2 (pc' := 55) (L' := [some (.ref 0), some (.int x1509), some (.int x1510), some (.int x1511), some (.int x1512), some (.int x1513), none, none, none, none]) (st' := [.int (-10), .ref 0]) (h' := (HX w T)) (cs' := 0) (sl' := 0) rfl ?_
    obtain ⟨c1515, hq, h⟩ := ai_bdE h
    refine ev_call (M' := mf_bad) (L' := [some (.ref 0), some (.int (-10))]) (rest := []) (rv := some (.int c1515.1)) (h' := (HX c1515.2 T)) rfl (Ef_bad_0 (-10) w _ _ hq T) ?_
    show ai_ev D1 mf_lies 58 [some (.ref 0), some (.int x1509), some (.int x1510), some (.int x1511), some (.int x1512), some (.int x1513), none, none, none, none] [.int c1515.1] (HX c1515.2 T) 0 0 _
    obtain ⟨rfl, rfl⟩ := ai_smP h
    exact ev_end rfl
  · refine ev_if_eq (t := 52) rfl rfl (fun c9 => absurd c9 hc) (fun _ => ?_)
    refine ev_go 3 (pc' := 15) (L' := [some (.ref 0), some (.int x1509), some (.int x1510), some (.int x1511), some (.int x1512), some (.int x1513), none, none, none, none]) (st' := [.int x1510, .ref 1]) (h' := (HX w T)) (cs' := 0) (sl' := 0) rfl ?_
    obtain ⟨c1516, hq, h⟩ := ai_bdE h
    refine ev_call (M' := msea_hasCell) (L' := [some (.ref 1), some (.int x1510)]) (rest := []) (rv := some (.int c1516.1)) (h' := (HX c1516.2 T)) rfl (Esea_hasCell_1 x1510 w _ _ hq T) ?_
    show ai_ev D1 mf_lies 18 [some (.ref 0), some (.int x1509), some (.int x1510), some (.int x1511), some (.int x1512), some (.int x1513), none, none, none, none] [.int c1516.1] (HX c1516.2 T) 0 0 _
    rcases ai_ifE h with ⟨hc, h⟩ | ⟨hc, h⟩
    · refine ev_if_eq (t := 52) rfl rfl (fun _ => ?_) (fun c9 => absurd hc c9)
      refine ev_go 2 (pc' := 55) (L' := [some (.ref 0), some (.int x1509), some (.int x1510), some (.int x1511), some (.int x1512), some (.int x1513), none, none, none, none]) (st' := [.int (-10), .ref 0]) (h' := (HX c1516.2 T)) (cs' := 0) (sl' := 0) rfl ?_
      obtain ⟨c1517, hq, h⟩ := ai_bdE h
      refine ev_call (M' := mf_bad) (L' := [some (.ref 0), some (.int (-10))]) (rest := []) (rv := some (.int c1517.1)) (h' := (HX c1517.2 T)) rfl (Ef_bad_0 (-10) c1516.2 _ _ hq T) ?_
      show ai_ev D1 mf_lies 58 [some (.ref 0), some (.int x1509), some (.int x1510), some (.int x1511), some (.int x1512), some (.int x1513), none, none, none, none] [.int c1517.1] (HX c1517.2 T) 0 0 _
      obtain ⟨rfl, rfl⟩ := ai_smP h
      exact ev_end rfl
    · refine ev_if_eq (t := 52) rfl rfl (fun c9 => absurd c9 hc) (fun _ => ?_)
      refine ev_go 3 (pc' := 24) (L' := [some (.ref 0), some (.int x1509), some (.int x1510), some (.int x1511), some (.int x1512), some (.int x1513), none, none, none, none]) (st' := [.int 4, .int 0, .int x1511]) (h' := (HX c1516.2 T)) (cs' := 0) (sl' := 0) rfl ?_
      obtain ⟨c1518, hq, h⟩ := ai_bdE h
      refine ev_call (M' := mf_within) (L' := [some (.int x1511), some (.int 0), some (.int 4)]) (rest := []) (rv := some (.int c1518)) (h' := (HX c1516.2 T)) rfl (Ef_within x1511 0 4 _ hq (HX c1516.2 T)) ?_
      show ai_ev D1 mf_lies 27 [some (.ref 0), some (.int x1509), some (.int x1510), some (.int x1511), some (.int x1512), some (.int x1513), none, none, none, none] [.int c1518] (HX c1516.2 T) 0 0 _
      rcases ai_ifE h with ⟨hc, h⟩ | ⟨hc, h⟩
      · refine ev_if_eq (t := 52) rfl rfl (fun _ => ?_) (fun c9 => absurd hc c9)
        refine ev_go 2 (pc' := 55) (L' := [some (.ref 0), some (.int x1509), some (.int x1510), some (.int x1511), some (.int x1512), some (.int x1513), none, none, none, none]) (st' := [.int (-10), .ref 0]) (h' := (HX c1516.2 T)) (cs' := 0) (sl' := 0) rfl ?_
        obtain ⟨c1519, hq, h⟩ := ai_bdE h
        refine ev_call (M' := mf_bad) (L' := [some (.ref 0), some (.int (-10))]) (rest := []) (rv := some (.int c1519.1)) (h' := (HX c1519.2 T)) rfl (Ef_bad_0 (-10) c1516.2 _ _ hq T) ?_
        show ai_ev D1 mf_lies 58 [some (.ref 0), some (.int x1509), some (.int x1510), some (.int x1511), some (.int x1512), some (.int x1513), none, none, none, none] [.int c1519.1] (HX c1519.2 T) 0 0 _
        obtain ⟨rfl, rfl⟩ := ai_smP h
        exact ev_end rfl
      · refine ev_if_eq (t := 52) rfl rfl (fun c9 => absurd c9 hc) (fun _ => ?_)
        refine ev_go 3 (pc' := 36) (L' := [some (.ref 0), some (.int x1509), some (.int x1510), some (.int x1511), some (.int x1512), some (.int x1513), none, none, none, none]) (st' := [.int 999, .int 0, .int x1512]) (h' := (HX c1516.2 T)) (cs' := 0) (sl' := 0) rfl ?_
        obtain ⟨c1520, hq, h⟩ := ai_bdE h
        refine ev_call (M' := mf_within) (L' := [some (.int x1512), some (.int 0), some (.int 999)]) (rest := []) (rv := some (.int c1520)) (h' := (HX c1516.2 T)) rfl (Ef_within x1512 0 999 _ hq (HX c1516.2 T)) ?_
        show ai_ev D1 mf_lies 39 [some (.ref 0), some (.int x1509), some (.int x1510), some (.int x1511), some (.int x1512), some (.int x1513), none, none, none, none] [.int c1520] (HX c1516.2 T) 0 0 _
        rcases ai_ifE h with ⟨hc, h⟩ | ⟨hc, h⟩
        · refine ev_if_eq (t := 52) rfl rfl (fun _ => ?_) (fun c9 => absurd hc c9)
          refine ev_go 2 (pc' := 55) (L' := [some (.ref 0), some (.int x1509), some (.int x1510), some (.int x1511), some (.int x1512), some (.int x1513), none, none, none, none]) (st' := [.int (-10), .ref 0]) (h' := (HX c1516.2 T)) (cs' := 0) (sl' := 0) rfl ?_
          obtain ⟨c1521, hq, h⟩ := ai_bdE h
          refine ev_call (M' := mf_bad) (L' := [some (.ref 0), some (.int (-10))]) (rest := []) (rv := some (.int c1521.1)) (h' := (HX c1521.2 T)) rfl (Ef_bad_0 (-10) c1516.2 _ _ hq T) ?_
          show ai_ev D1 mf_lies 58 [some (.ref 0), some (.int x1509), some (.int x1510), some (.int x1511), some (.int x1512), some (.int x1513), none, none, none, none] [.int c1521.1] (HX c1521.2 T) 0 0 _
          obtain ⟨rfl, rfl⟩ := ai_smP h
          exact ev_end rfl
        · refine ev_if_eq (t := 52) rfl rfl (fun c9 => absurd c9 hc) (fun _ => ?_)
          refine ev_go 3 (pc' := 46) (L' := [some (.ref 0), some (.int x1509), some (.int x1510), some (.int x1511), some (.int x1512), some (.int x1513), none, none, none, none]) (st' := [.int 2, .int 0, .int x1513]) (h' := (HX c1516.2 T)) (cs' := 0) (sl' := 0) rfl ?_
          obtain ⟨c1522, hq, h⟩ := ai_bdE h
          refine ev_call (M' := mf_within) (L' := [some (.int x1513), some (.int 0), some (.int 2)]) (rest := []) (rv := some (.int c1522)) (h' := (HX c1516.2 T)) rfl (Ef_within x1513 0 2 _ hq (HX c1516.2 T)) ?_
          show ai_ev D1 mf_lies 49 [some (.ref 0), some (.int x1509), some (.int x1510), some (.int x1511), some (.int x1512), some (.int x1513), none, none, none, none] [.int c1522] (HX c1516.2 T) 0 0 _
          rcases ai_ifE h with ⟨hc, h⟩ | ⟨hc, h⟩
          · refine ev_if_ne (t := 59) rfl rfl (fun c9 => absurd hc c9) (fun _ => ?_)
            refine ev_go 2 (pc' := 55) (L' := [some (.ref 0), some (.int x1509), some (.int x1510), some (.int x1511), some (.int x1512), some (.int x1513), none, none, none, none]) (st' := [.int (-10), .ref 0]) (h' := (HX c1516.2 T)) (cs' := 0) (sl' := 0) rfl ?_
            obtain ⟨c1523, hq, h⟩ := ai_bdE h
            refine ev_call (M' := mf_bad) (L' := [some (.ref 0), some (.int (-10))]) (rest := []) (rv := some (.int c1523.1)) (h' := (HX c1523.2 T)) rfl (Ef_bad_0 (-10) c1516.2 _ _ hq T) ?_
            show ai_ev D1 mf_lies 58 [some (.ref 0), some (.int x1509), some (.int x1510), some (.int x1511), some (.int x1512), some (.int x1513), none, none, none, none] [.int c1523.1] (HX c1523.2 T) 0 0 _
            obtain ⟨rfl, rfl⟩ := ai_smP h
            exact ev_end rfl
          · refine ev_if_ne (t := 59) rfl rfl (fun _ => ?_) (fun c9 => absurd c9 hc)
            refine ev_go 8 (pc' := 71) (L' := [some (.ref 0), some (.int x1509), some (.int x1510), some (.int x1511), some (.int x1512), some (.int x1513), some (.int 0), some (.int (-1)), some (.int (-1)), some (.int 1)]) (st' := []) (h' := (HX c1516.2 T)) (cs' := 0) (sl' := 0) rfl ?_
            exact ih0 _ _ _ _ _ _ _ _ _ _ _ _ h T
set_option maxHeartbeats 40000000 in
set_option maxRecDepth 100000 in
theorem EGfall_driftFrom_81_1 : ∀ n : Nat, (∀ (y1547 : Int32) (y1548 : Int32) (y1549 : Int32) (w : WX) (r : Int32) (w' : WX), Gfall_driftFrom_81_1 n 0 y1547 y1548 y1549 0 w = some (r, w') → ∀ (T : ai_H) (o5 : Option Value), ai_ev D1 mfall_driftFrom 5 [some (.ref 81), some (.ref 1), some (.int y1547), some (.int y1548), some (.int y1549), o5] [] (HX w T) 0 0 (some (.int r), HX w' T)) ∧ (∀ (y1550 : Int32) (y1551 : Int32) (y1552 : Int32) (y1553 : Int32) (w : WX) (r : Int32) (w' : WX), Gfall_driftFrom_81_1 n 1 y1550 y1551 y1552 y1553 w = some (r, w') → ∀ (T : ai_H), ai_ev D1 mfall_driftFrom 14 [some (.ref 81), some (.ref 1), some (.int y1550), some (.int y1551), some (.int y1552), some (.int y1553)] [] (HX w T) 0 0 (some (.int r), HX w' T)) := by
  intro n
  induction n with
  | zero =>
    exact ⟨(fun _ _ _ _ _ _ h => by cases h), (fun _ _ _ _ _ _ _ h => by cases h)⟩
  | succ n ih =>
    obtain ⟨ih0, ih1⟩ := ih
    refine ⟨?_, ?_⟩
    · intro y1547 y1548 y1549 w r w' h T o5
      simp only [Gfall_driftFrom_81_1] at h
      refine ev_go 2 (pc' := 8) (L' := [some (.ref 81), some (.ref 1), some (.int y1547), some (.int y1548), some (.int y1549), o5]) (st' := [.int 4, .int y1549]) (h' := (HX w T)) (cs' := 0) (sl' := 0) rfl ?_
      rcases ai_ifE h with ⟨hc, h⟩ | ⟨hc, h⟩
      · refine ev_ic_ge (t := 61) rfl rfl (fun _ => ?_) (fun c9 => absurd hc c9)
        refine ev_go 1 (pc' := 62) (L' := [some (.ref 81), some (.ref 1), some (.int y1547), some (.int y1548), some (.int y1549), o5]) (st' := [.int y1548]) (h' := (HX w T)) (cs' := 0) (sl' := 0) rfl ?_
        obtain ⟨rfl, rfl⟩ := ai_smP h
        exact ev_end rfl
      · refine ev_ic_ge (t := 61) rfl rfl (fun c9 => absurd c9 hc) (fun _ => ?_)
        refine ev_go 2 (pc' := 14) (L' := [some (.ref 81), some (.ref 1), some (.int y1547), some (.int y1548), some (.int y1549), some (.int 0)]) (st' := []) (h' := (HX w T)) (cs' := 0) (sl' := 0) rfl ?_
        exact ih1 _ _ _ _ _ _ _ h T
    · intro y1550 y1551 y1552 y1553 w r w' h T
      simp only [Gfall_driftFrom_81_1] at h
      refine ev_go 4 (pc' := 22) (L' := [some (.ref 81), some (.ref 1), some (.int y1550), some (.int y1551), some (.int y1552), some (.int y1553)]) (st' := [.int y1552, .ref 82, .int y1553]) (h' := (HX w T)) (cs' := 0) (sl' := 0) rfl ?_
      obtain ⟨v1554, hq, h⟩ := ai_bdE h
      refine ev_iald rfl rfl hq ?_
      rcases ai_ifE h with ⟨hc, h⟩ | ⟨hc, h⟩
      · refine ev_ic_ge (t := 55) rfl rfl (fun _ => ?_) (fun c9 => absurd hc c9)
        refine ev_go 2 (pc' := 5) (L' := [some (.ref 81), some (.ref 1), some (.int y1550), some (.int y1551), some (.int (y1552 + 1)), some (.int y1553)]) (st' := []) (h' := (HX w T)) (cs' := 0) (sl' := 0) rfl ?_
        exact ih0 _ _ _ _ _ _ h T _
      · refine ev_ic_ge (t := 55) rfl rfl (fun c9 => absurd c9 hc) (fun _ => ?_)
        refine ev_go 9 (pc' := 40) (L' := [some (.ref 81), some (.ref 1), some (.int y1550), some (.int y1551), some (.int y1552), some (.int y1553)]) (st' := [.int y1552, .ref 3, .int y1551, .int ((a_s1_cells w) - 1), .int 0]) (h' := (HX w T)) (cs' := 0) (sl' := 0) rfl ?_
        obtain ⟨v1555, hq, h⟩ := ai_bdE h
        refine ev_iald rfl rfl hq ?_
        refine ev_go 6 (pc' := 14) (L' := [some (.ref 81), some (.ref 1), some (.int y1550), some (.int (if 0 < (if (y1551 + v1555) < ((a_s1_cells w) - 1) then (y1551 + v1555) else ((a_s1_cells w) - 1)) then (if (y1551 + v1555) < ((a_s1_cells w) - 1) then (y1551 + v1555) else ((a_s1_cells w) - 1)) else 0)), some (.int y1552), some (.int (y1553 + 1))]) (st' := []) (h' := (HX w T)) (cs' := 0) (sl' := 0) rfl ?_
        exact ih1 _ _ _ _ _ _ _ h T
set_option maxHeartbeats 40000000 in
set_option maxRecDepth 100000 in
theorem Efall_driftFrom_81_1 (n : Nat) (x1546 : Int32) (w : WX) (r : Int32) (w' : WX) (h : Ffall_driftFrom_81_1 n x1546 w = some (r, w')) (T : ai_H) : ai_ev D1 mfall_driftFrom 0 [some (.ref 81), some (.ref 1), some (.int x1546), none, none, none] [] (HX w T) 0 0 (some (.int r), HX w' T) := by
  unfold Ffall_driftFrom_81_1 at h
  obtain ⟨ih0, ih1⟩ := EGfall_driftFrom_81_1 n
  refine ev_go 4 (pc' := 5) (L' := [some (.ref 81), some (.ref 1), some (.int x1546), some (.int x1546), some (.int 0), none]) (st' := []) (h' := (HX w T)) (cs' := 0) (sl' := 0) rfl ?_
  exact ih0 _ _ _ _ _ _ h T _
set_option maxHeartbeats 40000000 in
set_option maxRecDepth 100000 in
theorem EGf_wentIn_0 : ∀ n : Nat, (∀ (y1541 : Int32) (y1542 : Int32) (y1543 : Int32) (y1544 : Int32) (w : WX) (r : Int32) (w' : WX), Gf_wentIn_0 n 0 y1541 y1542 y1543 y1544 w = some (r, w') → ∀ (T : ai_H), ai_ev D1 mf_wentIn 37 [some (.ref 0), some (.int y1541), some (.int y1542), some (.int y1543), some (.int y1544)] [] (HX w T) 0 0 (some (.int r), HX w' T)) := by
  intro n
  induction n with
  | zero =>
    exact (fun _ _ _ _ _ _ _ h => by cases h)
  | succ n ih0 =>
    intro y1541 y1542 y1543 y1544 w r w' h T
    simp only [Gf_wentIn_0] at h
    refine ev_go 4 (pc' := 46) (L' := [some (.ref 0), some (.int y1541), some (.int y1542), some (.int y1543), some (.int y1544)]) (st' := [.int (a_s1_cells w), .int y1544]) (h' := (HX w T)) (cs' := 0) (sl' := 0) rfl ?_
    rcases ai_ifE h with ⟨hc, h⟩ | ⟨hc, h⟩
    · refine ev_ic_ge (t := 87) rfl rfl (fun _ => ?_) (fun c9 => absurd hc c9)
      refine ev_go 1 (pc' := 88) (L' := [some (.ref 0), some (.int y1541), some (.int y1542), some (.int y1543), some (.int y1544)]) (st' := [.int y1543]) (h' := (HX w T)) (cs' := 0) (sl' := 0) rfl ?_
      obtain ⟨rfl, rfl⟩ := ai_smP h
      exact ev_end rfl
    · refine ev_ic_ge (t := 87) rfl rfl (fun c9 => absurd c9 hc) (fun _ => ?_)
      refine ev_go 4 (pc' := 54) (L' := [some (.ref 0), some (.int y1541), some (.int y1542), some (.int y1543), some (.int y1544)]) (st' := [.int 0, .int y1544, .int y1541, .ref 0]) (h' := (HX w T)) (cs' := 0) (sl' := 0) rfl ?_
      obtain ⟨c1545, hq, h⟩ := ai_bdE h
      refine ev_call (M' := mf_letGoNow) (L' := [some (.ref 0), some (.int y1541), some (.int y1544), some (.int 0)]) (rest := []) (rv := none) (h' := (HX c1545 T)) rfl (Ef_letGoNow_0 n y1541 y1544 0 w _ hq T) ?_
      show ai_ev D1 mf_wentIn 57 [some (.ref 0), some (.int y1541), some (.int y1542), some (.int y1543), some (.int y1544)] [] (HX c1545 T) 0 0 _
      refine ev_go 5 (pc' := 67) (L' := [some (.ref 0), some (.int y1541), some (.int y1542), some (.int y1543), some (.int y1544)]) (st' := [.int y1544, .ref 1, .ref 81]) (h' := (HX c1545 T)) (cs' := 0) (sl' := 0) rfl ?_
      obtain ⟨c1556, hq, h⟩ := ai_bdE h
      refine ev_call (M' := mfall_driftFrom) (L' := [some (.ref 81), some (.ref 1), some (.int y1544), none, none, none]) (rest := []) (rv := some (.int c1556.1)) (h' := (HX c1556.2 T)) rfl (Efall_driftFrom_81_1 n y1544 c1545 _ _ hq T) ?_
      show ai_ev D1 mf_wentIn 70 [some (.ref 0), some (.int y1541), some (.int y1542), some (.int y1543), some (.int y1544)] [.int c1556.1] (HX c1556.2 T) 0 0 _
      refine ev_go 1 (pc' := 71) (L' := [some (.ref 0), some (.int y1541), some (.int y1542), some (.int y1543), some (.int y1544)]) (st' := [.int y1542, .int c1556.1]) (h' := (HX c1556.2 T)) (cs' := 0) (sl' := 0) rfl ?_
      rcases ai_ifE h with ⟨hc, h⟩ | ⟨hc, h⟩
      · refine ev_ic_ne (t := 81) rfl rfl (fun c9 => absurd hc c9) (fun _ => ?_)
        refine ev_go 8 (pc' := 37) (L' := [some (.ref 0), some (.int y1541), some (.int y1542), some (.int (y1543 ||| (1 <<< (y1544 &&& 31)))), some (.int (y1544 + 1))]) (st' := []) (h' := (HX c1556.2 T)) (cs' := 0) (sl' := 0) rfl ?_
        exact ih0 _ _ _ _ _ _ _ h T
      · refine ev_ic_ne (t := 81) rfl rfl (fun _ => ?_) (fun c9 => absurd c9 hc)
        refine ev_go 2 (pc' := 37) (L' := [some (.ref 0), some (.int y1541), some (.int y1542), some (.int y1543), some (.int (y1544 + 1))]) (st' := []) (h' := (HX c1556.2 T)) (cs' := 0) (sl' := 0) rfl ?_
        exact ih0 _ _ _ _ _ _ _ h T
set_option maxHeartbeats 40000000 in
set_option maxRecDepth 100000 in
theorem Ef_wentIn_0 (n : Nat) (x1535 : Int32) (x1536 : Int32) (w : WX) (r : Int32) (w' : WX) (h : Ff_wentIn_0 n x1535 x1536 w = some (r, w')) (T : ai_H) : ai_ev D1 mf_wentIn 0 [some (.ref 0), some (.int x1535), some (.int x1536), none, none] [] (HX w T) 0 0 (some (.int r), HX w' T) := by
  unfold Ff_wentIn_0 at h
  have ih0 := EGf_wentIn_0 n
  refine ev_go 4 (pc' := 8) (L' := [some (.ref 0), some (.int x1535), some (.int x1536), none, none]) (st' := [.int x1535, .ref 7]) (h' := (HX w T)) (cs' := 0) (sl' := 0) rfl ?_
  obtain ⟨c1537, hq, h⟩ := ai_bdE h
  refine ev_call (M' := mthg_has) (L' := [some (.ref 7), some (.int x1535)]) (rest := []) (rv := some (.int c1537.1)) (h' := (HX c1537.2 T)) rfl (Ethg_has_7 x1535 w _ _ hq T) ?_
  show ai_ev D1 mf_wentIn 11 [some (.ref 0), some (.int x1535), some (.int x1536), none, none] [.int c1537.1] (HX c1537.2 T) 0 0 _
  rcases ai_ifE h with ⟨hc, h⟩ | ⟨hc, h⟩
  · refine ev_if_eq (t := 25) rfl rfl (fun _ => ?_) (fun c9 => absurd hc c9)
    refine ev_go 2 (pc' := 28) (L' := [some (.ref 0), some (.int x1535), some (.int x1536), none, none]) (st' := [.int (-2), .ref 0]) (h' := (HX c1537.2 T)) (cs' := 0) (sl' := 0) rfl ?_
    obtain ⟨c1538, hq, h⟩ := ai_bdE h
    refine ev_call (M' := mf_bad) (L' := [some (.ref 0), some (.int (-2))]) (rest := []) (rv := some (.int c1538.1)) (h' := (HX c1538.2 T)) rfl (Ef_bad_0 (-2) c1537.2 _ _ hq T) ?_
    show ai_ev D1 mf_wentIn 31 [some (.ref 0), some (.int x1535), some (.int x1536), none, none] [.int c1538.1] (HX c1538.2 T) 0 0 _
    obtain ⟨rfl, rfl⟩ := ai_smP h
    exact ev_end rfl
  · refine ev_if_eq (t := 25) rfl rfl (fun c9 => absurd c9 hc) (fun _ => ?_)
    refine ev_go 3 (pc' := 19) (L' := [some (.ref 0), some (.int x1535), some (.int x1536), none, none]) (st' := [.int x1536, .ref 1]) (h' := (HX c1537.2 T)) (cs' := 0) (sl' := 0) rfl ?_
    obtain ⟨c1539, hq, h⟩ := ai_bdE h
    refine ev_call (M' := msea_hasCell) (L' := [some (.ref 1), some (.int x1536)]) (rest := []) (rv := some (.int c1539.1)) (h' := (HX c1539.2 T)) rfl (Esea_hasCell_1 x1536 c1537.2 _ _ hq T) ?_
    show ai_ev D1 mf_wentIn 22 [some (.ref 0), some (.int x1535), some (.int x1536), none, none] [.int c1539.1] (HX c1539.2 T) 0 0 _
    rcases ai_ifE h with ⟨hc, h⟩ | ⟨hc, h⟩
    · refine ev_if_ne (t := 32) rfl rfl (fun c9 => absurd hc c9) (fun _ => ?_)
      refine ev_go 2 (pc' := 28) (L' := [some (.ref 0), some (.int x1535), some (.int x1536), none, none]) (st' := [.int (-2), .ref 0]) (h' := (HX c1539.2 T)) (cs' := 0) (sl' := 0) rfl ?_
      obtain ⟨c1540, hq, h⟩ := ai_bdE h
      refine ev_call (M' := mf_bad) (L' := [some (.ref 0), some (.int (-2))]) (rest := []) (rv := some (.int c1540.1)) (h' := (HX c1540.2 T)) rfl (Ef_bad_0 (-2) c1539.2 _ _ hq T) ?_
      show ai_ev D1 mf_wentIn 31 [some (.ref 0), some (.int x1535), some (.int x1536), none, none] [.int c1540.1] (HX c1540.2 T) 0 0 _
      obtain ⟨rfl, rfl⟩ := ai_smP h
      exact ev_end rfl
    · refine ev_if_ne (t := 32) rfl rfl (fun _ => ?_) (fun c9 => absurd c9 hc)
      refine ev_go 4 (pc' := 37) (L' := [some (.ref 0), some (.int x1535), some (.int x1536), some (.int 0), some (.int 0)]) (st' := []) (h' := (HX c1539.2 T)) (cs' := 0) (sl' := 0) rfl ?_
      exact ih0 _ _ _ _ _ _ _ h T
set_option maxHeartbeats 40000000 in
set_option maxRecDepth 100000 in
theorem EGf_areFish_0 : ∀ n : Nat, (∀ (y1564 : Int32) (y1565 : Int32) (w : WX) (r : Int32) (w' : WX), Gf_areFish_0 n 0 y1564 y1565 w = some (r, w') → ∀ (T : ai_H), ai_ev D1 mf_areFish 26 [some (.ref 0), some (.int y1564), some (.int y1565)] [] (HX w T) 0 0 (some (.int r), HX w' T)) := by
  intro n
  induction n with
  | zero =>
    exact (fun _ _ _ _ _ h => by cases h)
  | succ n ih0 =>
    intro y1564 y1565 w r w' h T
    simp only [Gf_areFish_0] at h
    refine ev_go 5 (pc' := 37) (L' := [some (.ref 0), some (.int y1564), some (.int y1565)]) (st' := [.int (a_s1things_count w), .int y1565]) (h' := (HX w T)) (cs' := 0) (sl' := 0) rfl ?_
    rcases ai_ifE h with ⟨hc, h⟩ | ⟨hc, h⟩
    · refine ev_ic_ge (t := 73) rfl rfl (fun _ => ?_) (fun c9 => absurd hc c9)
      refine ev_go 1 (pc' := 74) (L' := [some (.ref 0), some (.int y1564), some (.int y1565)]) (st' := [.int 1]) (h' := (HX w T)) (cs' := 0) (sl' := 0) rfl ?_
      obtain ⟨rfl, rfl⟩ := ai_smP h
      exact ev_end rfl
    · refine ev_ic_ge (t := 73) rfl rfl (fun c9 => absurd c9 hc) (fun _ => ?_)
      refine ev_go 6 (pc' := 46) (L' := [some (.ref 0), some (.int y1564), some (.int y1565)]) (st' := [.int 1, .int ((y1564 >>> (y1565 &&& 31)) &&& 1)]) (h' := (HX w T)) (cs' := 0) (sl' := 0) rfl ?_
      rcases ai_ifE h with ⟨hc, h⟩ | ⟨hc, h⟩
      · refine ev_ic_ne (t := 67) rfl rfl (fun c9 => absurd hc c9) (fun _ => ?_)
        refine ev_go 5 (pc' := 60) (L' := [some (.ref 0), some (.int y1564), some (.int y1565)]) (st' := [.int y1565, .ref 8]) (h' := (HX w T)) (cs' := 0) (sl' := 0) rfl ?_
        obtain ⟨v1566, hq, h⟩ := ai_bdE h
        refine ev_iald rfl rfl hq ?_
        refine ev_go 1 (pc' := 62) (L' := [some (.ref 0), some (.int y1564), some (.int y1565)]) (st' := [.int 5, .int v1566]) (h' := (HX w T)) (cs' := 0) (sl' := 0) rfl ?_
        rcases ai_ifE h with ⟨hc, h⟩ | ⟨hc, h⟩
        · refine ev_ic_eq (t := 67) rfl rfl (fun _ => ?_) (fun c9 => absurd hc c9)
          refine ev_go 2 (pc' := 26) (L' := [some (.ref 0), some (.int y1564), some (.int (y1565 + 1))]) (st' := []) (h' := (HX w T)) (cs' := 0) (sl' := 0) rfl ?_
          exact ih0 _ _ _ _ _ h T
        · refine ev_ic_eq (t := 67) rfl rfl (fun c9 => absurd c9 hc) (fun _ => ?_)
          refine ev_go 1 (pc' := 66) (L' := [some (.ref 0), some (.int y1564), some (.int y1565)]) (st' := [.int 0]) (h' := (HX w T)) (cs' := 0) (sl' := 0) rfl ?_
          obtain ⟨rfl, rfl⟩ := ai_smP h
          exact ev_end rfl
      · refine ev_ic_ne (t := 67) rfl rfl (fun _ => ?_) (fun c9 => absurd c9 hc)
        refine ev_go 2 (pc' := 26) (L' := [some (.ref 0), some (.int y1564), some (.int (y1565 + 1))]) (st' := []) (h' := (HX w T)) (cs' := 0) (sl' := 0) rfl ?_
        exact ih0 _ _ _ _ _ h T
set_option maxHeartbeats 40000000 in
set_option maxRecDepth 100000 in
theorem Ef_areFish_0 (n : Nat) (x1562 : Int32) (w : WX) (r : Int32) (w' : WX) (h : Ff_areFish_0 n x1562 w = some (r, w')) (T : ai_H) : ai_ev D1 mf_areFish 0 [some (.ref 0), some (.int x1562), none] [] (HX w T) 0 0 (some (.int r), HX w' T) := by
  unfold Ff_areFish_0 at h
  have ih0 := EGf_areFish_0 n
  refine ev_go 10 (pc' := 16) (L' := [some (.ref 0), some (.int x1562), none]) (st' := [.int ((1 <<< ((a_s1things_count w) &&& 31)) - 1), .int 0, .int x1562]) (h' := (HX w T)) (cs' := 0) (sl' := 0) rfl ?_
  obtain ⟨c1563, hq, h⟩ := ai_bdE h
  refine ev_call (M' := mf_within) (L' := [some (.int x1562), some (.int 0), some (.int ((1 <<< ((a_s1things_count w) &&& 31)) - 1))]) (rest := []) (rv := some (.int c1563)) (h' := (HX w T)) rfl (Ef_within x1562 0 ((1 <<< ((a_s1things_count w) &&& 31)) - 1) _ hq (HX w T)) ?_
  show ai_ev D1 mf_areFish 19 [some (.ref 0), some (.int x1562), none] [.int c1563] (HX w T) 0 0 _
  rcases ai_ifE h with ⟨hc, h⟩ | ⟨hc, h⟩
  · refine ev_if_ne (t := 24) rfl rfl (fun c9 => absurd hc c9) (fun _ => ?_)
    refine ev_go 1 (pc' := 23) (L' := [some (.ref 0), some (.int x1562), none]) (st' := [.int 0]) (h' := (HX w T)) (cs' := 0) (sl' := 0) rfl ?_
    obtain ⟨rfl, rfl⟩ := ai_smP h
    exact ev_end rfl
  · refine ev_if_ne (t := 24) rfl rfl (fun _ => ?_) (fun c9 => absurd c9 hc)
    refine ev_go 2 (pc' := 26) (L' := [some (.ref 0), some (.int x1562), some (.int 0)]) (st' := []) (h' := (HX w T)) (cs' := 0) (sl' := 0) rfl ?_
    exact ih0 _ _ _ _ _ h T
set_option maxHeartbeats 40000000 in
set_option maxRecDepth 100000 in
theorem EGf_fillDowns_0 : ∀ n : Nat, (∀ (y1571 : Int32) (y1572 : Int32) (w : WX) (w' : WX), Gf_fillDowns_0 n 0 y1571 y1572 w = some w' → ∀ (T : ai_H), ai_ev D1 mf_fillDowns 2 [some (.ref 0), some (.int y1571), some (.int y1572)] [] (HX w T) 0 0 (none, HX w' T)) := by
  intro n
  induction n with
  | zero =>
    exact (fun _ _ _ _ h => by cases h)
  | succ n ih0 =>
    intro y1571 y1572 w w' h T
    simp only [Gf_fillDowns_0] at h
    refine ev_go 5 (pc' := 13) (L' := [some (.ref 0), some (.int y1571), some (.int y1572)]) (st' := [.int (a_s1things_count w), .int y1572]) (h' := (HX w T)) (cs' := 0) (sl' := 0) rfl ?_
    rcases ai_ifE h with ⟨hc, h⟩ | ⟨hc, h⟩
    · refine ev_ic_ge (t := 65) rfl rfl (fun _ => ?_) (fun c9 => absurd hc c9)
      obtain rfl := Option.some.inj h
      exact ev_end rfl
    · refine ev_ic_ge (t := 65) rfl rfl (fun c9 => absurd c9 hc) (fun _ => ?_)
      refine ev_go 4 (pc' := 22) (L' := [some (.ref 0), some (.int y1571), some (.int y1572)]) (st' := [.int (-1), .int y1572, .ref 88]) (h' := (HX w T)) (cs' := 0) (sl' := 0) rfl ?_
      obtain ⟨q1573, hq, h⟩ := ai_bdE h
      refine ev_iast rfl rfl hq ?_
      show ai_ev D1 mf_fillDowns 23 [some (.ref 0), some (.int y1571), some (.int y1572)] [] (HX (u_f_downs w q1573) T) 0 0 _
      refine ev_go 5 (pc' := 34) (L' := [some (.ref 0), some (.int y1571), some (.int y1572)]) (st' := [.int y1572, .ref 8]) (h' := (HX (u_f_downs w q1573) T)) (cs' := 0) (sl' := 0) rfl ?_
      obtain ⟨v1574, hq, h⟩ := ai_bdE h
      refine ev_iald rfl rfl hq ?_
      refine ev_go 1 (pc' := 36) (L' := [some (.ref 0), some (.int y1571), some (.int y1572)]) (st' := [.int 5, .int v1574]) (h' := (HX (u_f_downs w q1573) T)) (cs' := 0) (sl' := 0) rfl ?_
      rcases ai_ifE h with ⟨hc, h⟩ | ⟨hc, h⟩
      · refine ev_ic_ne (t := 59) rfl rfl (fun c9 => absurd hc c9) (fun _ => ?_)
        refine ev_go 4 (pc' := 43) (L' := [some (.ref 0), some (.int y1571), some (.int y1572)]) (st' := [.int 0, .int y1571, .int y1572, .ref 0]) (h' := (HX (u_f_downs w q1573) T)) (cs' := 0) (sl' := 0) rfl ?_
        obtain ⟨c1575, hq, h⟩ := ai_bdE h
        refine ev_call (M' := mf_letGoNow) (L' := [some (.ref 0), some (.int y1572), some (.int y1571), some (.int 0)]) (rest := []) (rv := none) (h' := (HX c1575 T)) rfl (Ef_letGoNow_0 n y1572 y1571 0 (u_f_downs w q1573) _ hq T) ?_
        show ai_ev D1 mf_fillDowns 46 [some (.ref 0), some (.int y1571), some (.int y1572)] [] (HX c1575 T) 0 0 _
        refine ev_go 6 (pc' := 58) (L' := [some (.ref 0), some (.int y1571), some (.int y1572)]) (st' := [.int (a_fall_down c1575), .int y1572, .ref 88]) (h' := (HX c1575 T)) (cs' := 0) (sl' := 0) rfl ?_
        obtain ⟨q1576, hq, h⟩ := ai_bdE h
        refine ev_iast rfl rfl hq ?_
        show ai_ev D1 mf_fillDowns 59 [some (.ref 0), some (.int y1571), some (.int y1572)] [] (HX (u_f_downs c1575 q1576) T) 0 0 _
        refine ev_go 2 (pc' := 2) (L' := [some (.ref 0), some (.int y1571), some (.int (y1572 + 1))]) (st' := []) (h' := (HX (u_f_downs c1575 q1576) T)) (cs' := 0) (sl' := 0) rfl ?_
        exact ih0 _ _ _ _ h T
      · refine ev_ic_ne (t := 59) rfl rfl (fun _ => ?_) (fun c9 => absurd c9 hc)
        refine ev_go 2 (pc' := 2) (L' := [some (.ref 0), some (.int y1571), some (.int (y1572 + 1))]) (st' := []) (h' := (HX (u_f_downs w q1573) T)) (cs' := 0) (sl' := 0) rfl ?_
        exact ih0 _ _ _ _ h T
set_option maxHeartbeats 40000000 in
set_option maxRecDepth 100000 in
theorem Ef_fillDowns_0 (n : Nat) (x1570 : Int32) (w : WX) (w' : WX) (h : Ff_fillDowns_0 n x1570 w = some w') (T : ai_H) : ai_ev D1 mf_fillDowns 0 [some (.ref 0), some (.int x1570), none] [] (HX w T) 0 0 (none, HX w' T) := by
  unfold Ff_fillDowns_0 at h
  have ih0 := EGf_fillDowns_0 n
  refine ev_go 2 (pc' := 2) (L' := [some (.ref 0), some (.int x1570), some (.int 0)]) (st' := []) (h' := (HX w T)) (cs' := 0) (sl' := 0) rfl ?_
  exact ih0 _ _ _ _ h T
set_option maxHeartbeats 40000000 in
set_option maxRecDepth 100000 in
theorem EGf_caught_0 : ∀ n : Nat, (∀ (y1594 : Int32) (y1595 : Int32) (y1596 : Int32) (y1597 : Int32) (w : WX) (r : Int32) (w' : WX), Gf_caught_0 n 0 y1594 y1595 y1596 y1597 w = some (r, w') → ∀ (T : ai_H), ai_ev D1 mf_caught 5 [some (.ref 0), some (.int y1594), some (.int y1595), some (.int y1596), some (.int y1597)] [] (HX w T) 0 0 (some (.int r), HX w' T)) := by
  intro n
  induction n with
  | zero =>
    exact (fun _ _ _ _ _ _ _ h => by cases h)
  | succ n ih0 =>
    intro y1594 y1595 y1596 y1597 w r w' h T
    simp only [Gf_caught_0] at h
    refine ev_go 5 (pc' := 17) (L' := [some (.ref 0), some (.int y1594), some (.int y1595), some (.int y1596), some (.int y1597)]) (st' := [.int (a_s1things_count w), .int y1597]) (h' := (HX w T)) (cs' := 0) (sl' := 0) rfl ?_
    rcases ai_ifE h with ⟨hc, h⟩ | ⟨hc, h⟩
    · refine ev_ic_ge (t := 48) rfl rfl (fun _ => ?_) (fun c9 => absurd hc c9)
      refine ev_go 1 (pc' := 49) (L' := [some (.ref 0), some (.int y1594), some (.int y1595), some (.int y1596), some (.int y1597)]) (st' := [.int y1596]) (h' := (HX w T)) (cs' := 0) (sl' := 0) rfl ?_
      obtain ⟨rfl, rfl⟩ := ai_smP h
      exact ev_end rfl
    · refine ev_ic_ge (t := 48) rfl rfl (fun c9 => absurd c9 hc) (fun _ => ?_)
      refine ev_go 3 (pc' := 26) (L' := [some (.ref 0), some (.int y1594), some (.int y1595), some (.int y1596), some (.int y1597)]) (st' := [.int y1597, .ref 88]) (h' := (HX w T)) (cs' := 0) (sl' := 0) rfl ?_
      obtain ⟨v1598, hq, h⟩ := ai_bdE h
      refine ev_iald rfl rfl hq ?_
      refine ev_go 2 (pc' := 29) (L' := [some (.ref 0), some (.int y1594), some (.int y1595), some (.int y1596), some (.int y1597)]) (st' := [.int y1595, .int y1594, .int v1598]) (h' := (HX w T)) (cs' := 0) (sl' := 0) rfl ?_
      obtain ⟨c1599, hq, h⟩ := ai_bdE h
      refine ev_call (M' := mf_within) (L' := [some (.int v1598), some (.int y1594), some (.int y1595)]) (rest := []) (rv := some (.int c1599)) (h' := (HX w T)) rfl (Ef_within v1598 y1594 y1595 _ hq (HX w T)) ?_
      show ai_ev D1 mf_caught 32 [some (.ref 0), some (.int y1594), some (.int y1595), some (.int y1596), some (.int y1597)] [.int c1599] (HX w T) 0 0 _
      rcases ai_ifE h with ⟨hc, h⟩ | ⟨hc, h⟩
      · refine ev_if_eq (t := 42) rfl rfl (fun _ => ?_) (fun c9 => absurd hc c9)
        refine ev_go 2 (pc' := 5) (L' := [some (.ref 0), some (.int y1594), some (.int y1595), some (.int y1596), some (.int (y1597 + 1))]) (st' := []) (h' := (HX w T)) (cs' := 0) (sl' := 0) rfl ?_
        exact ih0 _ _ _ _ _ _ _ h T
      · refine ev_if_eq (t := 42) rfl rfl (fun c9 => absurd c9 hc) (fun _ => ?_)
        refine ev_go 8 (pc' := 5) (L' := [some (.ref 0), some (.int y1594), some (.int y1595), some (.int (y1596 ||| (1 <<< (y1597 &&& 31)))), some (.int (y1597 + 1))]) (st' := []) (h' := (HX w T)) (cs' := 0) (sl' := 0) rfl ?_
        exact ih0 _ _ _ _ _ _ _ h T
set_option maxHeartbeats 40000000 in
set_option maxRecDepth 100000 in
theorem Ef_caught_0 (n : Nat) (x1592 : Int32) (x1593 : Int32) (w : WX) (r : Int32) (w' : WX) (h : Ff_caught_0 n x1592 x1593 w = some (r, w')) (T : ai_H) : ai_ev D1 mf_caught 0 [some (.ref 0), some (.int x1592), some (.int x1593), none, none] [] (HX w T) 0 0 (some (.int r), HX w' T) := by
  unfold Ff_caught_0 at h
  have ih0 := EGf_caught_0 n
  refine ev_go 4 (pc' := 5) (L' := [some (.ref 0), some (.int x1592), some (.int x1593), some (.int 0), some (.int 0)]) (st' := []) (h' := (HX w T)) (cs' := 0) (sl' := 0) rfl ?_
  exact ih0 _ _ _ _ _ _ _ h T
set_option maxHeartbeats 40000000 in
set_option maxRecDepth 100000 in
theorem EGf_nets_0 : ∀ n : Nat, (∀ (y1579 : Int32) (y1580 : Int32) (y1581 : Int32) (y1582 : Int32) (y1583 : Int32) (y1584 : Int32) (w : WX) (r : Int32) (w' : WX), Gf_nets_0 n 0 y1579 y1580 y1581 y1582 y1583 y1584 0 w = some (r, w') → ∀ (T : ai_H) (o7 : Option Value), ai_ev D1 mf_nets 49 [some (.ref 0), some (.int y1579), some (.int y1580), some (.int y1581), some (.int y1582), some (.int y1583), some (.int y1584), o7] [] (HX w T) 0 0 (some (.int r), HX w' T)) ∧ (∀ (y1585 : Int32) (y1586 : Int32) (y1587 : Int32) (y1588 : Int32) (y1589 : Int32) (y1590 : Int32) (y1591 : Int32) (w : WX) (r : Int32) (w' : WX), Gf_nets_0 n 1 y1585 y1586 y1587 y1588 y1589 y1590 y1591 w = some (r, w') → ∀ (T : ai_H), ai_ev D1 mf_nets 60 [some (.ref 0), some (.int y1585), some (.int y1586), some (.int y1587), some (.int y1588), some (.int y1589), some (.int y1590), some (.int y1591)] [] (HX w T) 0 0 (some (.int r), HX w' T)) := by
  intro n
  induction n with
  | zero =>
    exact ⟨(fun _ _ _ _ _ _ _ _ _ h => by cases h), (fun _ _ _ _ _ _ _ _ _ _ h => by cases h)⟩
  | succ n ih =>
    obtain ⟨ih0, ih1⟩ := ih
    refine ⟨?_, ?_⟩
    · intro y1579 y1580 y1581 y1582 y1583 y1584 w r w' h T o7
      simp only [Gf_nets_0] at h
      refine ev_go 2 (pc' := 53) (L' := [some (.ref 0), some (.int y1579), some (.int y1580), some (.int y1581), some (.int y1582), some (.int y1583), some (.int y1584), o7]) (st' := [.int 60, .int y1584]) (h' := (HX w T)) (cs' := 0) (sl' := 0) rfl ?_
      rcases ai_ifE h with ⟨hc, h⟩ | ⟨hc, h⟩
      · refine ev_ic_gt (t := 115) rfl rfl (fun _ => ?_) (fun c9 => absurd hc c9)
        refine ev_go 1 (pc' := 116) (L' := [some (.ref 0), some (.int y1579), some (.int y1580), some (.int y1581), some (.int y1582), some (.int y1583), some (.int y1584), o7]) (st' := [.int y1581]) (h' := (HX w T)) (cs' := 0) (sl' := 0) rfl ?_
        rcases ai_ifE h with ⟨hc, h⟩ | ⟨hc, h⟩
        · refine ev_if_ne (t := 124) rfl rfl (fun c9 => absurd hc c9) (fun _ => ?_)
          refine ev_go 2 (pc' := 126) (L' := [some (.ref 0), some (.int y1579), some (.int y1580), some (.int y1581), some (.int y1582), some (.int y1583), some (.int y1584), o7]) (st' := [.int y1582]) (h' := (HX w T)) (cs' := 0) (sl' := 0) rfl ?_
          obtain ⟨rfl, rfl⟩ := ai_smP h
          exact ev_end rfl
        · refine ev_if_ne (t := 124) rfl rfl (fun _ => ?_) (fun c9 => absurd c9 hc)
          refine ev_go 1 (pc' := 126) (L' := [some (.ref 0), some (.int y1579), some (.int y1580), some (.int y1581), some (.int y1582), some (.int y1583), some (.int y1584), o7]) (st' := [.int y1583]) (h' := (HX w T)) (cs' := 0) (sl' := 0) rfl ?_
          obtain ⟨rfl, rfl⟩ := ai_smP h
          exact ev_end rfl
      · refine ev_ic_gt (t := 115) rfl rfl (fun c9 => absurd c9 hc) (fun _ => ?_)
        refine ev_go 2 (pc' := 60) (L' := [some (.ref 0), some (.int y1579), some (.int y1580), some (.int y1581), some (.int y1582), some (.int y1583), some (.int y1584), some (.int y1584)]) (st' := []) (h' := (HX w T)) (cs' := 0) (sl' := 0) rfl ?_
        exact ih1 _ _ _ _ _ _ _ _ _ _ h T
    · intro y1585 y1586 y1587 y1588 y1589 y1590 y1591 w r w' h T
      simp only [Gf_nets_0] at h
      refine ev_go 2 (pc' := 64) (L' := [some (.ref 0), some (.int y1585), some (.int y1586), some (.int y1587), some (.int y1588), some (.int y1589), some (.int y1590), some (.int y1591)]) (st' := [.int 60, .int y1591]) (h' := (HX w T)) (cs' := 0) (sl' := 0) rfl ?_
      rcases ai_ifE h with ⟨hc, h⟩ | ⟨hc, h⟩
      · refine ev_ic_gt (t := 109) rfl rfl (fun _ => ?_) (fun c9 => absurd hc c9)
        refine ev_go 2 (pc' := 49) (L' := [some (.ref 0), some (.int y1585), some (.int y1586), some (.int y1587), some (.int y1588), some (.int y1589), some (.int (y1590 + 1)), some (.int y1591)]) (st' := []) (h' := (HX w T)) (cs' := 0) (sl' := 0) rfl ?_
        exact ih0 _ _ _ _ _ _ _ _ _ h T _
      · refine ev_ic_gt (t := 109) rfl rfl (fun c9 => absurd c9 hc) (fun _ => ?_)
        refine ev_go 3 (pc' := 72) (L' := [some (.ref 0), some (.int y1585), some (.int y1586), some (.int y1587), some (.int y1588), some (.int y1589), some (.int y1590), some (.int y1591)]) (st' := [.int y1591, .int y1590, .ref 0]) (h' := (HX w T)) (cs' := 0) (sl' := 0) rfl ?_
        obtain ⟨c1600, hq, h⟩ := ai_bdE h
        refine ev_call (M' := mf_caught) (L' := [some (.ref 0), some (.int y1590), some (.int y1591), none, none]) (rest := []) (rv := some (.int c1600.1)) (h' := (HX c1600.2 T)) rfl (Ef_caught_0 n y1590 y1591 w _ _ hq T) ?_
        show ai_ev D1 mf_nets 75 [some (.ref 0), some (.int y1585), some (.int y1586), some (.int y1587), some (.int y1588), some (.int y1589), some (.int y1590), some (.int y1591)] [.int c1600.1] (HX c1600.2 T) 0 0 _
        refine ev_go 1 (pc' := 76) (L' := [some (.ref 0), some (.int y1585), some (.int y1586), some (.int y1587), some (.int y1588), some (.int y1589), some (.int y1590), some (.int y1591)]) (st' := [.int y1586, .int c1600.1]) (h' := (HX c1600.2 T)) (cs' := 0) (sl' := 0) rfl ?_
        rcases ai_ifE h with ⟨hc, h⟩ | ⟨hc, h⟩
        · refine ev_ic_ne (t := 103) rfl rfl (fun c9 => absurd hc c9) (fun _ => ?_)
          refine ev_go 3 (pc' := 85) (L' := [some (.ref 0), some (.int y1585), some (.int y1586), some (.int y1587), some (.int (y1588 + 1)), some (.int y1589), some (.int y1590), some (.int y1591)]) (st' := [.int (-1), .int y1589]) (h' := (HX c1600.2 T)) (cs' := 0) (sl' := 0) rfl ?_
          rcases ai_ifE h with ⟨hc, h⟩ | ⟨hc, h⟩
          · refine ev_ic_ne (t := 99) rfl rfl (fun c9 => absurd hc c9) (fun _ => ?_)
            refine ev_go 9 (pc' := 60) (L' := [some (.ref 0), some (.int y1585), some (.int y1586), some (.int y1587), some (.int (y1588 + 1)), some (.int ((100 * y1590) + y1591)), some (.int y1590), some (.int (y1591 + 1))]) (st' := []) (h' := (HX c1600.2 T)) (cs' := 0) (sl' := 0) rfl ?_
            exact ih1 _ _ _ _ _ _ _ _ _ _ h T
          · refine ev_ic_ne (t := 99) rfl rfl (fun _ => ?_) (fun c9 => absurd c9 hc)
            refine ev_go 4 (pc' := 60) (L' := [some (.ref 0), some (.int y1585), some (.int y1586), some (.int y1587), some (.int (y1588 + 1)), some (.int y1589), some (.int y1590), some (.int (y1591 + 1))]) (st' := []) (h' := (HX c1600.2 T)) (cs' := 0) (sl' := 0) rfl ?_
            exact ih1 _ _ _ _ _ _ _ _ _ _ h T
        · refine ev_ic_ne (t := 103) rfl rfl (fun _ => ?_) (fun c9 => absurd c9 hc)
          refine ev_go 2 (pc' := 60) (L' := [some (.ref 0), some (.int y1585), some (.int y1586), some (.int y1587), some (.int y1588), some (.int y1589), some (.int y1590), some (.int (y1591 + 1))]) (st' := []) (h' := (HX c1600.2 T)) (cs' := 0) (sl' := 0) rfl ?_
          exact ih1 _ _ _ _ _ _ _ _ _ _ h T
set_option maxHeartbeats 40000000 in
set_option maxRecDepth 100000 in
theorem Ef_nets_0 (n : Nat) (x1557 : Int32) (x1558 : Int32) (x1559 : Int32) (w : WX) (r : Int32) (w' : WX) (h : Ff_nets_0 n x1557 x1558 x1559 w = some (r, w')) (T : ai_H) : ai_ev D1 mf_nets 0 [some (.ref 0), some (.int x1557), some (.int x1558), some (.int x1559), none, none, none, none] [] (HX w T) 0 0 (some (.int r), HX w' T) := by
  unfold Ff_nets_0 at h
  obtain ⟨ih0, ih1⟩ := EGf_nets_0 n
  refine ev_go 3 (pc' := 5) (L' := [some (.ref 0), some (.int x1557), some (.int x1558), some (.int x1559), none, none, none, none]) (st' := [.int x1557, .ref 1]) (h' := (HX w T)) (cs' := 0) (sl' := 0) rfl ?_
  obtain ⟨c1560, hq, h⟩ := ai_bdE h
  refine ev_call (M' := msea_hasCell) (L' := [some (.ref 1), some (.int x1557)]) (rest := []) (rv := some (.int c1560.1)) (h' := (HX c1560.2 T)) rfl (Esea_hasCell_1 x1557 w _ _ hq T) ?_
  show ai_ev D1 mf_nets 8 [some (.ref 0), some (.int x1557), some (.int x1558), some (.int x1559), none, none, none, none] [.int c1560.1] (HX c1560.2 T) 0 0 _
  rcases ai_ifE h with ⟨hc, h⟩ | ⟨hc, h⟩
  · refine ev_if_eq (t := 28) rfl rfl (fun _ => ?_) (fun c9 => absurd hc c9)
    refine ev_go 2 (pc' := 31) (L' := [some (.ref 0), some (.int x1557), some (.int x1558), some (.int x1559), none, none, none, none]) (st' := [.int (-10), .ref 0]) (h' := (HX c1560.2 T)) (cs' := 0) (sl' := 0) rfl ?_
    obtain ⟨c1561, hq, h⟩ := ai_bdE h
    refine ev_call (M' := mf_bad) (L' := [some (.ref 0), some (.int (-10))]) (rest := []) (rv := some (.int c1561.1)) (h' := (HX c1561.2 T)) rfl (Ef_bad_0 (-10) c1560.2 _ _ hq T) ?_
    show ai_ev D1 mf_nets 34 [some (.ref 0), some (.int x1557), some (.int x1558), some (.int x1559), none, none, none, none] [.int c1561.1] (HX c1561.2 T) 0 0 _
    obtain ⟨rfl, rfl⟩ := ai_smP h
    exact ev_end rfl
  · refine ev_if_eq (t := 28) rfl rfl (fun c9 => absurd c9 hc) (fun _ => ?_)
    refine ev_go 2 (pc' := 13) (L' := [some (.ref 0), some (.int x1557), some (.int x1558), some (.int x1559), none, none, none, none]) (st' := [.int x1558, .ref 0]) (h' := (HX c1560.2 T)) (cs' := 0) (sl' := 0) rfl ?_
    obtain ⟨c1567, hq, h⟩ := ai_bdE h
    refine ev_call (M' := mf_areFish) (L' := [some (.ref 0), some (.int x1558), none]) (rest := []) (rv := some (.int c1567.1)) (h' := (HX c1567.2 T)) rfl (Ef_areFish_0 n x1558 c1560.2 _ _ hq T) ?_
    show ai_ev D1 mf_nets 16 [some (.ref 0), some (.int x1557), some (.int x1558), some (.int x1559), none, none, none, none] [.int c1567.1] (HX c1567.2 T) 0 0 _
    rcases ai_ifE h with ⟨hc, h⟩ | ⟨hc, h⟩
    · refine ev_if_eq (t := 28) rfl rfl (fun _ => ?_) (fun c9 => absurd hc c9)
      refine ev_go 2 (pc' := 31) (L' := [some (.ref 0), some (.int x1557), some (.int x1558), some (.int x1559), none, none, none, none]) (st' := [.int (-10), .ref 0]) (h' := (HX c1567.2 T)) (cs' := 0) (sl' := 0) rfl ?_
      obtain ⟨c1568, hq, h⟩ := ai_bdE h
      refine ev_call (M' := mf_bad) (L' := [some (.ref 0), some (.int (-10))]) (rest := []) (rv := some (.int c1568.1)) (h' := (HX c1568.2 T)) rfl (Ef_bad_0 (-10) c1567.2 _ _ hq T) ?_
      show ai_ev D1 mf_nets 34 [some (.ref 0), some (.int x1557), some (.int x1558), some (.int x1559), none, none, none, none] [.int c1568.1] (HX c1568.2 T) 0 0 _
      obtain ⟨rfl, rfl⟩ := ai_smP h
      exact ev_end rfl
    · refine ev_if_eq (t := 28) rfl rfl (fun c9 => absurd c9 hc) (fun _ => ?_)
      refine ev_go 3 (pc' := 22) (L' := [some (.ref 0), some (.int x1557), some (.int x1558), some (.int x1559), none, none, none, none]) (st' := [.int 1, .int 0, .int x1559]) (h' := (HX c1567.2 T)) (cs' := 0) (sl' := 0) rfl ?_
      obtain ⟨c1569, hq, h⟩ := ai_bdE h
      refine ev_call (M' := mf_within) (L' := [some (.int x1559), some (.int 0), some (.int 1)]) (rest := []) (rv := some (.int c1569)) (h' := (HX c1567.2 T)) rfl (Ef_within x1559 0 1 _ hq (HX c1567.2 T)) ?_
      show ai_ev D1 mf_nets 25 [some (.ref 0), some (.int x1557), some (.int x1558), some (.int x1559), none, none, none, none] [.int c1569] (HX c1567.2 T) 0 0 _
      rcases ai_ifE h with ⟨hc, h⟩ | ⟨hc, h⟩
      · refine ev_if_ne (t := 35) rfl rfl (fun c9 => absurd hc c9) (fun _ => ?_)
        refine ev_go 2 (pc' := 31) (L' := [some (.ref 0), some (.int x1557), some (.int x1558), some (.int x1559), none, none, none, none]) (st' := [.int (-10), .ref 0]) (h' := (HX c1567.2 T)) (cs' := 0) (sl' := 0) rfl ?_
        obtain ⟨c1578, hq, h⟩ := ai_bdE h
        refine ev_call (M' := mf_bad) (L' := [some (.ref 0), some (.int (-10))]) (rest := []) (rv := some (.int c1578.1)) (h' := (HX c1578.2 T)) rfl (Ef_bad_0 (-10) c1567.2 _ _ hq T) ?_
        show ai_ev D1 mf_nets 34 [some (.ref 0), some (.int x1557), some (.int x1558), some (.int x1559), none, none, none, none] [.int c1578.1] (HX c1578.2 T) 0 0 _
        obtain ⟨rfl, rfl⟩ := ai_smP h
        exact ev_end rfl
      · refine ev_if_ne (t := 35) rfl rfl (fun _ => ?_) (fun c9 => absurd c9 hc)
        refine ev_go 2 (pc' := 37) (L' := [some (.ref 0), some (.int x1557), some (.int x1558), some (.int x1559), none, none, none, none]) (st' := [.int x1557, .ref 0]) (h' := (HX c1567.2 T)) (cs' := 0) (sl' := 0) rfl ?_
        obtain ⟨c1577, hq, h⟩ := ai_bdE h
        refine ev_call (M' := mf_fillDowns) (L' := [some (.ref 0), some (.int x1557), none]) (rest := []) (rv := none) (h' := (HX c1577 T)) rfl (Ef_fillDowns_0 n x1557 c1567.2 _ hq T) ?_
        show ai_ev D1 mf_nets 40 [some (.ref 0), some (.int x1557), some (.int x1558), some (.int x1559), none, none, none, none] [] (HX c1577 T) 0 0 _
        refine ev_go 6 (pc' := 49) (L' := [some (.ref 0), some (.int x1557), some (.int x1558), some (.int x1559), some (.int 0), some (.int (-1)), some (.int 0), none]) (st' := []) (h' := (HX c1577 T)) (cs' := 0) (sl' := 0) rfl ?_
        exact ih0 _ _ _ _ _ _ _ _ _ h T _
set_option maxHeartbeats 40000000 in
set_option maxRecDepth 100000 in
theorem EGsea_sweetInAll_1 : ∀ n : Nat, (∀ (y1603 : Int32) (y1604 : Int32) (w : WX) (r : Int32) (w' : WX), Gsea_sweetInAll_1 n 0 y1603 y1604 w = some (r, w') → ∀ (T : ai_H), ai_ev D1 msea_sweetInAll 4 [some (.ref 1), some (.int y1603), some (.int y1604)] [] (HX w T) 0 0 (some (.int r), HX w' T)) := by
  intro n
  induction n with
  | zero =>
    exact (fun _ _ _ _ _ h => by cases h)
  | succ n ih0 =>
    intro y1603 y1604 w r w' h T
    simp only [Gsea_sweetInAll_1] at h
    refine ev_go 3 (pc' := 9) (L' := [some (.ref 1), some (.int y1603), some (.int y1604)]) (st' := [.int (a_s1_cells w), .int y1604]) (h' := (HX w T)) (cs' := 0) (sl' := 0) rfl ?_
    rcases ai_ifE h with ⟨hc, h⟩ | ⟨hc, h⟩
    · refine ev_ic_ge (t := 31) rfl rfl (fun _ => ?_) (fun c9 => absurd hc c9)
      refine ev_go 1 (pc' := 32) (L' := [some (.ref 1), some (.int y1603), some (.int y1604)]) (st' := [.int y1603]) (h' := (HX w T)) (cs' := 0) (sl' := 0) rfl ?_
      obtain ⟨rfl, rfl⟩ := ai_smP h
      exact ev_end rfl
    · refine ev_ic_ge (t := 31) rfl rfl (fun c9 => absurd c9 hc) (fun _ => ?_)
      refine ev_go 6 (pc' := 20) (L' := [some (.ref 1), some (.int y1603), some (.int y1604)]) (st' := [.int (a_s1_hour w), .int y1604, .int 0, .ref 1, .int y1603]) (h' := (HX w T)) (cs' := 0) (sl' := 0) rfl ?_
      obtain ⟨c1605, hq, h⟩ := ai_bdE h
      refine ev_call (M' := msea_thickAt) (L' := [some (.ref 1), some (.int 0), some (.int y1604), some (.int (a_s1_hour w))]) (rest := [.int y1603]) (rv := some (.int c1605.1)) (h' := (HX c1605.2 T)) rfl (Esea_thickAt_1 0 y1604 (a_s1_hour w) w _ _ hq T) ?_
      show ai_ev D1 msea_sweetInAll 23 [some (.ref 1), some (.int y1603), some (.int y1604)] [.int c1605.1, .int y1603] (HX c1605.2 T) 0 0 _
      refine ev_go 4 (pc' := 4) (L' := [some (.ref 1), some (.int (y1603 + c1605.1)), some (.int (y1604 + 1))]) (st' := []) (h' := (HX c1605.2 T)) (cs' := 0) (sl' := 0) rfl ?_
      exact ih0 _ _ _ _ _ h T
set_option maxHeartbeats 40000000 in
set_option maxRecDepth 100000 in
theorem Esea_sweetInAll_1 (n : Nat) (w : WX) (r : Int32) (w' : WX) (h : Fsea_sweetInAll_1 n w = some (r, w')) (T : ai_H) : ai_ev D1 msea_sweetInAll 0 [some (.ref 1), none, none] [] (HX w T) 0 0 (some (.int r), HX w' T) := by
  unfold Fsea_sweetInAll_1 at h
  have ih0 := EGsea_sweetInAll_1 n
  refine ev_go 4 (pc' := 4) (L' := [some (.ref 1), some (.int 0), some (.int 0)]) (st' := []) (h' := (HX w T)) (cs' := 0) (sl' := 0) rfl ?_
  exact ih0 _ _ _ _ _ h T
set_option maxHeartbeats 40000000 in
set_option maxRecDepth 100000 in
theorem Ef_tapped (x1622 : Int32) (x1623 : Int32) (x1624 : Int32) (r : Int32) (h : Ff_tapped x1622 x1623 x1624 = some r) (hh : ai_H) : ai_ev D1 mf_tapped 0 [some (.int x1622), some (.int x1623), some (.int x1624)] [] hh 0 0 (some (.int r), hh) := by
  unfold Ff_tapped at h
  refine ev_go 11 (pc' := 13) (L' := [some (.int x1622), some (.int x1623), some (.int x1624)]) (st' := [.int (x1622 - (2 * (if 0 < ((x1622 + x1623) - x1624) then ((x1622 + x1623) - x1624) else 0)))]) (h' := hh) (cs' := 0) (sl' := 0) rfl ?_
  obtain rfl := Option.some.inj h
  exact ev_end rfl
set_option maxHeartbeats 40000000 in
set_option maxRecDepth 100000 in
theorem EGf_isBestTap : ∀ n : Nat, (∀ (y1626 : Int32) (y1627 : Int32) (y1628 : Int32) (y1629 : Int32) (y1630 : Int32) (r : Int32), Gf_isBestTap n 0 y1626 y1627 y1628 y1629 y1630 = some r → ∀ (hh : ai_H), ai_ev D1 mf_isBestTap 10 [some (.int y1626), some (.int y1627), some (.int y1628), some (.int y1629), some (.int y1630)] [] hh 0 0 (some (.int r), hh)) := by
  intro n
  induction n with
  | zero =>
    exact (fun _ _ _ _ _ _ h => by cases h)
  | succ n ih0 =>
    intro y1626 y1627 y1628 y1629 y1630 r h hh
    simp only [Gf_isBestTap] at h
    refine ev_go 2 (pc' := 14) (L' := [some (.int y1626), some (.int y1627), some (.int y1628), some (.int y1629), some (.int y1630)]) (st' := [.int 9, .int y1630]) (h' := hh) (cs' := 0) (sl' := 0) rfl ?_
    rcases ai_ifE h with ⟨hc, h⟩ | ⟨hc, h⟩
    · refine ev_ic_gt (t := 36) rfl rfl (fun _ => ?_) (fun c9 => absurd hc c9)
      refine ev_go 1 (pc' := 37) (L' := [some (.int y1626), some (.int y1627), some (.int y1628), some (.int y1629), some (.int y1630)]) (st' := [.int 1]) (h' := hh) (cs' := 0) (sl' := 0) rfl ?_
      obtain rfl := Option.some.inj h
      exact ev_end rfl
    · refine ev_ic_gt (t := 36) rfl rfl (fun c9 => absurd c9 hc) (fun _ => ?_)
      refine ev_go 3 (pc' := 21) (L' := [some (.int y1626), some (.int y1627), some (.int y1628), some (.int y1629), some (.int y1630)]) (st' := [.int y1628, .int y1627, .int y1630]) (h' := hh) (cs' := 0) (sl' := 0) rfl ?_
      obtain ⟨c1631, hq, h⟩ := ai_bdE h
      refine ev_call (M' := mf_tapped) (L' := [some (.int y1630), some (.int y1627), some (.int y1628)]) (rest := []) (rv := some (.int c1631)) (h' := hh) rfl (Ef_tapped y1630 y1627 y1628 _ hq hh) ?_
      show ai_ev D1 mf_isBestTap 24 [some (.int y1626), some (.int y1627), some (.int y1628), some (.int y1629), some (.int y1630)] [.int c1631] hh 0 0 _
      refine ev_go 1 (pc' := 25) (L' := [some (.int y1626), some (.int y1627), some (.int y1628), some (.int y1629), some (.int y1630)]) (st' := [.int y1629, .int c1631]) (h' := hh) (cs' := 0) (sl' := 0) rfl ?_
      rcases ai_ifE h with ⟨hc, h⟩ | ⟨hc, h⟩
      · refine ev_ic_le (t := 30) rfl rfl (fun _ => ?_) (fun c9 => absurd hc c9)
        refine ev_go 2 (pc' := 10) (L' := [some (.int y1626), some (.int y1627), some (.int y1628), some (.int y1629), some (.int (y1630 + 1))]) (st' := []) (h' := hh) (cs' := 0) (sl' := 0) rfl ?_
        exact ih0 _ _ _ _ _ _ h hh
      · refine ev_ic_le (t := 30) rfl rfl (fun c9 => absurd c9 hc) (fun _ => ?_)
        refine ev_go 1 (pc' := 29) (L' := [some (.int y1626), some (.int y1627), some (.int y1628), some (.int y1629), some (.int y1630)]) (st' := [.int 0]) (h' := hh) (cs' := 0) (sl' := 0) rfl ?_
        obtain rfl := Option.some.inj h
        exact ev_end rfl
set_option maxHeartbeats 40000000 in
set_option maxRecDepth 100000 in
theorem Ef_isBestTap (n : Nat) (x1619 : Int32) (x1620 : Int32) (x1621 : Int32) (r : Int32) (h : Ff_isBestTap n x1619 x1620 x1621 = some r) (hh : ai_H) : ai_ev D1 mf_isBestTap 0 [some (.int x1619), some (.int x1620), some (.int x1621), none, none] [] hh 0 0 (some (.int r), hh) := by
  unfold Ff_isBestTap at h
  have ih0 := EGf_isBestTap n
  refine ev_go 3 (pc' := 3) (L' := [some (.int x1619), some (.int x1620), some (.int x1621), none, none]) (st' := [.int x1621, .int x1620, .int x1619]) (h' := hh) (cs' := 0) (sl' := 0) rfl ?_
  obtain ⟨c1625, hq, h⟩ := ai_bdE h
  refine ev_call (M' := mf_tapped) (L' := [some (.int x1619), some (.int x1620), some (.int x1621)]) (rest := []) (rv := some (.int c1625)) (h' := hh) rfl (Ef_tapped x1619 x1620 x1621 _ hq hh) ?_
  show ai_ev D1 mf_isBestTap 6 [some (.int x1619), some (.int x1620), some (.int x1621), none, none] [.int c1625] hh 0 0 _
  refine ev_go 3 (pc' := 10) (L' := [some (.int x1619), some (.int x1620), some (.int x1621), some (.int c1625), some (.int 0)]) (st' := []) (h' := hh) (cs' := 0) (sl' := 0) rfl ?_
  exact ih0 _ _ _ _ _ _ h hh
set_option maxHeartbeats 40000000 in
set_option maxRecDepth 100000 in
theorem EGf_tap_0 : ∀ n : Nat, (∀ (y1608 : Int32) (y1609 : Int32) (y1610 : Int32) (y1611 : Int32) (y1612 : Int32) (w : WX) (r : Int32) (w' : WX), Gf_tap_0 n 0 y1608 y1609 y1610 y1611 y1612 0 w = some (r, w') → ∀ (T : ai_H) (o6 : Option Value), ai_ev D1 mf_tap 32 [some (.ref 0), some (.int y1608), some (.int y1609), some (.int y1610), some (.int y1611), some (.int y1612), o6] [] (HX w T) 0 0 (some (.int r), HX w' T)) ∧ (∀ (y1613 : Int32) (y1614 : Int32) (y1615 : Int32) (y1616 : Int32) (y1617 : Int32) (y1618 : Int32) (w : WX) (r : Int32) (w' : WX), Gf_tap_0 n 1 y1613 y1614 y1615 y1616 y1617 y1618 w = some (r, w') → ∀ (T : ai_H), ai_ev D1 mf_tap 42 [some (.ref 0), some (.int y1613), some (.int y1614), some (.int y1615), some (.int y1616), some (.int y1617), some (.int y1618)] [] (HX w T) 0 0 (some (.int r), HX w' T)) := by
  intro n
  induction n with
  | zero =>
    exact ⟨(fun _ _ _ _ _ _ _ _ h => by cases h), (fun _ _ _ _ _ _ _ _ _ h => by cases h)⟩
  | succ n ih =>
    obtain ⟨ih0, ih1⟩ := ih
    refine ⟨?_, ?_⟩
    · intro y1608 y1609 y1610 y1611 y1612 w r w' h T o6
      simp only [Gf_tap_0] at h
      refine ev_go 2 (pc' := 36) (L' := [some (.ref 0), some (.int y1608), some (.int y1609), some (.int y1610), some (.int y1611), some (.int y1612), o6]) (st' := [.int 9, .int y1612]) (h' := (HX w T)) (cs' := 0) (sl' := 0) rfl ?_
      rcases ai_ifE h with ⟨hc, h⟩ | ⟨hc, h⟩
      · refine ev_ic_gt (t := 107) rfl rfl (fun _ => ?_) (fun c9 => absurd hc c9)
        refine ev_go 1 (pc' := 108) (L' := [some (.ref 0), some (.int y1608), some (.int y1609), some (.int y1610), some (.int y1611), some (.int y1612), o6]) (st' := [.int y1608]) (h' := (HX w T)) (cs' := 0) (sl' := 0) rfl ?_
        rcases ai_ifE h with ⟨hc, h⟩ | ⟨hc, h⟩
        · refine ev_if_ne (t := 115) rfl rfl (fun c9 => absurd hc c9) (fun _ => ?_)
          refine ev_go 2 (pc' := 117) (L' := [some (.ref 0), some (.int y1608), some (.int y1609), some (.int y1610), some (.int y1611), some (.int y1612), o6]) (st' := [.int y1610]) (h' := (HX w T)) (cs' := 0) (sl' := 0) rfl ?_
          obtain ⟨rfl, rfl⟩ := ai_smP h
          exact ev_end rfl
        · refine ev_if_ne (t := 115) rfl rfl (fun _ => ?_) (fun c9 => absurd c9 hc)
          refine ev_go 1 (pc' := 117) (L' := [some (.ref 0), some (.int y1608), some (.int y1609), some (.int y1610), some (.int y1611), some (.int y1612), o6]) (st' := [.int y1611]) (h' := (HX w T)) (cs' := 0) (sl' := 0) rfl ?_
          obtain ⟨rfl, rfl⟩ := ai_smP h
          exact ev_end rfl
      · refine ev_ic_gt (t := 107) rfl rfl (fun c9 => absurd c9 hc) (fun _ => ?_)
        refine ev_go 2 (pc' := 42) (L' := [some (.ref 0), some (.int y1608), some (.int y1609), some (.int y1610), some (.int y1611), some (.int y1612), some (.int 0)]) (st' := []) (h' := (HX w T)) (cs' := 0) (sl' := 0) rfl ?_
        exact ih1 _ _ _ _ _ _ _ _ _ h T
    · intro y1613 y1614 y1615 y1616 y1617 y1618 w r w' h T
      simp only [Gf_tap_0] at h
      refine ev_go 2 (pc' := 46) (L' := [some (.ref 0), some (.int y1613), some (.int y1614), some (.int y1615), some (.int y1616), some (.int y1617), some (.int y1618)]) (st' := [.int 9, .int y1618]) (h' := (HX w T)) (cs' := 0) (sl' := 0) rfl ?_
      rcases ai_ifE h with ⟨hc, h⟩ | ⟨hc, h⟩
      · refine ev_ic_gt (t := 101) rfl rfl (fun _ => ?_) (fun c9 => absurd hc c9)
        refine ev_go 2 (pc' := 32) (L' := [some (.ref 0), some (.int y1613), some (.int y1614), some (.int y1615), some (.int y1616), some (.int (y1617 + 1)), some (.int y1618)]) (st' := []) (h' := (HX w T)) (cs' := 0) (sl' := 0) rfl ?_
        exact ih0 _ _ _ _ _ _ _ _ h T _
      · refine ev_ic_gt (t := 101) rfl rfl (fun c9 => absurd c9 hc) (fun _ => ?_)
        refine ev_go 3 (pc' := 54) (L' := [some (.ref 0), some (.int y1613), some (.int y1614), some (.int y1615), some (.int y1616), some (.int y1617), some (.int y1618)]) (st' := [.int y1614, .int y1618, .int y1617]) (h' := (HX w T)) (cs' := 0) (sl' := 0) rfl ?_
        obtain ⟨c1632, hq, h⟩ := ai_bdE h
        refine ev_call (M' := mf_isBestTap) (L' := [some (.int y1617), some (.int y1618), some (.int y1614), none, none]) (rest := []) (rv := some (.int c1632)) (h' := (HX w T)) rfl (Ef_isBestTap n y1617 y1618 y1614 _ hq (HX w T)) ?_
        show ai_ev D1 mf_tap 57 [some (.ref 0), some (.int y1613), some (.int y1614), some (.int y1615), some (.int y1616), some (.int y1617), some (.int y1618)] [.int c1632] (HX w T) 0 0 _
        rcases ai_ifE h with ⟨hc, h⟩ | ⟨hc, h⟩
        · refine ev_if_eq (t := 95) rfl rfl (fun _ => ?_) (fun c9 => absurd hc c9)
          refine ev_go 2 (pc' := 42) (L' := [some (.ref 0), some (.int y1613), some (.int y1614), some (.int y1615), some (.int y1616), some (.int y1617), some (.int (y1618 + 1))]) (st' := []) (h' := (HX w T)) (cs' := 0) (sl' := 0) rfl ?_
          exact ih1 _ _ _ _ _ _ _ _ _ h T
        · refine ev_if_eq (t := 95) rfl rfl (fun c9 => absurd c9 hc) (fun _ => ?_)
          refine ev_go 3 (pc' := 65) (L' := [some (.ref 0), some (.int y1613), some (.int y1614), some (.int y1615), some (.int y1616), some (.int y1617), some (.int y1618)]) (st' := [.int y1614, .int y1617, .int y1618]) (h' := (HX w T)) (cs' := 0) (sl' := 0) rfl ?_
          obtain ⟨c1633, hq, h⟩ := ai_bdE h
          refine ev_call (M' := mf_isBestTap) (L' := [some (.int y1618), some (.int y1617), some (.int y1614), none, none]) (rest := []) (rv := some (.int c1633)) (h' := (HX w T)) rfl (Ef_isBestTap n y1618 y1617 y1614 _ hq (HX w T)) ?_
          show ai_ev D1 mf_tap 68 [some (.ref 0), some (.int y1613), some (.int y1614), some (.int y1615), some (.int y1616), some (.int y1617), some (.int y1618)] [.int c1633] (HX w T) 0 0 _
          rcases ai_ifE h with ⟨hc, h⟩ | ⟨hc, h⟩
          · refine ev_if_eq (t := 95) rfl rfl (fun _ => ?_) (fun c9 => absurd hc c9)
            refine ev_go 2 (pc' := 42) (L' := [some (.ref 0), some (.int y1613), some (.int y1614), some (.int y1615), some (.int y1616), some (.int y1617), some (.int (y1618 + 1))]) (st' := []) (h' := (HX w T)) (cs' := 0) (sl' := 0) rfl ?_
            exact ih1 _ _ _ _ _ _ _ _ _ h T
          · refine ev_if_eq (t := 95) rfl rfl (fun c9 => absurd c9 hc) (fun _ => ?_)
            refine ev_go 3 (pc' := 77) (L' := [some (.ref 0), some (.int y1613), some (.int y1614), some (.int (y1615 + 1)), some (.int y1616), some (.int y1617), some (.int y1618)]) (st' := [.int (-1), .int y1616]) (h' := (HX w T)) (cs' := 0) (sl' := 0) rfl ?_
            rcases ai_ifE h with ⟨hc, h⟩ | ⟨hc, h⟩
            · refine ev_ic_ne (t := 91) rfl rfl (fun c9 => absurd hc c9) (fun _ => ?_)
              refine ev_go 9 (pc' := 42) (L' := [some (.ref 0), some (.int y1613), some (.int y1614), some (.int (y1615 + 1)), some (.int ((10 * y1617) + y1618)), some (.int y1617), some (.int (y1618 + 1))]) (st' := []) (h' := (HX w T)) (cs' := 0) (sl' := 0) rfl ?_
              exact ih1 _ _ _ _ _ _ _ _ _ h T
            · refine ev_ic_ne (t := 91) rfl rfl (fun _ => ?_) (fun c9 => absurd c9 hc)
              refine ev_go 4 (pc' := 42) (L' := [some (.ref 0), some (.int y1613), some (.int y1614), some (.int (y1615 + 1)), some (.int y1616), some (.int y1617), some (.int (y1618 + 1))]) (st' := []) (h' := (HX w T)) (cs' := 0) (sl' := 0) rfl ?_
              exact ih1 _ _ _ _ _ _ _ _ _ h T
set_option maxHeartbeats 40000000 in
set_option maxRecDepth 100000 in
theorem Ef_tap_0 (n : Nat) (x1601 : Int32) (w : WX) (r : Int32) (w' : WX) (h : Ff_tap_0 n x1601 w = some (r, w')) (T : ai_H) : ai_ev D1 mf_tap 0 [some (.ref 0), some (.int x1601), none, none, none, none, none] [] (HX w T) 0 0 (some (.int r), HX w' T) := by
  unfold Ff_tap_0 at h
  obtain ⟨ih0, ih1⟩ := EGf_tap_0 n
  refine ev_go 3 (pc' := 3) (L' := [some (.ref 0), some (.int x1601), none, none, none, none, none]) (st' := [.int 1, .int 0, .int x1601]) (h' := (HX w T)) (cs' := 0) (sl' := 0) rfl ?_
  obtain ⟨c1602, hq, h⟩ := ai_bdE h
  refine ev_call (M' := mf_within) (L' := [some (.int x1601), some (.int 0), some (.int 1)]) (rest := []) (rv := some (.int c1602)) (h' := (HX w T)) rfl (Ef_within x1601 0 1 _ hq (HX w T)) ?_
  show ai_ev D1 mf_tap 6 [some (.ref 0), some (.int x1601), none, none, none, none, none] [.int c1602] (HX w T) 0 0 _
  rcases ai_ifE h with ⟨hc, h⟩ | ⟨hc, h⟩
  · refine ev_if_ne (t := 16) rfl rfl (fun c9 => absurd hc c9) (fun _ => ?_)
    refine ev_go 2 (pc' := 12) (L' := [some (.ref 0), some (.int x1601), none, none, none, none, none]) (st' := [.int (-10), .ref 0]) (h' := (HX w T)) (cs' := 0) (sl' := 0) rfl ?_
    obtain ⟨c1607, hq, h⟩ := ai_bdE h
    refine ev_call (M' := mf_bad) (L' := [some (.ref 0), some (.int (-10))]) (rest := []) (rv := some (.int c1607.1)) (h' := (HX c1607.2 T)) rfl (Ef_bad_0 (-10) w _ _ hq T) ?_
    show ai_ev D1 mf_tap 15 [some (.ref 0), some (.int x1601), none, none, none, none, none] [.int c1607.1] (HX c1607.2 T) 0 0 _
    obtain ⟨rfl, rfl⟩ := ai_smP h
    exact ev_end rfl
  · refine ev_if_ne (t := 16) rfl rfl (fun _ => ?_) (fun c9 => absurd c9 hc)
    refine ev_go 2 (pc' := 20) (L' := [some (.ref 0), some (.int x1601), none, none, none, none, none]) (st' := [.ref 1]) (h' := (HX w T)) (cs' := 0) (sl' := 0) rfl ?_
    obtain ⟨c1606, hq, h⟩ := ai_bdE h
    refine ev_call (M' := msea_sweetInAll) (L' := [some (.ref 1), none, none]) (rest := []) (rv := some (.int c1606.1)) (h' := (HX c1606.2 T)) rfl (Esea_sweetInAll_1 n w _ _ hq T) ?_
    show ai_ev D1 mf_tap 23 [some (.ref 0), some (.int x1601), none, none, none, none, none] [.int c1606.1] (HX c1606.2 T) 0 0 _
    refine ev_go 7 (pc' := 32) (L' := [some (.ref 0), some (.int x1601), some (.int c1606.1), some (.int 0), some (.int (-1)), some (.int 0), none]) (st' := []) (h' := (HX c1606.2 T)) (cs' := 0) (sl' := 0) rfl ?_
    exact ih0 _ _ _ _ _ _ _ _ h T _
