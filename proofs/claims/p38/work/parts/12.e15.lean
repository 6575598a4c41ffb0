set_option maxHeartbeats 40000000 in
set_option maxRecDepth 100000 in
theorem EGarr_fill_87 : ∀ n : Nat, (∀ (y1521 : Int32) (y1522 : Int32) (y1523 : Int32) (w : WX) (w' : WX), Garr_fill_87 n 0 y1521 y1522 y1523 w = some w' → ∀ (T : ai_H), ai_ev D1 marr_fill 5 [some (.ref 87), some (.int y1521), some (.int y1522), some (.int y1523)] [] (HX w T) 0 0 (none, HX w' T)) := by
  intro n
  induction n with
  | zero =>
    exact (fun _ _ _ _ _ h => by cases h)
  | succ n ih0 =>
    intro y1521 y1522 y1523 w w' h T
    simp only [Garr_fill_87] at h
    refine ev_go 2 (pc' := 7) (L' := [some (.ref 87), some (.int y1521), some (.int y1522), some (.int y1523)]) (st' := [.int y1523, .int y1522]) (h' := (HX w T)) (cs' := 0) (sl' := 0) rfl ?_
    rcases ai_ifE h with ⟨hc, h⟩ | ⟨hc, h⟩
    · refine ev_ic_ge (t := 20) rfl rfl (fun _ => ?_) (fun c9 => absurd hc c9)
      obtain rfl := Option.some.inj h
      exact ev_end rfl
    · refine ev_ic_ge (t := 20) rfl rfl (fun c9 => absurd c9 hc) (fun _ => ?_)
      refine ev_go 3 (pc' := 13) (L' := [some (.ref 87), some (.int y1521), some (.int y1522), some (.int y1523)]) (st' := [.int y1521, .int y1522, .ref 87]) (h' := (HX w T)) (cs' := 0) (sl' := 0) rfl ?_
      obtain ⟨q1524, hq, h⟩ := ai_bdE h
      refine ev_iast rfl rfl hq ?_
      rw [HXs_87]
      refine ev_go 2 (pc' := 5) (L' := [some (.ref 87), some (.int y1521), some (.int (y1522 + 1)), some (.int y1523)]) (st' := []) (h' := (HX (u_ways_reached w q1524) T)) (cs' := 0) (sl' := 0) rfl ?_
      exact ih0 _ _ _ _ _ h T
set_option maxHeartbeats 40000000 in
set_option maxRecDepth 100000 in
theorem Earr_fill_87 (n : Nat) (x1520 : Int32) (w : WX) (w' : WX) (h : Farr_fill_87 n x1520 w = some w') (T : ai_H) : ai_ev D1 marr_fill 0 [some (.ref 87), some (.int x1520), none, none] [] (HX w T) 0 0 (none, HX w' T) := by
  unfold Farr_fill_87 at h
  have ih0 := EGarr_fill_87 n
  refine ev_go 5 (pc' := 5) (L' := [some (.ref 87), some (.int x1520), some (.int 0), some (.int (Int32.ofNat (List.length (a_ways_reached w))))]) (st' := []) (h' := (HX w T)) (cs' := 0) (sl' := 0) rfl ?_
  exact ih0 _ _ _ _ _ h T
set_option maxHeartbeats 40000000 in
set_option maxRecDepth 100000 in
theorem Eway_numberOf (x1526 : Int32) (r : Int32) (h : Fway_numberOf x1526 = some r) (hh : ai_H) : ai_ev D1 mway_numberOf 0 [some (.int x1526)] [] hh 0 0 (some (.int r), hh) := by
  unfold Fway_numberOf at h
  refine ev_go 9 (pc' := 11) (L' := [some (.int x1526)]) (st' := [.int (((x1526 / 10) * 4) + (x1526 - x1526 / 10 * 10))]) (h' := hh) (cs' := 0) (sl' := 0) rfl ?_
  obtain rfl := Option.some.inj h
  exact ev_end rfl
set_option maxHeartbeats 40000000 in
set_option maxRecDepth 100000 in
theorem Eway_join_86 (x1540 : Int32) (x1541 : Int32) (x1542 : Int32) (w : WX) (w' : WX) (h : Fway_join_86 x1540 x1541 x1542 w = some w') (T : ai_H) : ai_ev D1 mway_join 0 [some (.ref 86), some (.int x1540), some (.int x1541), some (.int x1542)] [] (HX w T) 0 0 (none, HX w' T) := by
  unfold Fway_join_86 at h
  refine ev_go 6 (pc' := 10) (L' := [some (.ref 86), some (.int x1540), some (.int x1541), some (.int x1542)]) (st' := [.int x1540, .ref 87, .int x1540, .ref 87]) (h' := (HX w T)) (cs' := 0) (sl' := 0) rfl ?_
  obtain ⟨v1543, hq, h⟩ := ai_bdE h
  refine ev_iald rfl rfl hq ?_
  refine ev_go 3 (pc' := 16) (L' := [some (.ref 86), some (.int x1540), some (.int x1541), some (.int x1542)]) (st' := [.int x1541, .ref 87, .int v1543, .int x1540, .ref 87]) (h' := (HX w T)) (cs' := 0) (sl' := 0) rfl ?_
  obtain ⟨v1544, hq, h⟩ := ai_bdE h
  refine ev_iald rfl rfl hq ?_
  refine ev_go 3 (pc' := 22) (L' := [some (.ref 86), some (.int x1540), some (.int x1541), some (.int x1542)]) (st' := [.int (if (v1544 + x1542) < v1543 then (v1544 + x1542) else v1543), .int x1540, .ref 87]) (h' := (HX w T)) (cs' := 0) (sl' := 0) rfl ?_
  obtain ⟨q1545, hq, h⟩ := ai_bdE h
  refine ev_iast rfl rfl hq ?_
  rw [HXs_87]
  refine ev_go 6 (pc' := 33) (L' := [some (.ref 86), some (.int x1540), some (.int x1541), some (.int x1542)]) (st' := [.int x1541, .ref 87, .int x1541, .ref 87]) (h' := (HX (u_ways_reached w q1545) T)) (cs' := 0) (sl' := 0) rfl ?_
  obtain ⟨v1546, hq, h⟩ := ai_bdE h
  refine ev_iald rfl rfl hq ?_
  refine ev_go 3 (pc' := 39) (L' := [some (.ref 86), some (.int x1540), some (.int x1541), some (.int x1542)]) (st' := [.int x1540, .ref 87, .int v1546, .int x1541, .ref 87]) (h' := (HX (u_ways_reached w q1545) T)) (cs' := 0) (sl' := 0) rfl ?_
  obtain ⟨v1547, hq, h⟩ := ai_bdE h
  refine ev_iald rfl rfl hq ?_
  refine ev_go 3 (pc' := 45) (L' := [some (.ref 86), some (.int x1540), some (.int x1541), some (.int x1542)]) (st' := [.int (if (v1547 + x1542) < v1546 then (v1547 + x1542) else v1546), .int x1541, .ref 87]) (h' := (HX (u_ways_reached w q1545) T)) (cs' := 0) (sl' := 0) rfl ?_
  obtain ⟨q1548, hq, h⟩ := ai_bdE h
  refine ev_iast rfl rfl hq ?_
  rw [HXs_87]
  obtain rfl := Option.some.inj h
  exact ev_end rfl
set_option maxHeartbeats 40000000 in
set_option maxRecDepth 100000 in
theorem EGway_goByLifts_86_1 : ∀ n : Nat, (∀ (y1534 : Int32) (w : WX) (w' : WX), Gway_goByLifts_86_1 n 0 y1534 w = some w' → ∀ (T : ai_H), ai_ev D1 mway_goByLifts 2 [some (.ref 86), some (.ref 1), some (.int y1534)] [] (HX w T) 0 0 (none, HX w' T)) := by
  intro n
  induction n with
  | zero =>
    exact (fun _ _ _ h => by cases h)
  | succ n ih0 =>
    intro y1534 w w' h T
    simp only [Gway_goByLifts_86_1] at h
    refine ev_go 4 (pc' := 10) (L' := [some (.ref 86), some (.ref 1), some (.int y1534)]) (st' := [.int (a_s1lifts_count w), .int y1534]) (h' := (HX w T)) (cs' := 0) (sl' := 0) rfl ?_
    rcases ai_ifE h with ⟨hc, h⟩ | ⟨hc, h⟩
    · refine ev_ic_ge (t := 56) rfl rfl (fun _ => ?_) (fun c9 => absurd hc c9)
      obtain rfl := Option.some.inj h
      exact ev_end rfl
    · refine ev_ic_ge (t := 56) rfl rfl (fun c9 => absurd c9 hc) (fun _ => ?_)
      refine ev_go 5 (pc' := 22) (L' := [some (.ref 86), some (.ref 1), some (.int y1534)]) (st' := [.int y1534, .ref 13, .ref 86]) (h' := (HX w T)) (cs' := 0) (sl' := 0) rfl ?_
      obtain ⟨v1535, hq, h⟩ := ai_bdE h
      refine ev_iald rfl rfl hq ?_
      obtain ⟨c1536, hq, h⟩ := ai_bdE h
      refine ev_call (M' := mway_numberOf) (L' := [some (.int v1535)]) (rest := [.ref 86]) (rv := some (.int c1536)) (h' := (HX w T)) rfl (Eway_numberOf v1535 _ hq (HX w T)) ?_
      show ai_ev D1 mway_goByLifts 26 [some (.ref 86), some (.ref 1), some (.int y1534)] [.int c1536, .ref 86] (HX w T) 0 0 _
      refine ev_go 4 (pc' := 34) (L' := [some (.ref 86), some (.ref 1), some (.int y1534)]) (st' := [.int y1534, .ref 14, .int c1536, .ref 86]) (h' := (HX w T)) (cs' := 0) (sl' := 0) rfl ?_
      obtain ⟨v1537, hq, h⟩ := ai_bdE h
      refine ev_iald rfl rfl hq ?_
      obtain ⟨c1538, hq, h⟩ := ai_bdE h
      refine ev_call (M' := mway_numberOf) (L' := [some (.int v1537)]) (rest := [.int c1536, .ref 86]) (rv := some (.int c1538)) (h' := (HX w T)) rfl (Eway_numberOf v1537 _ hq (HX w T)) ?_
      show ai_ev D1 mway_goByLifts 38 [some (.ref 86), some (.ref 1), some (.int y1534)] [.int c1538, .int c1536, .ref 86] (HX w T) 0 0 _
      refine ev_go 4 (pc' := 46) (L' := [some (.ref 86), some (.ref 1), some (.int y1534)]) (st' := [.int y1534, .ref 15, .int c1538, .int c1536, .ref 86]) (h' := (HX w T)) (cs' := 0) (sl' := 0) rfl ?_
      obtain ⟨v1539, hq, h⟩ := ai_bdE h
      refine ev_iald rfl rfl hq ?_
      obtain ⟨c1549, hq, h⟩ := ai_bdE h
      refine ev_call (M' := mway_join) (L' := [some (.ref 86), some (.int c1536), some (.int c1538), some (.int v1539)]) (rest := []) (rv := none) (h' := (HX c1549 T)) rfl (Eway_join_86 c1536 c1538 v1539 w _ hq T) ?_
      show ai_ev D1 mway_goByLifts 50 [some (.ref 86), some (.ref 1), some (.int y1534)] [] (HX c1549 T) 0 0 _
      refine ev_go 2 (pc' := 2) (L' := [some (.ref 86), some (.ref 1), some (.int (y1534 + 1))]) (st' := []) (h' := (HX c1549 T)) (cs' := 0) (sl' := 0) rfl ?_
      exact ih0 _ _ _ h T
set_option maxHeartbeats 40000000 in
set_option maxRecDepth 100000 in
theorem Eway_goByLifts_86_1 (n : Nat) (w : WX) (w' : WX) (h : Fway_goByLifts_86_1 n w = some w') (T : ai_H) : ai_ev D1 mway_goByLifts 0 [some (.ref 86), some (.ref 1), none] [] (HX w T) 0 0 (none, HX w' T) := by
  unfold Fway_goByLifts_86_1 at h
  have ih0 := EGway_goByLifts_86_1 n
  refine ev_go 2 (pc' := 2) (L' := [some (.ref 86), some (.ref 1), some (.int 0)]) (st' := []) (h' := (HX w T)) (cs' := 0) (sl' := 0) rfl ?_
  exact ih0 _ _ _ h T
set_option maxHeartbeats 40000000 in
set_option maxRecDepth 100000 in
theorem EGway_goBeside_86_1 : ∀ n : Nat, (∀ (y1551 : Int32) (w : WX) (w' : WX), Gway_goBeside_86_1 n 0 y1551 0 w = some w' → ∀ (T : ai_H) (o3 : Option Value), ai_ev D1 mway_goBeside 2 [some (.ref 86), some (.ref 1), some (.int y1551), o3] [] (HX w T) 0 0 (none, HX w' T)) ∧ (∀ (y1552 : Int32) (y1553 : Int32) (w : WX) (w' : WX), Gway_goBeside_86_1 n 1 y1552 y1553 w = some w' → ∀ (T : ai_H), ai_ev D1 mway_goBeside 14 [some (.ref 86), some (.ref 1), some (.int y1552), some (.int y1553)] [] (HX w T) 0 0 (none, HX w' T)) := by
  intro n
  induction n with
  | zero =>
    exact ⟨(fun _ _ _ h => by cases h), (fun _ _ _ _ h => by cases h)⟩
  | succ n ih =>
    obtain ⟨ih0, ih1⟩ := ih
    refine ⟨?_, ?_⟩
    · intro y1551 w w' h T o3
      simp only [Gway_goBeside_86_1] at h
      refine ev_go 5 (pc' := 9) (L' := [some (.ref 86), some (.ref 1), some (.int y1551), o3]) (st' := [.int ((a_s1_cells w) - 1), .int y1551]) (h' := (HX w T)) (cs' := 0) (sl' := 0) rfl ?_
      rcases ai_ifE h with ⟨hc, h⟩ | ⟨hc, h⟩
      · refine ev_ic_ge (t := 76) rfl rfl (fun _ => ?_) (fun c9 => absurd hc c9)
        obtain rfl := Option.some.inj h
        exact ev_end rfl
      · refine ev_ic_ge (t := 76) rfl rfl (fun c9 => absurd c9 hc) (fun _ => ?_)
        refine ev_go 2 (pc' := 14) (L' := [some (.ref 86), some (.ref 1), some (.int y1551), some (.int 0)]) (st' := []) (h' := (HX w T)) (cs' := 0) (sl' := 0) rfl ?_
        exact ih1 _ _ _ _ h T
    · intro y1552 y1553 w w' h T
      simp only [Gway_goBeside_86_1] at h
      refine ev_go 2 (pc' := 16) (L' := [some (.ref 86), some (.ref 1), some (.int y1552), some (.int y1553)]) (st' := [.int 4, .int y1553]) (h' := (HX w T)) (cs' := 0) (sl' := 0) rfl ?_
      rcases ai_ifE h with ⟨hc, h⟩ | ⟨hc, h⟩
      · refine ev_ic_ge (t := 70) rfl rfl (fun _ => ?_) (fun c9 => absurd hc c9)
        refine ev_go 2 (pc' := 2) (L' := [some (.ref 86), some (.ref 1), some (.int (y1552 + 1)), some (.int y1553)]) (st' := []) (h' := (HX w T)) (cs' := 0) (sl' := 0) rfl ?_
        exact ih0 _ _ _ h T _
      · refine ev_ic_ge (t := 70) rfl rfl (fun c9 => absurd c9 hc) (fun _ => ?_)
        refine ev_go 5 (pc' := 26) (L' := [some (.ref 86), some (.ref 1), some (.int y1552), some (.int y1553)]) (st' := [.int (a_s1_hour w), .int y1552, .int y1553, .ref 1]) (h' := (HX w T)) (cs' := 0) (sl' := 0) rfl ?_
        obtain ⟨c1554, hq, h⟩ := ai_bdE h
        refine ev_call (M' := msea_thickAt) (L' := [some (.ref 1), some (.int y1553), some (.int y1552), some (.int (a_s1_hour w))]) (rest := []) (rv := some (.int c1554.1)) (h' := (HX c1554.2 T)) rfl (Esea_thickAt_1 y1553 y1552 (a_s1_hour w) w _ _ hq T) ?_
        show ai_ev D1 mway_goBeside 29 [some (.ref 86), some (.ref 1), some (.int y1552), some (.int y1553)] [.int c1554.1] (HX c1554.2 T) 0 0 _
        rcases ai_ifE h with ⟨hc, h⟩ | ⟨hc, h⟩
        · refine ev_if_le (t := 64) rfl rfl (fun _ => ?_) (fun c9 => absurd hc c9)
          refine ev_go 2 (pc' := 14) (L' := [some (.ref 86), some (.ref 1), some (.int y1552), some (.int (y1553 + 1))]) (st' := []) (h' := (HX c1554.2 T)) (cs' := 0) (sl' := 0) rfl ?_
          exact ih1 _ _ _ _ h T
        · refine ev_if_le (t := 64) rfl rfl (fun c9 => absurd c9 hc) (fun _ => ?_)
          refine ev_go 7 (pc' := 41) (L' := [some (.ref 86), some (.ref 1), some (.int y1552), some (.int y1553)]) (st' := [.int (a_s1_hour c1554.2), .int (y1552 + 1), .int y1553, .ref 1]) (h' := (HX c1554.2 T)) (cs' := 0) (sl' := 0) rfl ?_
          obtain ⟨c1555, hq, h⟩ := ai_bdE h
          refine ev_call (M' := msea_thickAt) (L' := [some (.ref 1), some (.int y1553), some (.int (y1552 + 1)), some (.int (a_s1_hour c1554.2))]) (rest := []) (rv := some (.int c1555.1)) (h' := (HX c1555.2 T)) rfl (Esea_thickAt_1 y1553 (y1552 + 1) (a_s1_hour c1554.2) c1554.2 _ _ hq T) ?_
          show ai_ev D1 mway_goBeside 44 [some (.ref 86), some (.ref 1), some (.int y1552), some (.int y1553)] [.int c1555.1] (HX c1555.2 T) 0 0 _
          rcases ai_ifE h with ⟨hc, h⟩ | ⟨hc, h⟩
          · refine ev_if_le (t := 64) rfl rfl (fun _ => ?_) (fun c9 => absurd hc c9)
            refine ev_go 2 (pc' := 14) (L' := [some (.ref 86), some (.ref 1), some (.int y1552), some (.int (y1553 + 1))]) (st' := []) (h' := (HX c1555.2 T)) (cs' := 0) (sl' := 0) rfl ?_
            exact ih1 _ _ _ _ h T
          · refine ev_if_le (t := 64) rfl rfl (fun c9 => absurd c9 hc) (fun _ => ?_)
            refine ev_go 14 (pc' := 61) (L' := [some (.ref 86), some (.ref 1), some (.int y1552), some (.int y1553)]) (st' := [.int 3, .int (((y1552 + 1) * 4) + y1553), .int ((y1552 * 4) + y1553), .ref 86]) (h' := (HX c1555.2 T)) (cs' := 0) (sl' := 0) rfl ?_
            obtain ⟨c1556, hq, h⟩ := ai_bdE h
            refine ev_call (M' := mway_join) (L' := [some (.ref 86), some (.int ((y1552 * 4) + y1553)), some (.int (((y1552 + 1) * 4) + y1553)), some (.int 3)]) (rest := []) (rv := none) (h' := (HX c1556 T)) rfl (Eway_join_86 ((y1552 * 4) + y1553) (((y1552 + 1) * 4) + y1553) 3 c1555.2 _ hq T) ?_
            show ai_ev D1 mway_goBeside 64 [some (.ref 86), some (.ref 1), some (.int y1552), some (.int y1553)] [] (HX c1556 T) 0 0 _
            refine ev_go 2 (pc' := 14) (L' := [some (.ref 86), some (.ref 1), some (.int y1552), some (.int (y1553 + 1))]) (st' := []) (h' := (HX c1556 T)) (cs' := 0) (sl' := 0) rfl ?_
            exact ih1 _ _ _ _ h T
set_option maxHeartbeats 40000000 in
set_option maxRecDepth 100000 in
theorem Eway_goBeside_86_1 (n : Nat) (w : WX) (w' : WX) (h : Fway_goBeside_86_1 n w = some w') (T : ai_H) : ai_ev D1 mway_goBeside 0 [some (.ref 86), some (.ref 1), none, none] [] (HX w T) 0 0 (none, HX w' T) := by
  unfold Fway_goBeside_86_1 at h
  obtain ⟨ih0, ih1⟩ := EGway_goBeside_86_1 n
  refine ev_go 2 (pc' := 2) (L' := [some (.ref 86), some (.ref 1), some (.int 0), none]) (st' := []) (h' := (HX w T)) (cs' := 0) (sl' := 0) rfl ?_
  exact ih0 _ _ _ h T _
set_option maxHeartbeats 40000000 in
set_option maxRecDepth 100000 in
theorem EGway_soonestWay_86_1 : ∀ n : Nat, (∀ (y1529 : Int32) (y1530 : Int32) (y1531 : Int32) (w : WX) (r : Int32) (w' : WX), Gway_soonestWay_86_1 n 0 y1529 y1530 y1531 w = some (r, w') → ∀ (T : ai_H), ai_ev D1 mway_soonestWay 22 [some (.ref 86), some (.ref 1), some (.int y1529), some (.int y1530), some (.int y1531)] [] (HX w T) 0 0 (some (.int r), HX w' T)) := by
  intro n
  induction n with
  | zero =>
    exact (fun _ _ _ _ _ _ h => by cases h)
  | succ n ih0 =>
    intro y1529 y1530 y1531 w r w' h T
    simp only [Gway_soonestWay_86_1] at h
    refine ev_go 2 (pc' := 26) (L' := [some (.ref 86), some (.ref 1), some (.int y1529), some (.int y1530), some (.int y1531)]) (st' := [.int 24, .int y1531]) (h' := (HX w T)) (cs' := 0) (sl' := 0) rfl ?_
    rcases ai_ifE h with ⟨hc, h⟩ | ⟨hc, h⟩
    · refine ev_ic_ge (t := 45) rfl rfl (fun _ => ?_) (fun c9 => absurd hc c9)
      refine ev_go 3 (pc' := 50) (L' := [some (.ref 86), some (.ref 1), some (.int y1529), some (.int y1530), some (.int y1531)]) (st' := [.int y1530, .ref 87]) (h' := (HX w T)) (cs' := 0) (sl' := 0) rfl ?_
      obtain ⟨c1532, hq, h⟩ := ai_bdE h
      refine ev_call (M' := mway_numberOf) (L' := [some (.int y1530)]) (rest := [.ref 87]) (rv := some (.int c1532)) (h' := (HX w T)) rfl (Eway_numberOf y1530 _ hq (HX w T)) ?_
      show ai_ev D1 mway_soonestWay 53 [some (.ref 86), some (.ref 1), some (.int y1529), some (.int y1530), some (.int y1531)] [.int c1532, .ref 87] (HX w T) 0 0 _
      obtain ⟨v1533, hq, h⟩ := ai_bdE h
      refine ev_iald rfl rfl hq ?_
      refine ev_go 3 (pc' := 60) (L' := [some (.ref 86), some (.ref 1), some (.int y1529), some (.int y1530), some (.int v1533)]) (st' := [.int 1000000, .int v1533]) (h' := (HX w T)) (cs' := 0) (sl' := 0) rfl ?_
      rcases ai_ifE h with ⟨hc, h⟩ | ⟨hc, h⟩
      · refine ev_ic_lt (t := 67) rfl rfl (fun _ => ?_) (fun c9 => absurd hc c9)
        refine ev_go 1 (pc' := 69) (L' := [some (.ref 86), some (.ref 1), some (.int y1529), some (.int y1530), some (.int v1533)]) (st' := [.int v1533]) (h' := (HX w T)) (cs' := 0) (sl' := 0) rfl ?_
        obtain ⟨rfl, rfl⟩ := ai_smP h
        exact ev_end rfl
      · refine ev_ic_lt (t := 67) rfl rfl (fun c9 => absurd c9 hc) (fun _ => ?_)
        refine ev_go 2 (pc' := 69) (L' := [some (.ref 86), some (.ref 1), some (.int y1529), some (.int y1530), some (.int v1533)]) (st' := [.int (-1)]) (h' := (HX w T)) (cs' := 0) (sl' := 0) rfl ?_
        obtain ⟨rfl, rfl⟩ := ai_smP h
        exact ev_end rfl
    · refine ev_ic_ge (t := 45) rfl rfl (fun c9 => absurd c9 hc) (fun _ => ?_)
      refine ev_go 2 (pc' := 31) (L' := [some (.ref 86), some (.ref 1), some (.int y1529), some (.int y1530), some (.int y1531)]) (st' := [.ref 1, .ref 86]) (h' := (HX w T)) (cs' := 0) (sl' := 0) rfl ?_
      obtain ⟨c1550, hq, h⟩ := ai_bdE h
      refine ev_call (M' := mway_goByLifts) (L' := [some (.ref 86), some (.ref 1), none]) (rest := []) (rv := none) (h' := (HX c1550 T)) rfl (Eway_goByLifts_86_1 n w _ hq T) ?_
      show ai_ev D1 mway_soonestWay 34 [some (.ref 86), some (.ref 1), some (.int y1529), some (.int y1530), some (.int y1531)] [] (HX c1550 T) 0 0 _
      refine ev_go 2 (pc' := 36) (L' := [some (.ref 86), some (.ref 1), some (.int y1529), some (.int y1530), some (.int y1531)]) (st' := [.ref 1, .ref 86]) (h' := (HX c1550 T)) (cs' := 0) (sl' := 0) rfl ?_
      obtain ⟨c1557, hq, h⟩ := ai_bdE h
      refine ev_call (M' := mway_goBeside) (L' := [some (.ref 86), some (.ref 1), none, none]) (rest := []) (rv := none) (h' := (HX c1557 T)) rfl (Eway_goBeside_86_1 n c1550 _ hq T) ?_
      show ai_ev D1 mway_soonestWay 39 [some (.ref 86), some (.ref 1), some (.int y1529), some (.int y1530), some (.int y1531)] [] (HX c1557 T) 0 0 _
      refine ev_go 2 (pc' := 22) (L' := [some (.ref 86), some (.ref 1), some (.int y1529), some (.int y1530), some (.int (y1531 + 1))]) (st' := []) (h' := (HX c1557 T)) (cs' := 0) (sl' := 0) rfl ?_
      exact ih0 _ _ _ _ _ _ h T
set_option maxHeartbeats 40000000 in
set_option maxRecDepth 100000 in
theorem Eway_soonestWay_86_1 (n : Nat) (x1518 : Int32) (x1519 : Int32) (w : WX) (r : Int32) (w' : WX) (h : Fway_soonestWay_86_1 n x1518 x1519 w = some (r, w')) (T : ai_H) : ai_ev D1 mway_soonestWay 0 [some (.ref 86), some (.ref 1), some (.int x1518), some (.int x1519), none] [] (HX w T) 0 0 (some (.int r), HX w' T) := by
  unfold Fway_soonestWay_86_1 at h
  have ih0 := EGway_soonestWay_86_1 n
  refine ev_go 3 (pc' := 6) (L' := [some (.ref 86), some (.ref 1), some (.int x1518), some (.int x1519), none]) (st' := [.int 1000000, .ref 87]) (h' := (HX w T)) (cs' := 0) (sl' := 0) rfl ?_
  obtain ⟨c1525, hq, h⟩ := ai_bdE h
  refine ev_call (M' := marr_fill) (L' := [some (.ref 87), some (.int 1000000), none, none]) (rest := []) (rv := none) (h' := (HX c1525 T)) rfl (Earr_fill_87 n 1000000 w _ hq T) ?_
  show ai_ev D1 mway_soonestWay 9 [some (.ref 86), some (.ref 1), some (.int x1518), some (.int x1519), none] [] (HX c1525 T) 0 0 _
  refine ev_go 3 (pc' := 14) (L' := [some (.ref 86), some (.ref 1), some (.int x1518), some (.int x1519), none]) (st' := [.int x1518, .ref 87]) (h' := (HX c1525 T)) (cs' := 0) (sl' := 0) rfl ?_
  obtain ⟨c1527, hq, h⟩ := ai_bdE h
  refine ev_call (M' := mway_numberOf) (L' := [some (.int x1518)]) (rest := [.ref 87]) (rv := some (.int c1527)) (h' := (HX c1525 T)) rfl (Eway_numberOf x1518 _ hq (HX c1525 T)) ?_
  show ai_ev D1 mway_soonestWay 17 [some (.ref 86), some (.ref 1), some (.int x1518), some (.int x1519), none] [.int c1527, .ref 87] (HX c1525 T) 0 0 _
  refine ev_go 1 (pc' := 18) (L' := [some (.ref 86), some (.ref 1), some (.int x1518), some (.int x1519), none]) (st' := [.int 0, .int c1527, .ref 87]) (h' := (HX c1525 T)) (cs' := 0) (sl' := 0) rfl ?_
  obtain ⟨q1528, hq, h⟩ := ai_bdE h
  refine ev_iast rfl rfl hq ?_
  rw [HXs_87]
  refine ev_go 2 (pc' := 22) (L' := [some (.ref 86), some (.ref 1), some (.int x1518), some (.int x1519), some (.int 1)]) (st' := []) (h' := (HX (u_ways_reached c1525 q1528) T)) (cs' := 0) (sl' := 0) rfl ?_
  exact ih0 _ _ _ _ _ _ h T
set_option maxHeartbeats 40000000 in
set_option maxRecDepth 100000 in
theorem Ef_soonest_0 (n : Nat) (x1513 : Int32) (x1514 : Int32) (w : WX) (r : Int32) (w' : WX) (h : Ff_soonest_0 n x1513 x1514 w = some (r, w')) (T : ai_H) : ai_ev D1 mf_soonest 0 [some (.ref 0), some (.int x1513), some (.int x1514)] [] (HX w T) 0 0 (some (.int r), HX w' T) := by
  unfold Ff_soonest_0 at h
  refine ev_go 3 (pc' := 5) (L' := [some (.ref 0), some (.int x1513), some (.int x1514)]) (st' := [.int x1513, .ref 1]) (h' := (HX w T)) (cs' := 0) (sl' := 0) rfl ?_
  obtain ⟨c1515, hq, h⟩ := ai_bdE h
  refine ev_call (M' := msea_hasPlace) (L' := [some (.ref 1), some (.int x1513)]) (rest := []) (rv := some (.int c1515.1)) (h' := (HX c1515.2 T)) rfl (Esea_hasPlace_1 x1513 w _ _ hq T) ?_
  show ai_ev D1 mf_soonest 8 [some (.ref 0), some (.int x1513), some (.int x1514)] [.int c1515.1] (HX c1515.2 T) 0 0 _
  rcases ai_ifE h with ⟨hc, h⟩ | ⟨hc, h⟩
  · refine ev_if_eq (t := 22) rfl rfl (fun _ => ?_) (fun c9 => absurd hc c9)
    refine ev_go 2 (pc' := 25) (L' := [some (.ref 0), some (.int x1513), some (.int x1514)]) (st' := [.int (-2), .ref 0]) (h' := (HX c1515.2 T)) (cs' := 0) (sl' := 0) rfl ?_
    obtain ⟨c1516, hq, h⟩ := ai_bdE h
    refine ev_call (M' := mf_bad) (L' := [some (.ref 0), some (.int (-2))]) (rest := []) (rv := some (.int c1516.1)) (h' := (HX c1516.2 T)) rfl (Ef_bad_0 (-2) c1515.2 _ _ hq T) ?_
    show ai_ev D1 mf_soonest 28 [some (.ref 0), some (.int x1513), some (.int x1514)] [.int c1516.1] (HX c1516.2 T) 0 0 _
    obtain ⟨rfl, rfl⟩ := ai_smP h
    exact ev_end rfl
  · refine ev_if_eq (t := 22) rfl rfl (fun c9 => absurd c9 hc) (fun _ => ?_)
    refine ev_go 3 (pc' := 16) (L' := [some (.ref 0), some (.int x1513), some (.int x1514)]) (st' := [.int x1514, .ref 1]) (h' := (HX c1515.2 T)) (cs' := 0) (sl' := 0) rfl ?_
    obtain ⟨c1517, hq, h⟩ := ai_bdE h
    refine ev_call (M' := msea_hasPlace) (L' := [some (.ref 1), some (.int x1514)]) (rest := []) (rv := some (.int c1517.1)) (h' := (HX c1517.2 T)) rfl (Esea_hasPlace_1 x1514 c1515.2 _ _ hq T) ?_
    show ai_ev D1 mf_soonest 19 [some (.ref 0), some (.int x1513), some (.int x1514)] [.int c1517.1] (HX c1517.2 T) 0 0 _
    rcases ai_ifE h with ⟨hc, h⟩ | ⟨hc, h⟩
    · refine ev_if_ne (t := 29) rfl rfl (fun c9 => absurd hc c9) (fun _ => ?_)
      refine ev_go 2 (pc' := 25) (L' := [some (.ref 0), some (.int x1513), some (.int x1514)]) (st' := [.int (-2), .ref 0]) (h' := (HX c1517.2 T)) (cs' := 0) (sl' := 0) rfl ?_
      obtain ⟨c1559, hq, h⟩ := ai_bdE h
      refine ev_call (M' := mf_bad) (L' := [some (.ref 0), some (.int (-2))]) (rest := []) (rv := some (.int c1559.1)) (h' := (HX c1559.2 T)) rfl (Ef_bad_0 (-2) c1517.2 _ _ hq T) ?_
      show ai_ev D1 mf_soonest 28 [some (.ref 0), some (.int x1513), some (.int x1514)] [.int c1559.1] (HX c1559.2 T) 0 0 _
      obtain ⟨rfl, rfl⟩ := ai_smP h
      exact ev_end rfl
    · refine ev_if_ne (t := 29) rfl rfl (fun _ => ?_) (fun c9 => absurd c9 hc)
      refine ev_go 6 (pc' := 39) (L' := [some (.ref 0), some (.int x1513), some (.int x1514)]) (st' := [.int x1514, .int x1513, .ref 1, .ref 86]) (h' := (HX c1517.2 T)) (cs' := 0) (sl' := 0) rfl ?_
      obtain ⟨c1558, hq, h⟩ := ai_bdE h
      refine ev_call (M' := mway_soonestWay) (L' := [some (.ref 86), some (.ref 1), some (.int x1513), some (.int x1514), none]) (rest := []) (rv := some (.int c1558.1)) (h' := (HX c1558.2 T)) rfl (Eway_soonestWay_86_1 n x1513 x1514 c1517.2 _ _ hq T) ?_
      show ai_ev D1 mf_soonest 42 [some (.ref 0), some (.int x1513), some (.int x1514)] [.int c1558.1] (HX c1558.2 T) 0 0 _
      obtain ⟨rfl, rfl⟩ := ai_smP h
      exact ev_end rfl
set_option maxHeartbeats 40000000 in
set_option maxRecDepth 100000 in
theorem EGsea_ceilingOf_1 : ∀ n : Nat, (∀ (y1568 : Int32) (y1569 : Int32) (y1570 : Int32) (y1571 : Int32) (y1572 : Int32) (w : WX) (r : Int32) (w' : WX), Gsea_ceilingOf_1 n 0 y1568 y1569 y1570 y1571 y1572 w = some (r, w') → ∀ (T : ai_H) (o6 o7 : Option Value), ai_ev D1 msea_ceilingOf 15 [some (.ref 1), some (.int y1568), some (.int y1569), some (.int y1570), some (.int y1571), some (.int y1572), o6, o7] [] (HX w T) 0 0 (some (.int r), HX w' T)) := by
  intro n
  induction n with
  | zero =>
    exact (fun _ _ _ _ _ _ _ _ h => by cases h)
  | succ n ih0 =>
    intro y1568 y1569 y1570 y1571 y1572 w r w' h T o6 o7
    simp only [Gsea_ceilingOf_1] at h
    refine ev_go 3 (pc' := 21) (L' := [some (.ref 1), some (.int y1568), some (.int y1569), some (.int y1570), some (.int y1571), some (.int y1572), o6, o7]) (st' := [.int (a_s1_towns w), .int y1572]) (h' := (HX w T)) (cs' := 0) (sl' := 0) rfl ?_
    rcases ai_ifE h with ⟨hc, h⟩ | ⟨hc, h⟩
    · refine ev_ic_ge (t := 83) rfl rfl (fun _ => ?_) (fun c9 => absurd hc c9)
      refine ev_go 1 (pc' := 84) (L' := [some (.ref 1), some (.int y1568), some (.int y1569), some (.int y1570), some (.int y1571), some (.int y1572), o6, o7]) (st' := [.int y1570]) (h' := (HX w T)) (cs' := 0) (sl' := 0) rfl ?_
      obtain ⟨rfl, rfl⟩ := ai_smP h
      exact ev_end rfl
    · refine ev_ic_ge (t := 83) rfl rfl (fun c9 => absurd c9 hc) (fun _ => ?_)
      refine ev_go 3 (pc' := 30) (L' := [some (.ref 1), some (.int y1568), some (.int y1569), some (.int y1570), some (.int y1571), some (.int y1572), o6, o7]) (st' := [.int y1572, .ref 16]) (h' := (HX w T)) (cs' := 0) (sl' := 0) rfl ?_
      obtain ⟨v1573, hq, h⟩ := ai_bdE h
      refine ev_iald rfl rfl hq ?_
      refine ev_go 7 (pc' := 42) (L' := [some (.ref 1), some (.int y1568), some (.int y1569), some (.int y1570), some (.int y1571), some (.int y1572), some (.int v1573), o7]) (st' := [.int (y1569 / 10), .int (v1573 / 10)]) (h' := (HX w T)) (cs' := 0) (sl' := 0) rfl ?_
      rcases ai_ifE h with ⟨hc, h⟩ | ⟨hc, h⟩
      · refine ev_ic_ne (t := 55) rfl rfl (fun c9 => absurd hc c9) (fun _ => ?_)
        refine ev_go 2 (pc' := 48) (L' := [some (.ref 1), some (.int y1568), some (.int y1569), some (.int y1570), some (.int y1571), some (.int y1572), some (.int v1573), o7]) (st' := [.int y1569, .int v1573]) (h' := (HX w T)) (cs' := 0) (sl' := 0) rfl ?_
        rcases ai_ifE h with ⟨hc, h⟩ | ⟨hc, h⟩
        · refine ev_ic_ge (t := 55) rfl rfl (fun _ => ?_) (fun c9 => absurd hc c9)
          refine ev_go 6 (pc' := 15) (L' := [some (.ref 1), some (.int y1568), some (.int y1569), some (.int y1570), some (.int y1571), some (.int (y1572 + 1)), some (.int v1573), some (.int 0)]) (st' := []) (h' := (HX w T)) (cs' := 0) (sl' := 0) rfl ?_
          exact ih0 _ _ _ _ _ _ _ _ h T _ _
        · refine ev_ic_ge (t := 55) rfl rfl (fun c9 => absurd c9 hc) (fun _ => ?_)
          refine ev_go 7 (pc' := 67) (L' := [some (.ref 1), some (.int y1568), some (.int y1569), some (.int y1570), some (.int y1571), some (.int y1572), some (.int v1573), some (.int 1)]) (st' := [.int y1571, .int v1573]) (h' := (HX w T)) (cs' := 0) (sl' := 0) rfl ?_
          rcases ai_ifE h with ⟨hc, h⟩ | ⟨hc, h⟩
          · refine ev_ic_le (t := 77) rfl rfl (fun _ => ?_) (fun c9 => absurd hc c9)
            refine ev_go 2 (pc' := 15) (L' := [some (.ref 1), some (.int y1568), some (.int y1569), some (.int y1570), some (.int y1571), some (.int (y1572 + 1)), some (.int v1573), some (.int 1)]) (st' := []) (h' := (HX w T)) (cs' := 0) (sl' := 0) rfl ?_
            exact ih0 _ _ _ _ _ _ _ _ h T _ _
          · refine ev_ic_le (t := 77) rfl rfl (fun c9 => absurd c9 hc) (fun _ => ?_)
            refine ev_go 6 (pc' := 15) (L' := [some (.ref 1), some (.int y1568), some (.int y1569), some (.int y1572), some (.int v1573), some (.int (y1572 + 1)), some (.int v1573), some (.int 1)]) (st' := []) (h' := (HX w T)) (cs' := 0) (sl' := 0) rfl ?_
            exact ih0 _ _ _ _ _ _ _ _ h T _ _
      · refine ev_ic_ne (t := 55) rfl rfl (fun _ => ?_) (fun c9 => absurd c9 hc)
        refine ev_go 6 (pc' := 15) (L' := [some (.ref 1), some (.int y1568), some (.int y1569), some (.int y1570), some (.int y1571), some (.int (y1572 + 1)), some (.int v1573), some (.int 0)]) (st' := []) (h' := (HX w T)) (cs' := 0) (sl' := 0) rfl ?_
        exact ih0 _ _ _ _ _ _ _ _ h T _ _
set_option maxHeartbeats 40000000 in
set_option maxRecDepth 100000 in
theorem Esea_ceilingOf_1 (n : Nat) (x1566 : Int32) (w : WX) (r : Int32) (w' : WX) (h : Fsea_ceilingOf_1 n x1566 w = some (r, w')) (T : ai_H) : ai_ev D1 msea_ceilingOf 0 [some (.ref 1), some (.int x1566), none, none, none, none, none, none] [] (HX w T) 0 0 (some (.int r), HX w' T) := by
  unfold Fsea_ceilingOf_1 at h
  have ih0 := EGsea_ceilingOf_1 n
  refine ev_go 3 (pc' := 5) (L' := [some (.ref 1), some (.int x1566), none, none, none, none, none, none]) (st' := [.int x1566, .ref 16]) (h' := (HX w T)) (cs' := 0) (sl' := 0) rfl ?_
  obtain ⟨v1567, hq, h⟩ := ai_bdE h
  refine ev_iald rfl rfl hq ?_
  refine ev_go 7 (pc' := 15) (L' := [some (.ref 1), some (.int x1566), some (.int v1567), some (.int (-1)), some (.int (-1)), some (.int 0), none, none]) (st' := []) (h' := (HX w T)) (cs' := 0) (sl' := 0) rfl ?_
  exact ih0 _ _ _ _ _ _ _ _ h T _ _
set_option maxHeartbeats 40000000 in
set_option maxRecDepth 100000 in
theorem Esea_duesOf_1 (x1575 : Int32) (w : WX) (r : Int32) (w' : WX) (h : Fsea_duesOf_1 x1575 w = some (r, w')) (T : ai_H) : ai_ev D1 msea_duesOf 0 [some (.ref 1), some (.int x1575), none] [] (HX w T) 0 0 (some (.int r), HX w' T) := by
  unfold Fsea_duesOf_1 at h
  refine ev_go 3 (pc' := 5) (L' := [some (.ref 1), some (.int x1575), none]) (st' := [.int x1575, .ref 16]) (h' := (HX w T)) (cs' := 0) (sl' := 0) rfl ?_
  obtain ⟨v1576, hq, h⟩ := ai_bdE h
  refine ev_iald rfl rfl hq ?_
  refine ev_go 10 (pc' := 20) (L' := [some (.ref 1), some (.int x1575), some (.int v1576)]) (st' := [.int (a_s1_hour w), .int (v1576 / 10), .int (v1576 - v1576 / 10 * 10), .ref 1]) (h' := (HX w T)) (cs' := 0) (sl' := 0) rfl ?_
  obtain ⟨c1577, hq, h⟩ := ai_bdE h
  refine ev_call (M' := msea_thickAt) (L' := [some (.ref 1), some (.int (v1576 - v1576 / 10 * 10)), some (.int (v1576 / 10)), some (.int (a_s1_hour w))]) (rest := []) (rv := some (.int c1577.1)) (h' := (HX c1577.2 T)) rfl (Esea_thickAt_1 (v1576 - v1576 / 10 * 10) (v1576 / 10) (a_s1_hour w) w _ _ hq T) ?_
  show ai_ev D1 msea_duesOf 23 [some (.ref 1), some (.int x1575), some (.int v1576)] [.int c1577.1] (HX c1577.2 T) 0 0 _
  obtain ⟨rfl, rfl⟩ := ai_smP h
  exact ev_end rfl
set_option maxHeartbeats 40000000 in
set_option maxRecDepth 100000 in
theorem EGf_net_0 : ∀ n : Nat, (∀ (y1563 : Int32) (y1564 : Int32) (y1565 : Int32) (w : WX) (r : Int32) (w' : WX), Gf_net_0 n 0 y1563 y1564 y1565 w = some (r, w') → ∀ (T : ai_H) (o4 : Option Value), ai_ev D1 mf_net 29 [some (.ref 0), some (.int y1563), some (.int y1564), some (.int y1565), o4] [] (HX w T) 0 0 (some (.int r), HX w' T)) := by
  intro n
  induction n with
  | zero =>
    exact (fun _ _ _ _ _ _ h => by cases h)
  | succ n ih0 =>
    intro y1563 y1564 y1565 w r w' h T o4
    simp only [Gf_net_0] at h
    refine ev_go 4 (pc' := 37) (L' := [some (.ref 0), some (.int y1563), some (.int y1564), some (.int y1565), o4]) (st' := [.int (a_s1_towns w), .int y1565]) (h' := (HX w T)) (cs' := 0) (sl' := 0) rfl ?_
    rcases ai_ifE h with ⟨hc, h⟩ | ⟨hc, h⟩
    · refine ev_ic_ge (t := 98) rfl rfl (fun _ => ?_) (fun c9 => absurd hc c9)
      refine ev_go 1 (pc' := 99) (L' := [some (.ref 0), some (.int y1563), some (.int y1564), some (.int y1565), o4]) (st' := [.int y1564]) (h' := (HX w T)) (cs' := 0) (sl' := 0) rfl ?_
      obtain ⟨rfl, rfl⟩ := ai_smP h
      exact ev_end rfl
    · refine ev_ic_ge (t := 98) rfl rfl (fun c9 => absurd c9 hc) (fun _ => ?_)
      refine ev_go 3 (pc' := 45) (L' := [some (.ref 0), some (.int y1563), some (.int y1564), some (.int y1565), o4]) (st' := [.int y1565, .ref 1]) (h' := (HX w T)) (cs' := 0) (sl' := 0) rfl ?_
      obtain ⟨c1574, hq, h⟩ := ai_bdE h
      refine ev_call (M' := msea_ceilingOf) (L' := [some (.ref 1), some (.int y1565), none, none, none, none, none, none]) (rest := []) (rv := some (.int c1574.1)) (h' := (HX c1574.2 T)) rfl (Esea_ceilingOf_1 n y1565 w _ _ hq T) ?_
      show ai_ev D1 mf_net 48 [some (.ref 0), some (.int y1563), some (.int y1564), some (.int y1565), o4] [.int c1574.1] (HX c1574.2 T) 0 0 _
      refine ev_go 3 (pc' := 53) (L' := [some (.ref 0), some (.int y1563), some (.int y1564), some (.int y1565), some (.int c1574.1)]) (st' := [.int (-1), .int c1574.1]) (h' := (HX c1574.2 T)) (cs' := 0) (sl' := 0) rfl ?_
      rcases ai_ifE h with ⟨hc, h⟩ | ⟨hc, h⟩
      · refine ev_ic_ne (t := 59) rfl rfl (fun c9 => absurd hc c9) (fun _ => ?_)
        refine ev_go 3 (pc' := 29) (L' := [some (.ref 0), some (.int y1563), some (.int y1564), some (.int (y1565 + 1)), some (.int c1574.1)]) (st' := []) (h' := (HX c1574.2 T)) (cs' := 0) (sl' := 0) rfl ?_
        exact ih0 _ _ _ _ _ _ h T _
      · refine ev_ic_ne (t := 59) rfl rfl (fun _ => ?_) (fun c9 => absurd c9 hc)
        refine ev_go 2 (pc' := 62) (L' := [some (.ref 0), some (.int y1563), some (.int y1564), some (.int y1565), some (.int c1574.1)]) (st' := [.int y1563, .int c1574.1]) (h' := (HX c1574.2 T)) (cs' := 0) (sl' := 0) rfl ?_
        rcases ai_ifE h with ⟨hc, h⟩ | ⟨hc, h⟩
        · refine ev_ic_ne (t := 76) rfl rfl (fun c9 => absurd hc c9) (fun _ => ?_)
          refine ev_go 4 (pc' := 71) (L' := [some (.ref 0), some (.int y1563), some (.int y1564), some (.int y1565), some (.int c1574.1)]) (st' := [.int y1565, .ref 1, .int y1564]) (h' := (HX c1574.2 T)) (cs' := 0) (sl' := 0) rfl ?_
          obtain ⟨c1579, hq, h⟩ := ai_bdE h
          refine ev_call (M' := msea_duesOf) (L' := [some (.ref 1), some (.int y1565), none]) (rest := [.int y1564]) (rv := some (.int c1579.1)) (h' := (HX c1579.2 T)) rfl (Esea_duesOf_1 y1565 c1574.2 _ _ hq T) ?_
          show ai_ev D1 mf_net 74 [some (.ref 0), some (.int y1563), some (.int y1564), some (.int y1565), some (.int c1574.1)] [.int c1579.1, .int y1564] (HX c1579.2 T) 0 0 _
          refine ev_go 4 (pc' := 78) (L' := [some (.ref 0), some (.int y1563), some (.int (y1564 + c1579.1)), some (.int y1565), some (.int c1574.1)]) (st' := [.int y1563, .int y1565]) (h' := (HX c1579.2 T)) (cs' := 0) (sl' := 0) rfl ?_
          rcases ai_ifE h with ⟨hc, h⟩ | ⟨hc, h⟩
          · refine ev_ic_ne (t := 92) rfl rfl (fun c9 => absurd hc c9) (fun _ => ?_)
            refine ev_go 4 (pc' := 87) (L' := [some (.ref 0), some (.int y1563), some (.int (y1564 + c1579.1)), some (.int y1565), some (.int c1574.1)]) (st' := [.int y1565, .ref 1, .int (y1564 + c1579.1)]) (h' := (HX c1579.2 T)) (cs' := 0) (sl' := 0) rfl ?_
            obtain ⟨c1580, hq, h⟩ := ai_bdE h
            refine ev_call (M' := msea_duesOf) (L' := [some (.ref 1), some (.int y1565), none]) (rest := [.int (y1564 + c1579.1)]) (rv := some (.int c1580.1)) (h' := (HX c1580.2 T)) rfl (Esea_duesOf_1 y1565 c1579.2 _ _ hq T) ?_
            show ai_ev D1 mf_net 90 [some (.ref 0), some (.int y1563), some (.int (y1564 + c1579.1)), some (.int y1565), some (.int c1574.1)] [.int c1580.1, .int (y1564 + c1579.1)] (HX c1580.2 T) 0 0 _
            refine ev_go 4 (pc' := 29) (L' := [some (.ref 0), some (.int y1563), some (.int ((y1564 + c1579.1) - c1580.1)), some (.int (y1565 + 1)), some (.int c1574.1)]) (st' := []) (h' := (HX c1580.2 T)) (cs' := 0) (sl' := 0) rfl ?_
            exact ih0 _ _ _ _ _ _ h T _
          · refine ev_ic_ne (t := 92) rfl rfl (fun _ => ?_) (fun c9 => absurd c9 hc)
            refine ev_go 2 (pc' := 29) (L' := [some (.ref 0), some (.int y1563), some (.int (y1564 + c1579.1)), some (.int (y1565 + 1)), some (.int c1574.1)]) (st' := []) (h' := (HX c1579.2 T)) (cs' := 0) (sl' := 0) rfl ?_
            exact ih0 _ _ _ _ _ _ h T _
        · refine ev_ic_ne (t := 76) rfl rfl (fun _ => ?_) (fun c9 => absurd c9 hc)
          refine ev_go 2 (pc' := 78) (L' := [some (.ref 0), some (.int y1563), some (.int y1564), some (.int y1565), some (.int c1574.1)]) (st' := [.int y1563, .int y1565]) (h' := (HX c1574.2 T)) (cs' := 0) (sl' := 0) rfl ?_
          rcases ai_ifE h with ⟨hc, h⟩ | ⟨hc, h⟩
          · refine ev_ic_ne (t := 92) rfl rfl (fun c9 => absurd hc c9) (fun _ => ?_)
            refine ev_go 4 (pc' := 87) (L' := [some (.ref 0), some (.int y1563), some (.int y1564), some (.int y1565), some (.int c1574.1)]) (st' := [.int y1565, .ref 1, .int y1564]) (h' := (HX c1574.2 T)) (cs' := 0) (sl' := 0) rfl ?_
            obtain ⟨c1578, hq, h⟩ := ai_bdE h
            refine ev_call (M' := msea_duesOf) (L' := [some (.ref 1), some (.int y1565), none]) (rest := [.int y1564]) (rv := some (.int c1578.1)) (h' := (HX c1578.2 T)) rfl (Esea_duesOf_1 y1565 c1574.2 _ _ hq T) ?_
            show ai_ev D1 mf_net 90 [some (.ref 0), some (.int y1563), some (.int y1564), some (.int y1565), some (.int c1574.1)] [.int c1578.1, .int y1564] (HX c1578.2 T) 0 0 _
            refine ev_go 4 (pc' := 29) (L' := [some (.ref 0), some (.int y1563), some (.int (y1564 - c1578.1)), some (.int (y1565 + 1)), some (.int c1574.1)]) (st' := []) (h' := (HX c1578.2 T)) (cs' := 0) (sl' := 0) rfl ?_
            exact ih0 _ _ _ _ _ _ h T _
          · refine ev_ic_ne (t := 92) rfl rfl (fun _ => ?_) (fun c9 => absurd c9 hc)
            refine ev_go 2 (pc' := 29) (L' := [some (.ref 0), some (.int y1563), some (.int y1564), some (.int (y1565 + 1)), some (.int c1574.1)]) (st' := []) (h' := (HX c1574.2 T)) (cs' := 0) (sl' := 0) rfl ?_
            exact ih0 _ _ _ _ _ _ h T _
set_option maxHeartbeats 40000000 in
set_option maxRecDepth 100000 in
theorem Ef_net_0 (n : Nat) (x1560 : Int32) (w : WX) (r : Int32) (w' : WX) (h : Ff_net_0 n x1560 w = some (r, w')) (T : ai_H) : ai_ev D1 mf_net 0 [some (.ref 0), some (.int x1560), none, none, none] [] (HX w T) 0 0 (some (.int r), HX w' T) := by
  unfold Ff_net_0 at h
  have ih0 := EGf_net_0 n
  refine ev_go 7 (pc' := 11) (L' := [some (.ref 0), some (.int x1560), none, none, none]) (st' := [.int ((a_s1_towns w) - 1), .int 0, .int x1560]) (h' := (HX w T)) (cs' := 0) (sl' := 0) rfl ?_
  obtain ⟨c1561, hq, h⟩ := ai_bdE h
  refine ev_call (M' := mf_within) (L' := [some (.int x1560), some (.int 0), some (.int ((a_s1_towns w) - 1))]) (rest := []) (rv := some (.int c1561)) (h' := (HX w T)) rfl (Ef_within x1560 0 ((a_s1_towns w) - 1) _ hq (HX w T)) ?_
  show ai_ev D1 mf_net 14 [some (.ref 0), some (.int x1560), none, none, none] [.int c1561] (HX w T) 0 0 _
  rcases ai_ifE h with ⟨hc, h⟩ | ⟨hc, h⟩
  · refine ev_if_ne (t := 25) rfl rfl (fun c9 => absurd hc c9) (fun _ => ?_)
    refine ev_go 2 (pc' := 21) (L' := [some (.ref 0), some (.int x1560), none, none, none]) (st' := [.int (-1000), .ref 0]) (h' := (HX w T)) (cs' := 0) (sl' := 0) rfl ?_
    obtain ⟨c1562, hq, h⟩ := ai_bdE h
    refine ev_call (M' := mf_bad) (L' := [some (.ref 0), some (.int (-1000))]) (rest := []) (rv := some (.int c1562.1)) (h' := (HX c1562.2 T)) rfl (Ef_bad_0 (-1000) w _ _ hq T) ?_
    show ai_ev D1 mf_net 24 [some (.ref 0), some (.int x1560), none, none, none] [.int c1562.1] (HX c1562.2 T) 0 0 _
    obtain ⟨rfl, rfl⟩ := ai_smP h
    exact ev_end rfl
  · refine ev_if_ne (t := 25) rfl rfl (fun _ => ?_) (fun c9 => absurd c9 hc)
    refine ev_go 4 (pc' := 29) (L' := [some (.ref 0), some (.int x1560), some (.int 0), some (.int 0), none]) (st' := []) (h' := (HX w T)) (cs' := 0) (sl' := 0) rfl ?_
    exact ih0 _ _ _ _ _ _ h T _
set_option maxHeartbeats 40000000 in
set_option maxRecDepth 100000 in
theorem Ef_isSpill_0 (x1585 : Int32) (x1586 : Int32) (x1587 : Int32) (w : WX) (r : Int32) (w' : WX) (h : Ff_isSpill_0 x1585 x1586 x1587 w = some (r, w')) (T : ai_H) : ai_ev D1 mf_isSpill 0 [some (.ref 0), some (.int x1585), some (.int x1586), some (.int x1587)] [] (HX w T) 0 0 (some (.int r), HX w' T) := by
  unfold Ff_isSpill_0 at h
  refine ev_go 3 (pc' := 5) (L' := [some (.ref 0), some (.int x1585), some (.int x1586), some (.int x1587)]) (st' := [.int x1585, .ref 1]) (h' := (HX w T)) (cs' := 0) (sl' := 0) rfl ?_
  obtain ⟨c1588, hq, h⟩ := ai_bdE h
  refine ev_call (M' := msea_hasCell) (L' := [some (.ref 1), some (.int x1585)]) (rest := []) (rv := some (.int c1588.1)) (h' := (HX c1588.2 T)) rfl (Esea_hasCell_1 x1585 w _ _ hq T) ?_
  show ai_ev D1 mf_isSpill 8 [some (.ref 0), some (.int x1585), some (.int x1586), some (.int x1587)] [.int c1588.1] (HX c1588.2 T) 0 0 _
  rcases ai_ifE h with ⟨hc, h⟩ | ⟨hc, h⟩
  · refine ev_if_eq (t := 36) rfl rfl (fun _ => ?_) (fun c9 => absurd hc c9)
    refine ev_go 1 (pc' := 37) (L' := [some (.ref 0), some (.int x1585), some (.int x1586), some (.int x1587)]) (st' := [.int 0]) (h' := (HX c1588.2 T)) (cs' := 0) (sl' := 0) rfl ?_
    obtain ⟨rfl, rfl⟩ := ai_smP h
    exact ev_end rfl
  · refine ev_if_eq (t := 36) rfl rfl (fun c9 => absurd c9 hc) (fun _ => ?_)
    refine ev_go 3 (pc' := 16) (L' := [some (.ref 0), some (.int x1585), some (.int x1586), some (.int x1587)]) (st' := [.int 999, .int 0, .int x1586]) (h' := (HX c1588.2 T)) (cs' := 0) (sl' := 0) rfl ?_
    obtain ⟨c1589, hq, h⟩ := ai_bdE h
    refine ev_call (M' := mf_within) (L' := [some (.int x1586), some (.int 0), some (.int 999)]) (rest := []) (rv := some (.int c1589)) (h' := (HX c1588.2 T)) rfl (Ef_within x1586 0 999 _ hq (HX c1588.2 T)) ?_
    show ai_ev D1 mf_isSpill 19 [some (.ref 0), some (.int x1585), some (.int x1586), some (.int x1587)] [.int c1589] (HX c1588.2 T) 0 0 _
    rcases ai_ifE h with ⟨hc, h⟩ | ⟨hc, h⟩
    · refine ev_if_eq (t := 36) rfl rfl (fun _ => ?_) (fun c9 => absurd hc c9)
      refine ev_go 1 (pc' := 37) (L' := [some (.ref 0), some (.int x1585), some (.int x1586), some (.int x1587)]) (st' := [.int 0]) (h' := (HX c1588.2 T)) (cs' := 0) (sl' := 0) rfl ?_
      obtain ⟨rfl, rfl⟩ := ai_smP h
      exact ev_end rfl
    · refine ev_if_eq (t := 36) rfl rfl (fun c9 => absurd c9 hc) (fun _ => ?_)
      refine ev_go 3 (pc' := 26) (L' := [some (.ref 0), some (.int x1585), some (.int x1586), some (.int x1587)]) (st' := [.int 40, .int 0, .int x1587]) (h' := (HX c1588.2 T)) (cs' := 0) (sl' := 0) rfl ?_
      obtain ⟨c1590, hq, h⟩ := ai_bdE h
      refine ev_call (M' := mf_within) (L' := [some (.int x1587), some (.int 0), some (.int 40)]) (rest := []) (rv := some (.int c1590)) (h' := (HX c1588.2 T)) rfl (Ef_within x1587 0 40 _ hq (HX c1588.2 T)) ?_
      show ai_ev D1 mf_isSpill 29 [some (.ref 0), some (.int x1585), some (.int x1586), some (.int x1587)] [.int c1590] (HX c1588.2 T) 0 0 _
      rcases ai_ifE h with ⟨hc, h⟩ | ⟨hc, h⟩
      · refine ev_if_eq (t := 36) rfl rfl (fun _ => ?_) (fun c9 => absurd hc c9)
        refine ev_go 1 (pc' := 37) (L' := [some (.ref 0), some (.int x1585), some (.int x1586), some (.int x1587)]) (st' := [.int 0]) (h' := (HX c1588.2 T)) (cs' := 0) (sl' := 0) rfl ?_
        obtain ⟨rfl, rfl⟩ := ai_smP h
        exact ev_end rfl
      · refine ev_if_eq (t := 36) rfl rfl (fun c9 => absurd c9 hc) (fun _ => ?_)
        refine ev_go 2 (pc' := 37) (L' := [some (.ref 0), some (.int x1585), some (.int x1586), some (.int x1587)]) (st' := [.int 1]) (h' := (HX c1588.2 T)) (cs' := 0) (sl' := 0) rfl ?_
        obtain ⟨rfl, rfl⟩ := ai_smP h
        exact ev_end rfl
set_option maxHeartbeats 40000000 in
set_option maxRecDepth 100000 in
theorem EGarr_fill_84 : ∀ n : Nat, (∀ (y1597 : Int32) (y1598 : Int32) (y1599 : Int32) (w : WX) (w' : WX), Garr_fill_84 n 0 y1597 y1598 y1599 w = some w' → ∀ (T : ai_H), ai_ev D1 marr_fill 5 [some (.ref 84), some (.int y1597), some (.int y1598), some (.int y1599)] [] (HX w T) 0 0 (none, HX w' T)) := by
  intro n
  induction n with
  | zero =>
    exact (fun _ _ _ _ _ h => by cases h)
  | succ n ih0 =>
    intro y1597 y1598 y1599 w w' h T
    simp only [Garr_fill_84] at h
    refine ev_go 2 (pc' := 7) (L' := [some (.ref 84), some (.int y1597), some (.int y1598), some (.int y1599)]) (st' := [.int y1599, .int y1598]) (h' := (HX w T)) (cs' := 0) (sl' := 0) rfl ?_
    rcases ai_ifE h with ⟨hc, h⟩ | ⟨hc, h⟩
    · refine ev_ic_ge (t := 20) rfl rfl (fun _ => ?_) (fun c9 => absurd hc c9)
      obtain rfl := Option.some.inj h
      exact ev_end rfl
    · refine ev_ic_ge (t := 20) rfl rfl (fun c9 => absurd c9 hc) (fun _ => ?_)
      refine ev_go 3 (pc' := 13) (L' := [some (.ref 84), some (.int y1597), some (.int y1598), some (.int y1599)]) (st' := [.int y1597, .int y1598, .ref 84]) (h' := (HX w T)) (cs' := 0) (sl' := 0) rfl ?_
      obtain ⟨q1600, hq, h⟩ := ai_bdE h
      refine ev_iast rfl rfl hq ?_
      rw [HXs_84]
      refine ev_go 2 (pc' := 5) (L' := [some (.ref 84), some (.int y1597), some (.int (y1598 + 1)), some (.int y1599)]) (st' := []) (h' := (HX (u_spread_amounts w q1600) T)) (cs' := 0) (sl' := 0) rfl ?_
      exact ih0 _ _ _ _ _ h T
set_option maxHeartbeats 40000000 in
set_option maxRecDepth 100000 in
theorem Earr_fill_84 (n : Nat) (x1596 : Int32) (w : WX) (w' : WX) (h : Farr_fill_84 n x1596 w = some w') (T : ai_H) : ai_ev D1 marr_fill 0 [some (.ref 84), some (.int x1596), none, none] [] (HX w T) 0 0 (none, HX w' T) := by
  unfold Farr_fill_84 at h
  have ih0 := EGarr_fill_84 n
  refine ev_go 5 (pc' := 5) (L' := [some (.ref 84), some (.int x1596), some (.int 0), some (.int (Int32.ofNat (List.length (a_spread_amounts w))))]) (st' := []) (h' := (HX w T)) (cs' := 0) (sl' := 0) rfl ?_
  exact ih0 _ _ _ _ _ h T
set_option maxHeartbeats 40000000 in
set_option maxRecDepth 100000 in
theorem Espr_start_83 (n : Nat) (x1594 : Int32) (x1595 : Int32) (w : WX) (w' : WX) (h : Fspr_start_83 n x1594 x1595 w = some w') (T : ai_H) : ai_ev D1 mspr_start 0 [some (.ref 83), some (.int x1594), some (.int x1595)] [] (HX w T) 0 0 (none, HX w' T) := by
  unfold Fspr_start_83 at h
  refine ev_go 3 (pc' := 5) (L' := [some (.ref 83), some (.int x1594), some (.int x1595)]) (st' := [.int 0, .ref 84]) (h' := (HX w T)) (cs' := 0) (sl' := 0) rfl ?_
  obtain ⟨c1601, hq, h⟩ := ai_bdE h
  refine ev_call (M' := marr_fill) (L' := [some (.ref 84), some (.int 0), none, none]) (rest := []) (rv := none) (h' := (HX c1601 T)) rfl (Earr_fill_84 n 0 w _ hq T) ?_
  show ai_ev D1 mspr_start 8 [some (.ref 83), some (.int x1594), some (.int x1595)] [] (HX c1601 T) 0 0 _
  refine ev_go 4 (pc' := 14) (L' := [some (.ref 83), some (.int x1594), some (.int x1595)]) (st' := [.int x1595, .int x1594, .ref 84]) (h' := (HX c1601 T)) (cs' := 0) (sl' := 0) rfl ?_
  obtain ⟨q1602, hq, h⟩ := ai_bdE h
  refine ev_iast rfl rfl hq ?_
  rw [HXs_84]
  obtain rfl := Option.some.inj h
  exact ev_end rfl
set_option maxHeartbeats 40000000 in
set_option maxRecDepth 100000 in
theorem EGspr_goOn_83 : ∀ n : Nat, (∀ (y1613 : Int32) (y1614 : Int32) (y1615 : Int32) (w : WX) (w' : WX), Gspr_goOn_83 n 0 y1613 y1614 y1615 w = some w' → ∀ (T : ai_H), ai_ev D1 mspr_goOn 2 [some (.ref 83), some (.int y1613), some (.int y1614), some (.int y1615)] [] (HX w T) 0 0 (none, HX w' T)) ∧ (∀ (y1618 : Int32) (y1619 : Int32) (y1620 : Int32) (w : WX) (w' : WX), Gspr_goOn_83 n 1 y1618 y1619 y1620 w = some w' → ∀ (T : ai_H), ai_ev D1 mspr_goOn 29 [some (.ref 83), some (.int y1618), some (.int y1619), some (.int y1620)] [] (HX w T) 0 0 (none, HX w' T)) := by
  intro n
  induction n with
  | zero =>
    exact ⟨(fun _ _ _ _ _ h => by cases h), (fun _ _ _ _ _ h => by cases h)⟩
  | succ n ih =>
    obtain ⟨ih0, ih1⟩ := ih
    refine ⟨?_, ?_⟩
    · intro y1613 y1614 y1615 w w' h T
      simp only [Gspr_goOn_83] at h
      refine ev_go 2 (pc' := 4) (L' := [some (.ref 83), some (.int y1613), some (.int y1614), some (.int y1615)]) (st' := [.int y1613, .int y1615]) (h' := (HX w T)) (cs' := 0) (sl' := 0) rfl ?_
      rcases ai_ifE h with ⟨hc, h⟩ | ⟨hc, h⟩
      · refine ev_ic_ge (t := 27) rfl rfl (fun _ => ?_) (fun c9 => absurd hc c9)
        refine ev_go 2 (pc' := 29) (L' := [some (.ref 83), some (.int y1613), some (.int y1614), some (.int 0)]) (st' := []) (h' := (HX w T)) (cs' := 0) (sl' := 0) rfl ?_
        exact ih1 _ _ _ _ _ h T
      · refine ev_ic_ge (t := 27) rfl rfl (fun c9 => absurd c9 hc) (fun _ => ?_)
        refine ev_go 6 (pc' := 17) (L' := [some (.ref 83), some (.int y1613), some (.int y1614), some (.int y1615)]) (st' := [.int y1615, .ref 84, .int y1615, .ref 85]) (h' := (HX w T)) (cs' := 0) (sl' := 0) rfl ?_
        obtain ⟨v1616, hq, h⟩ := ai_bdE h
        refine ev_iald rfl rfl hq ?_
        refine ev_go 2 (pc' := 20) (L' := [some (.ref 83), some (.int y1613), some (.int y1614), some (.int y1615)]) (st' := [.int (v1616 / 4), .int y1615, .ref 85]) (h' := (HX w T)) (cs' := 0) (sl' := 0) rfl ?_
        obtain ⟨q1617, hq, h⟩ := ai_bdE h
        refine ev_iast rfl rfl hq ?_
        rw [HXs_85]
        refine ev_go 2 (pc' := 2) (L' := [some (.ref 83), some (.int y1613), some (.int y1614), some (.int (y1615 + 1))]) (st' := []) (h' := (HX (u_spread_gifts w q1617) T)) (cs' := 0) (sl' := 0) rfl ?_
        exact ih0 _ _ _ _ _ h T
    · intro y1618 y1619 y1620 w w' h T
      simp only [Gspr_goOn_83] at h
      refine ev_go 4 (pc' := 33) (L' := [some (.ref 83), some (.int y1618), some (.int y1619), some (.int y1620)]) (st' := [.int (y1618 - 1), .int y1620]) (h' := (HX w T)) (cs' := 0) (sl' := 0) rfl ?_
      rcases ai_ifE h with ⟨hc, h⟩ | ⟨hc, h⟩
      · refine ev_ic_ge (t := 100) rfl rfl (fun _ => ?_) (fun c9 => absurd hc c9)
        obtain rfl := Option.some.inj h
        exact ev_end rfl
      · refine ev_ic_ge (t := 100) rfl rfl (fun c9 => absurd c9 hc) (fun _ => ?_)
        refine ev_go 5 (pc' := 41) (L' := [some (.ref 83), some (.int y1618), some (.int y1619), some (.int y1620)]) (st' := [.int ((y1619 >>> (y1620 &&& 31)) &&& 1)]) (h' := (HX w T)) (cs' := 0) (sl' := 0) rfl ?_
        rcases ai_ifE h with ⟨hc, h⟩ | ⟨hc, h⟩
        · refine ev_if_ne (t := 94) rfl rfl (fun c9 => absurd hc c9) (fun _ => ?_)
          refine ev_go 4 (pc' := 50) (L' := [some (.ref 83), some (.int y1618), some (.int y1619), some (.int y1620)]) (st' := [.int y1620, .ref 84, .int y1620, .ref 84]) (h' := (HX w T)) (cs' := 0) (sl' := 0) rfl ?_
          obtain ⟨v1621, hq, h⟩ := ai_bdE h
          refine ev_iald rfl rfl hq ?_
          refine ev_go 5 (pc' := 58) (L' := [some (.ref 83), some (.int y1618), some (.int y1619), some (.int y1620)]) (st' := [.int (y1620 + 1), .ref 85, .int v1621, .int y1620, .ref 84]) (h' := (HX w T)) (cs' := 0) (sl' := 0) rfl ?_
          obtain ⟨v1622, hq, h⟩ := ai_bdE h
          refine ev_iald rfl rfl hq ?_
          refine ev_go 3 (pc' := 64) (L' := [some (.ref 83), some (.int y1618), some (.int y1619), some (.int y1620)]) (st' := [.int y1620, .ref 85, .int v1622, .int v1621, .int y1620, .ref 84]) (h' := (HX w T)) (cs' := 0) (sl' := 0) rfl ?_
          obtain ⟨v1623, hq, h⟩ := ai_bdE h
          refine ev_iald rfl rfl hq ?_
          refine ev_go 2 (pc' := 67) (L' := [some (.ref 83), some (.int y1618), some (.int y1619), some (.int y1620)]) (st' := [.int (v1621 + (v1622 - v1623)), .int y1620, .ref 84]) (h' := (HX w T)) (cs' := 0) (sl' := 0) rfl ?_
          obtain ⟨q1624, hq, h⟩ := ai_bdE h
          refine ev_iast rfl rfl hq ?_
          rw [HXs_84]
          refine ev_go 6 (pc' := 76) (L' := [some (.ref 83), some (.int y1618), some (.int y1619), some (.int y1620)]) (st' := [.int (y1620 + 1), .ref 84, .int (y1620 + 1), .ref 84]) (h' := (HX (u_spread_amounts w q1624) T)) (cs' := 0) (sl' := 0) rfl ?_
          obtain ⟨v1625, hq, h⟩ := ai_bdE h
          refine ev_iald rfl rfl hq ?_
          refine ev_go 3 (pc' := 82) (L' := [some (.ref 83), some (.int y1618), some (.int y1619), some (.int y1620)]) (st' := [.int y1620, .ref 85, .int v1625, .int (y1620 + 1), .ref 84]) (h' := (HX (u_spread_amounts w q1624) T)) (cs' := 0) (sl' := 0) rfl ?_
          obtain ⟨v1626, hq, h⟩ := ai_bdE h
          refine ev_iald rfl rfl hq ?_
          refine ev_go 5 (pc' := 90) (L' := [some (.ref 83), some (.int y1618), some (.int y1619), some (.int y1620)]) (st' := [.int (y1620 + 1), .ref 85, .int v1626, .int v1625, .int (y1620 + 1), .ref 84]) (h' := (HX (u_spread_amounts w q1624) T)) (cs' := 0) (sl' := 0) rfl ?_
          obtain ⟨v1627, hq, h⟩ := ai_bdE h
          refine ev_iald rfl rfl hq ?_
          refine ev_go 2 (pc' := 93) (L' := [some (.ref 83), some (.int y1618), some (.int y1619), some (.int y1620)]) (st' := [.int (v1625 + (v1626 - v1627)), .int (y1620 + 1), .ref 84]) (h' := (HX (u_spread_amounts w q1624) T)) (cs' := 0) (sl' := 0) rfl ?_
          obtain ⟨q1628, hq, h⟩ := ai_bdE h
          refine ev_iast rfl rfl hq ?_
          rw [HXs_84]
          refine ev_go 2 (pc' := 29) (L' := [some (.ref 83), some (.int y1618), some (.int y1619), some (.int (y1620 + 1))]) (st' := []) (h' := (HX (u_spread_amounts (u_spread_amounts w q1624) q1628) T)) (cs' := 0) (sl' := 0) rfl ?_
          exact ih1 _ _ _ _ _ h T
        · refine ev_if_ne (t := 94) rfl rfl (fun _ => ?_) (fun c9 => absurd c9 hc)
          refine ev_go 2 (pc' := 29) (L' := [some (.ref 83), some (.int y1618), some (.int y1619), some (.int (y1620 + 1))]) (st' := []) (h' := (HX w T)) (cs' := 0) (sl' := 0) rfl ?_
          exact ih1 _ _ _ _ _ h T
set_option maxHeartbeats 40000000 in
set_option maxRecDepth 100000 in
theorem Espr_goOn_83 (n : Nat) (x1611 : Int32) (x1612 : Int32) (w : WX) (w' : WX) (h : Fspr_goOn_83 n x1611 x1612 w = some w') (T : ai_H) : ai_ev D1 mspr_goOn 0 [some (.ref 83), some (.int x1611), some (.int x1612), none] [] (HX w T) 0 0 (none, HX w' T) := by
  unfold Fspr_goOn_83 at h
  obtain ⟨ih0, ih1⟩ := EGspr_goOn_83 n
  refine ev_go 2 (pc' := 2) (L' := [some (.ref 83), some (.int x1611), some (.int x1612), some (.int 0)]) (st' := []) (h' := (HX w T)) (cs' := 0) (sl' := 0) rfl ?_
  exact ih0 _ _ _ _ _ h T
set_option maxHeartbeats 40000000 in
set_option maxRecDepth 100000 in
theorem EGf_spill_0 : ∀ n : Nat, (∀ (y1605 : Int32) (y1606 : Int32) (y1607 : Int32) (y1608 : Int32) (y1609 : Int32) (w : WX) (r : Int32) (w' : WX), Gf_spill_0 n 0 y1605 y1606 y1607 y1608 y1609 w = some (r, w') → ∀ (T : ai_H), ai_ev D1 mf_spill 41 [some (.ref 0), some (.int y1605), some (.int y1606), some (.int y1607), some (.int y1608), some (.int y1609)] [] (HX w T) 0 0 (some (.int r), HX w' T)) := by
  intro n
  induction n with
  | zero =>
    exact (fun _ _ _ _ _ _ _ _ h => by cases h)
  | succ n ih0 =>
    intro y1605 y1606 y1607 y1608 y1609 w r w' h T
    simp only [Gf_spill_0] at h
    refine ev_go 2 (pc' := 44) (L' := [some (.ref 0), some (.int y1605), some (.int y1606), some (.int y1607), some (.int y1608), some (.int y1609)]) (st' := [.int y1607, .int y1609]) (h' := (HX w T)) (cs' := 0) (sl' := 0) rfl ?_
    rcases ai_ifE h with ⟨hc, h⟩ | ⟨hc, h⟩
    · refine ev_ic_ge (t := 74) rfl rfl (fun _ => ?_) (fun c9 => absurd hc c9)
      refine ev_go 4 (pc' := 83) (L' := [some (.ref 0), some (.int y1605), some (.int y1606), some (.int y1607), some (.int y1608), some (.int y1609)]) (st' := [.int y1608, .ref 84]) (h' := (HX w T)) (cs' := 0) (sl' := 0) rfl ?_
      obtain ⟨v1610, hq, h⟩ := ai_bdE h
      refine ev_iald rfl rfl hq ?_
      obtain ⟨rfl, rfl⟩ := ai_smP h
      exact ev_end rfl
    · refine ev_ic_ge (t := 74) rfl rfl (fun c9 => absurd c9 hc) (fun _ => ?_)
      refine ev_go 8 (pc' := 65) (L' := [some (.ref 0), some (.int y1605), some (.int y1606), some (.int y1607), some (.int y1608), some (.int y1609)]) (st' := [.int (a_s1_dams w), .int (a_s1_cells w), .ref 83]) (h' := (HX w T)) (cs' := 0) (sl' := 0) rfl ?_
      obtain ⟨c1629, hq, h⟩ := ai_bdE h
      refine ev_call (M' := mspr_goOn) (L' := [some (.ref 83), some (.int (a_s1_cells w)), some (.int (a_s1_dams w)), none]) (rest := []) (rv := none) (h' := (HX c1629 T)) rfl (Espr_goOn_83 n (a_s1_cells w) (a_s1_dams w) w _ hq T) ?_
      show ai_ev D1 mf_spill 68 [some (.ref 0), some (.int y1605), some (.int y1606), some (.int y1607), some (.int y1608), some (.int y1609)] [] (HX c1629 T) 0 0 _
      refine ev_go 2 (pc' := 41) (L' := [some (.ref 0), some (.int y1605), some (.int y1606), some (.int y1607), some (.int y1608), some (.int (y1609 + 1))]) (st' := []) (h' := (HX c1629 T)) (cs' := 0) (sl' := 0) rfl ?_
      exact ih0 _ _ _ _ _ _ _ _ h T
set_option maxHeartbeats 40000000 in
set_option maxRecDepth 100000 in
theorem Ef_spill_0 (n : Nat) (x1581 : Int32) (x1582 : Int32) (x1583 : Int32) (x1584 : Int32) (w : WX) (r : Int32) (w' : WX) (h : Ff_spill_0 n x1581 x1582 x1583 x1584 w = some (r, w')) (T : ai_H) : ai_ev D1 mf_spill 0 [some (.ref 0), some (.int x1581), some (.int x1582), some (.int x1583), some (.int x1584), none] [] (HX w T) 0 0 (some (.int r), HX w' T) := by
  unfold Ff_spill_0 at h
  have ih0 := EGf_spill_0 n
  refine ev_go 4 (pc' := 4) (L' := [some (.ref 0), some (.int x1581), some (.int x1582), some (.int x1583), some (.int x1584), none]) (st' := [.int x1583, .int x1582, .int x1581, .ref 0]) (h' := (HX w T)) (cs' := 0) (sl' := 0) rfl ?_
  obtain ⟨c1591, hq, h⟩ := ai_bdE h
  refine ev_call (M' := mf_isSpill) (L' := [some (.ref 0), some (.int x1581), some (.int x1582), some (.int x1583)]) (rest := []) (rv := some (.int c1591.1)) (h' := (HX c1591.2 T)) rfl (Ef_isSpill_0 x1581 x1582 x1583 w _ _ hq T) ?_
  show ai_ev D1 mf_spill 7 [some (.ref 0), some (.int x1581), some (.int x1582), some (.int x1583), some (.int x1584), none] [.int c1591.1] (HX c1591.2 T) 0 0 _
  rcases ai_ifE h with ⟨hc, h⟩ | ⟨hc, h⟩
  · refine ev_if_eq (t := 22) rfl rfl (fun _ => ?_) (fun c9 => absurd hc c9)
    refine ev_go 2 (pc' := 25) (L' := [some (.ref 0), some (.int x1581), some (.int x1582), some (.int x1583), some (.int x1584), none]) (st' := [.int (-2), .ref 0]) (h' := (HX c1591.2 T)) (cs' := 0) (sl' := 0) rfl ?_
    obtain ⟨c1592, hq, h⟩ := ai_bdE h
    refine ev_call (M' := mf_bad) (L' := [some (.ref 0), some (.int (-2))]) (rest := []) (rv := some (.int c1592.1)) (h' := (HX c1592.2 T)) rfl (Ef_bad_0 (-2) c1591.2 _ _ hq T) ?_
    show ai_ev D1 mf_spill 28 [some (.ref 0), some (.int x1581), some (.int x1582), some (.int x1583), some (.int x1584), none] [.int c1592.1] (HX c1592.2 T) 0 0 _
    obtain ⟨rfl, rfl⟩ := ai_smP h
    exact ev_end rfl
  · refine ev_if_eq (t := 22) rfl rfl (fun c9 => absurd c9 hc) (fun _ => ?_)
    refine ev_go 3 (pc' := 16) (L' := [some (.ref 0), some (.int x1581), some (.int x1582), some (.int x1583), some (.int x1584), none]) (st' := [.int x1584, .ref 1]) (h' := (HX c1591.2 T)) (cs' := 0) (sl' := 0) rfl ?_
    obtain ⟨c1593, hq, h⟩ := ai_bdE h
    refine ev_call (M' := msea_hasCell) (L' := [some (.ref 1), some (.int x1584)]) (rest := []) (rv := some (.int c1593.1)) (h' := (HX c1593.2 T)) rfl (Esea_hasCell_1 x1584 c1591.2 _ _ hq T) ?_
    show ai_ev D1 mf_spill 19 [some (.ref 0), some (.int x1581), some (.int x1582), some (.int x1583), some (.int x1584), none] [.int c1593.1] (HX c1593.2 T) 0 0 _
    rcases ai_ifE h with ⟨hc, h⟩ | ⟨hc, h⟩
    · refine ev_if_ne (t := 29) rfl rfl (fun c9 => absurd hc c9) (fun _ => ?_)
      refine ev_go 2 (pc' := 25) (L' := [some (.ref 0), some (.int x1581), some (.int x1582), some (.int x1583), some (.int x1584), none]) (st' := [.int (-2), .ref 0]) (h' := (HX c1593.2 T)) (cs' := 0) (sl' := 0) rfl ?_
      obtain ⟨c1604, hq, h⟩ := ai_bdE h
      refine ev_call (M' := mf_bad) (L' := [some (.ref 0), some (.int (-2))]) (rest := []) (rv := some (.int c1604.1)) (h' := (HX c1604.2 T)) rfl (Ef_bad_0 (-2) c1593.2 _ _ hq T) ?_
      show ai_ev D1 mf_spill 28 [some (.ref 0), some (.int x1581), some (.int x1582), some (.int x1583), some (.int x1584), none] [.int c1604.1] (HX c1604.2 T) 0 0 _
      obtain ⟨rfl, rfl⟩ := ai_smP h
      exact ev_end rfl
    · refine ev_if_ne (t := 29) rfl rfl (fun _ => ?_) (fun c9 => absurd c9 hc)
      refine ev_go 4 (pc' := 35) (L' := [some (.ref 0), some (.int x1581), some (.int x1582), some (.int x1583), some (.int x1584), none]) (st' := [.int x1582, .int x1581, .ref 83]) (h' := (HX c1593.2 T)) (cs' := 0) (sl' := 0) rfl ?_
      obtain ⟨c1603, hq, h⟩ := ai_bdE h
      refine ev_call (M' := mspr_start) (L' := [some (.ref 83), some (.int x1581), some (.int x1582)]) (rest := []) (rv := none) (h' := (HX c1603 T)) rfl (Espr_start_83 n x1581 x1582 c1593.2 _ hq T) ?_
      show ai_ev D1 mf_spill 38 [some (.ref 0), some (.int x1581), some (.int x1582), some (.int x1583), some (.int x1584), none] [] (HX c1603 T) 0 0 _
      refine ev_go 2 (pc' := 41) (L' := [some (.ref 0), some (.int x1581), some (.int x1582), some (.int x1583), some (.int x1584), some (.int 0)]) (st' := []) (h' := (HX c1603 T)) (cs' := 0) (sl' := 0) rfl ?_
      exact ih0 _ _ _ _ _ _ _ _ h T
