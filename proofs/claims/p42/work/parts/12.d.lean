set_option maxHeartbeats 40000000 in
set_option maxRecDepth 100000 in
theorem EGarr_fill_87 : ∀ n : Nat, (∀ (y1521 : Int32) (y1522 : Int32) (y1523 : Int32) (w : WX) (w' : WX), Garr_fill_87 n 0 y1521 y1522 y1523 w = some w' → ∀ (T : ai_H), ai_ev D1 marr_fill 5 [some (.ref 87), some (.int y1521), some (.int y1522), some (.int y1523)] [] (HX w T) 0 0 (none, HX w' T)) := by
  intro n
  induction n with
  | zero =>
    exact (fun _ _ _ _ _ h => by cases h)
  | succ n ih0 =>
    intro y1521 y1522 y1523 w w' h T
    simp only [Garr_fill_87] at h
    refine ev_go 2 (pc' := 7) (L' := [some (.ref 87), some (.int y1521), some (.int y1522), some (.int y1523)]) (st' := [.int y1523, .int y1522]) (h' := (HX w T)) (cs' := 0) (sl' := 0) rfl ?_
    rcases ai_ifE h with ⟨hc, h⟩ | ⟨hc, h⟩
    · refine ev_ic_ge (t := 20) rfl rfl (fun _ => ?_) (fun c9 => absurd hc c9)
      obtain rfl := Option.some.inj h
      exact ev_end rfl
    · refine ev_ic_ge (t := 20) rfl rfl (fun c9 => absurd c9 hc) (fun _ => ?_)
      refine ev_go 3 (pc' := 13) (L' := [some (.ref 87), some (.int y1521), some (.int y1522), some (.int y1523)]) (st' := [.int y1521, .int y1522, .ref 87]) (h' := (HX w T)) (cs' := 0) (sl' := 0) rfl ?_
      obtain ⟨q1524, hq, h⟩ := ai_bdE h
      refine ev_iast rfl rfl hq ?_
      rw [HXs_87]
      refine ev_go 2 (pc' := 5) (L' := [some (.ref 87), some (.int y1521), some (.int (y1522 + 1)), some (.int y1523)]) (st' := []) (h' := (HX (u_ways_reached w q1524) T)) (cs' := 0) (sl' := 0) rfl ?_
      exact ih0 _ _ _ _ _ h T
set_option maxHeartbeats 40000000 in
set_option maxRecDepth 100000 in
theorem Earr_fill_87 (n : Nat) (x1520 : Int32) (w : WX) (w' : WX) (h : Farr_fill_87 n x1520 w = some w') (T : ai_H) : ai_ev D1 marr_fill 0 [some (.ref 87), some (.int x1520), none, none] [] (HX w T) 0 0 (none, HX w' T) := by
  unfold Farr_fill_87 at h
  have ih0 := EGarr_fill_87 n
  refine ev_go 5 (pc' := 5) (L' := [some (.ref 87), some (.int x1520), some (.int 0), some (.int (Int32.ofNat (List.length (a_ways_reached w))))]) (st' := []) (h' := (HX w T)) (cs' := 0) (sl' := 0) rfl ?_
  exact ih0 _ _ _ _ _ h T
set_option maxHeartbeats 40000000 in
set_option maxRecDepth 100000 in
theorem Eway_numberOf (x1526 : Int32) (r : Int32) (h : Fway_numberOf x1526 = some r) (hh : ai_H) : ai_ev D1 mway_numberOf 0 [some (.int x1526)] [] hh 0 0 (some (.int r), hh) := by
  unfold Fway_numberOf at h
  refine ev_go 9 (pc' := 11) (L' := [some (.int x1526)]) (st' := [.int (((x1526 / 10) * 4) + (x1526 - x1526 / 10 * 10))]) (h' := hh) (cs' := 0) (sl' := 0) rfl ?_
  obtain rfl := Option.some.inj h
  exact ev_end rfl
set_option maxHeartbeats 40000000 in
set_option maxRecDepth 100000 in
theorem Eway_join_86 (x1540 : Int32) (x1541 : Int32) (x1542 : Int32) (w : WX) (w' : WX) (h : Fway_join_86 x1540 x1541 x1542 w = some w') (T : ai_H) : ai_ev D1 mway_join 0 [some (.ref 86), some (.int x1540), some (.int x1541), some (.int x1542)] [] (HX w T) 0 0 (none, HX w' T) := by
  unfold Fway_join_86 at h
  refine ev_go 6 (pc' := 10) (L' := [some (.ref 86), some (.int x1540), some (.int x1541), some (.int x1542)]) (st' := [.int x1540, .ref 87, .int x1540, .ref 87]) (h' := (HX w T)) (cs' := 0) (sl' := 0) rfl ?_
  obtain ⟨v1543, hq, h⟩ := ai_bdE h
  refine ev_iald rfl rfl hq ?_
  refine ev_go 3 (pc' := 16) (L' := [some (.ref 86), some (.int x1540), some (.int x1541), some (.int x1542)]) (st' := [.int x1541, .ref 87, .int v1543, .int x1540, .ref 87]) (h' := (HX w T)) (cs' := 0) (sl' := 0) rfl ?_
  obtain ⟨v1544, hq, h⟩ := ai_bdE h
  refine ev_iald rfl rfl hq ?_
  refine ev_go 3 (pc' := 22) (L' := [some (.ref 86), some (.int x1540), some (.int x1541), some (.int x1542)]) (st' := [.int (if (v1544 + x1542) < v1543 then (v1544 + x1542) else v1543), .int x1540, .ref 87]) (h' := (HX w T)) (cs' := 0) (sl' := 0) rfl ?_
  obtain ⟨q1545, hq, h⟩ := ai_bdE h
  refine ev_iast rfl rfl hq ?_
  rw [HXs_87]
  refine ev_go 6 (pc' := 33) (L' := [some (.ref 86), some (.int x1540), some (.int x1541), some (.int x1542)]) (st' := [.int x1541, .ref 87, .int x1541, .ref 87]) (h' := (HX (u_ways_reached w q1545) T)) (cs' := 0) (sl' := 0) rfl ?_
  obtain ⟨v1546, hq, h⟩ := ai_bdE h
  refine ev_iald rfl rfl hq ?_
  refine ev_go 3 (pc' := 39) (L' := [some (.ref 86), some (.int x1540), some (.int x1541), some (.int x1542)]) (st' := [.int x1540, .ref 87, .int v1546, .int x1541, .ref 87]) (h' := (HX (u_ways_reached w q1545) T)) (cs' := 0) (sl' := 0) rfl ?_
  obtain ⟨v1547, hq, h⟩ := ai_bdE h
  refine ev_iald rfl rfl hq ?_
  refine ev_go 3 (pc' := 45) (L' := [some (.ref 86), some (.int x1540), some (.int x1541), some (.int x1542)]) (st' := [.int (if (v1547 + x1542) < v1546 then (v1547 + x1542) else v1546), .int x1541, .ref 87]) (h' := (HX (u_ways_reached w q1545) T)) (cs' := 0) (sl' := 0) rfl ?_
  obtain ⟨q1548, hq, h⟩ := ai_bdE h
  refine ev_iast rfl rfl hq ?_
  rw [HXs_87]
  obtain rfl := Option.some.inj h
  exact ev_end rfl
set_option maxHeartbeats 40000000 in
set_option maxRecDepth 100000 in
theorem EGway_goByLifts_86_1 : ∀ n : Nat, (∀ (y1534 : Int32) (w : WX) (w' : WX), Gway_goByLifts_86_1 n 0 y1534 w = some w' → ∀ (T : ai_H), ai_ev D1 mway_goByLifts 2 [some (.ref 86), some (.ref 1), some (.int y1534)] [] (HX w T) 0 0 (none, HX w' T)) := by
  intro n
  induction n with
  | zero =>
    exact (fun _ _ _ h => by cases h)
  | succ n ih0 =>
    intro y1534 w w' h T
    simp only [Gway_goByLifts_86_1] at h
    refine ev_go 4 (pc' := 10) (L' := [some (.ref 86), some (.ref 1), some (.int y1534)]) (st' := [.int (a_s1lifts_count w), .int y1534]) (h' := (HX w T)) (cs' := 0) (sl' := 0) rfl ?_
    rcases ai_ifE h with ⟨hc, h⟩ | ⟨hc, h⟩
    · refine ev_ic_ge (t := 56) rfl rfl (fun _ => ?_) (fun c9 => absurd hc c9)
      obtain rfl := Option.some.inj h
      exact ev_end rfl
    · refine ev_ic_ge (t := 56) rfl rfl (fun c9 => absurd c9 hc) (fun _ => ?_)
      refine ev_go 5 (pc' := 22) (L' := [some (.ref 86), some (.ref 1), some (.int y1534)]) (st' := [.int y1534, .ref 13, .ref 86]) (h' := (HX w T)) (cs' := 0) (sl' := 0) rfl ?_
      obtain ⟨v1535, hq, h⟩ := ai_bdE h
      refine ev_iald rfl rfl hq ?_
      obtain ⟨c1536, hq, h⟩ := ai_bdE h
      refine ev_call (M' := mway_numberOf) (L' := [some (.int v1535)]) (rest := [.ref 86]) (rv := some (.int c1536)) (h' := (HX w T)) rfl (Eway_numberOf v1535 _ hq (HX w T)) ?_
      show ai_ev D1 mway_goByLifts 26 [some (.ref 86), some (.ref 1), some (.int y1534)] [.int c1536, .ref 86] (HX w T) 0 0 _
      refine ev_go 4 (pc' := 34) (L' := [some (.ref 86), some (.ref 1), some (.int y1534)]) (st' := [.int y1534, .ref 14, .int c1536, .ref 86]) (h' := (HX w T)) (cs' := 0) (sl' := 0) rfl ?_
      obtain ⟨v1537, hq, h⟩ := ai_bdE h
      refine ev_iald rfl rfl hq ?_
      obtain ⟨c1538, hq, h⟩ := ai_bdE h
      refine ev_call (M' := mway_numberOf) (L' := [some (.int v1537)]) (rest := [.int c1536, .ref 86]) (rv := some (.int c1538)) (h' := (HX w T)) rfl (Eway_numberOf v1537 _ hq (HX w T)) ?_
      show ai_ev D1 mway_goByLifts 38 [some (.ref 86), some (.ref 1), some (.int y1534)] [.int c1538, .int c1536, .ref 86] (HX w T) 0 0 _
      refine ev_go 4 (pc' := 46) (L' := [some (.ref 86), some (.ref 1), some (.int y1534)]) (st' := [.int y1534, .ref 15, .int c1538, .int c1536, .ref 86]) (h' := (HX w T)) (cs' := 0) (sl' := 0) rfl ?_
      obtain ⟨v1539, hq, h⟩ := ai_bdE h
      refine ev_iald rfl rfl hq ?_
      obtain ⟨c1549, hq, h⟩ := ai_bdE h
      refine ev_call (M' := mway_join) (L' := [some (.ref 86), some (.int c1536), some (.int c1538), some (.int v1539)]) (rest := []) (rv := none) (h' := (HX c1549 T)) rfl (Eway_join_86 c1536 c1538 v1539 w _ hq T) ?_
      show ai_ev D1 mway_goByLifts 50 [some (.ref 86), some (.ref 1), some (.int y1534)] [] (HX c1549 T) 0 0 _
      refine ev_go 2 (pc' := 2) (L' := [some (.ref 86), some (.ref 1), some (.int (y1534 + 1))]) (st' := []) (h' := (HX c1549 T)) (cs' := 0) (sl' := 0) rfl ?_
      exact ih0 _ _ _ h T
set_option maxHeartbeats 40000000 in
set_option maxRecDepth 100000 in
theorem Eway_goByLifts_86_1 (n : Nat) (w : WX) (w' : WX) (h : Fway_goByLifts_86_1 n w = some w') (T : ai_H) : ai_ev D1 mway_goByLifts 0 [some (.ref 86), some (.ref 1), none] [] (HX w T) 0 0 (none, HX w' T) := by
  unfold Fway_goByLifts_86_1 at h
  have ih0 := EGway_goByLifts_86_1 n
  refine ev_go 2 (pc' := 2) (L' := [some (.ref 86), some (.ref 1), some (.int 0)]) (st' := []) (h' := (HX w T)) (cs' := 0) (sl' := 0) rfl ?_
  exact ih0 _ _ _ h T
set_option maxHeartbeats 40000000 in
set_option maxRecDepth 100000 in
theorem EGway_goBeside_86_1 : ∀ n : Nat, (∀ (y1551 : Int32) (w : WX) (w' : WX), Gway_goBeside_86_1 n 0 y1551 0 w = some w' → ∀ (T : ai_H) (o3 : Option Value), ai_ev D1 mway_goBeside 2 [some (.ref 86), some (.ref 1), some (.int y1551), o3] [] (HX w T) 0 0 (none, HX w' T)) ∧ (∀ (y1552 : Int32) (y1553 : Int32) (w : WX) (w' : WX), Gway_goBeside_86_1 n 1 y1552 y1553 w = some w' → ∀ (T : ai_H), ai_ev D1 mway_goBeside 14 [some (.ref 86), some (.ref 1), some (.int y1552), some (.int y1553)] [] (HX w T) 0 0 (none, HX w' T)) := by
  intro n
  induction n with
  | zero =>
    exact ⟨(fun _ _ _ h => by cases h), (fun _ _ _ _ h => by cases h)⟩
  | succ n ih =>
    obtain ⟨ih0, ih1⟩ := ih
    refine ⟨?_, ?_⟩
    · intro y1551 w w' h T o3
      simp only [Gway_goBeside_86_1] at h
      refine ev_go 5 (pc' := 9) (L' := [some (.ref 86), some (.ref 1), some (.int y1551), o3]) (st' := [.int ((a_s1_cells w) - 1), .int y1551]) (h' := (HX w T)) (cs' := 0) (sl' := 0) rfl ?_
      rcases ai_ifE h with ⟨hc, h⟩ | ⟨hc, h⟩
      · refine ev_ic_ge (t := 76) rfl rfl (fun _ => ?_) (fun c9 => absurd hc c9)
        obtain rfl := Option.some.inj h
        exact ev_end rfl
      · refine ev_ic_ge (t := 76) rfl rfl (fun c9 => absurd c9 hc) (fun _ => ?_)
        refine ev_go 2 (pc' := 14) (L' := [some (.ref 86), some (.ref 1), some (.int y1551), some (.int 0)]) (st' := []) (h' := (HX w T)) (cs' := 0) (sl' := 0) rfl ?_
        exact ih1 _ _ _ _ h T
    · intro y1552 y1553 w w' h T
      simp only [Gway_goBeside_86_1] at h
      refine ev_go 2 (pc' := 16) (L' := [some (.ref 86), some (.ref 1), some (.int y1552), some (.int y1553)]) (st' := [.int 4, .int y1553]) (h' := (HX w T)) (cs' := 0) (sl' := 0) rfl ?_
      rcases ai_ifE h with ⟨hc, h⟩ | ⟨hc, h⟩
      · refine ev_ic_ge (t := 70) rfl rfl (fun _ => ?_) (fun c9 => absurd hc c9)
        refine ev_go 2 (pc' := 2) (L' := [some (.ref 86), some (.ref 1), some (.int (y1552 + 1)), some (.int y1553)]) (st' := []) (h' := (HX w T)) (cs' := 0) (sl' := 0) rfl ?_
        exact ih0 _ _ _ h T _
      · refine ev_ic_ge (t := 70) rfl rfl (fun c9 => absurd c9 hc) (fun _ => ?_)
        refine ev_go 5 (pc' := 26) (L' := [some (.ref 86), some (.ref 1), some (.int y1552), some (.int y1553)]) (st' := [.int (a_s1_hour w), .int y1552, .int y1553, .ref 1]) (h' := (HX w T)) (cs' := 0) (sl' := 0) rfl ?_
        obtain ⟨c1554, hq, h⟩ := ai_bdE h
        refine ev_call (M' := msea_thickAt) (L' := [some (.ref 1), some (.int y1553), some (.int y1552), some (.int (a_s1_hour w))]) (rest := []) (rv := some (.int c1554.1)) (h' := (HX c1554.2 T)) rfl (Esea_thickAt_1 y1553 y1552 (a_s1_hour w) w _ _ hq T) ?_
        show ai_ev D1 mway_goBeside 29 [some (.ref 86), some (.ref 1), some (.int y1552), some (.int y1553)] [.int c1554.1] (HX c1554.2 T) 0 0 _
        rcases ai_ifE h with ⟨hc, h⟩ | ⟨hc, h⟩
        · refine ev_if_le (t := 64) rfl rfl (fun _ => ?_) (fun c9 => absurd hc c9)
          refine ev_go 2 (pc' := 14) (L' := [some (.ref 86), some (.ref 1), some (.int y1552), some (.int (y1553 + 1))]) (st' := []) (h' := (HX c1554.2 T)) (cs' := 0) (sl' := 0) rfl ?_
          exact ih1 _ _ _ _ h T
        · refine ev_if_le (t := 64) rfl rfl (fun c9 => absurd c9 hc) (fun _ => ?_)
          refine ev_go 7 (pc' := 41) (L' := [some (.ref 86), some (.ref 1), some (.int y1552), some (.int y1553)]) (st' := [.int (a_s1_hour c1554.2), .int (y1552 + 1), .int y1553, .ref 1]) (h' := (HX c1554.2 T)) (cs' := 0) (sl' := 0) rfl ?_
          obtain ⟨c1555, hq, h⟩ := ai_bdE h
          refine ev_call (M' := msea_thickAt) (L' := [some (.ref 1), some (.int y1553), some (.int (y1552 + 1)), some (.int (a_s1_hour c1554.2))]) (rest := []) (rv := some (.int c1555.1)) (h' := (HX c1555.2 T)) rfl (Esea_thickAt_1 y1553 (y1552 + 1) (a_s1_hour c1554.2) c1554.2 _ _ hq T) ?_
          show ai_ev D1 mway_goBeside 44 [some (.ref 86), some (.ref 1), some (.int y1552), some (.int y1553)] [.int c1555.1] (HX c1555.2 T) 0 0 _
          rcases ai_ifE h with ⟨hc, h⟩ | ⟨hc, h⟩
          · refine ev_if_le (t := 64) rfl rfl (fun _ => ?_) (fun c9 => absurd hc c9)
            refine ev_go 2 (pc' := 14) (L' := [some (.ref 86), some (.ref 1), some (.int y1552), some (.int (y1553 + 1))]) (st' := []) (h' := (HX c1555.2 T)) (cs' := 0) (sl' := 0) rfl ?_
            exact ih1 _ _ _ _ h T
          · refine ev_if_le (t := 64) rfl rfl (fun c9 => absurd c9 hc) (fun _ => ?_)
            refine ev_go 14 (pc' := 61) (L' := [some (.ref 86), some (.ref 1), some (.int y1552), some (.int y1553)]) (st' := [.int 3, .int (((y1552 + 1) * 4) + y1553), .int ((y1552 * 4) + y1553), .ref 86]) (h' := (HX c1555.2 T)) (cs' := 0) (sl' := 0) rfl ?_
            obtain ⟨c1556, hq, h⟩ := ai_bdE h
            refine ev_call (M' := mway_join) (L' := [some (.ref 86), some (.int ((y1552 * 4) + y1553)), some (.int (((y1552 + 1) * 4) + y1553)), some (.int 3)]) (rest := []) (rv := none) (h' := (HX c1556 T)) rfl (Eway_join_86 ((y1552 * 4) + y1553) (((y1552 + 1) * 4) + y1553) 3 c1555.2 _ hq T) ?_
            show ai_ev D1 mway_goBeside 64 [some (.ref 86), some (.ref 1), some (.int y1552), some (.int y1553)] [] (HX c1556 T) 0 0 _
            refine ev_go 2 (pc' := 14) (L' := [some (.ref 86), some (.ref 1), some (.int y1552), some (.int (y1553 + 1))]) (st' := []) (h' := (HX c1556 T)) (cs' := 0) (sl' := 0) rfl ?_
            exact ih1 _ _ _ _ h T
set_option maxHeartbeats 40000000 in
set_option maxRecDepth 100000 in
theorem Eway_goBeside_86_1 (n : Nat) (w : WX) (w' : WX) (h : Fway_goBeside_86_1 n w = some w') (T : ai_H) : ai_ev D1 mway_goBeside 0 [some (.ref 86), some (.ref 1), none, none] [] (HX w T) 0 0 (none, HX w' T) := by
  unfold Fway_goBeside_86_1 at h
  obtain ⟨ih0, ih1⟩ := EGway_goBeside_86_1 n
  refine ev_go 2 (pc' := 2) (L' := [some (.ref 86), some (.ref 1), some (.int 0), none]) (st' := []) (h' := (HX w T)) (cs' := 0) (sl' := 0) rfl ?_
  exact ih0 _ _ _ h T _
set_option maxHeartbeats 40000000 in
set_option maxRecDepth 100000 in
theorem EGway_soonestWay_86_1 : ∀ n : Nat, (∀ (y1529 : Int32) (y1530 : Int32) (y1531 : Int32) (w : WX) (r : Int32) (w' : WX), Gway_soonestWay_86_1 n 0 y1529 y1530 y1531 w = some (r, w') → ∀ (T : ai_H), ai_ev D1 mway_soonestWay 22 [some (.ref 86), some (.ref 1), some (.int y1529), some (.int y1530), some (.int y1531)] [] (HX w T) 0 0 (some (.int r), HX w' T)) := by
  intro n
  induction n with
  | zero =>
    exact (fun _ _ _ _ _ _ h => by cases h)
  | succ n ih0 =>
    intro y1529 y1530 y1531 w r w' h T
    simp only [Gway_soonestWay_86_1] at h
    refine ev_go 2 (pc' := 26) (L' := [some (.ref 86), some (.ref 1), some (.int y1529), some (.int y1530), some (.int y1531)]) (st' := [.int 24, .int y1531]) (h' := (HX w T)) (cs' := 0) (sl' := 0) rfl ?_
    rcases ai_ifE h with ⟨hc, h⟩ | ⟨hc, h⟩
    · refine ev_ic_ge (t := 45) rfl rfl (fun _ => ?_) (fun c9 => absurd hc c9)
      refine ev_go 3 (pc' := 50) (L' := [some (.ref 86), some (.ref 1), some (.int y1529), some (.int y1530), some (.int y1531)]) (st' := [.int y1530, .ref 87]) (h' := (HX w T)) (cs' := 0) (sl' := 0) rfl ?_
      obtain ⟨c1532, hq, h⟩ := ai_bdE h
      refine ev_call (M' := mway_numberOf) (L' := [some (.int y1530)]) (rest := [.ref 87]) (rv := some (.int c1532)) (h' := (HX w T)) rfl (Eway_numberOf y1530 _ hq (HX w T)) ?_
      show ai_ev D1 mway_soonestWay 53 [some (.ref 86), some (.ref 1), some (.int y1529), some (.int y1530), some (.int y1531)] [.int c1532, .ref 87] (HX w T) 0 0 _
      obtain ⟨v1533, hq, h⟩ := ai_bdE h
      refine ev_iald rfl rfl hq ?_
      refine ev_go 3 (pc' := 60) (L' := [some (.ref 86), some (.ref 1), some (.int y1529), some (.int y1530), some (.int v1533)]) (st' := [.int 1000000, .int v1533]) (h' := (HX w T)) (cs' := 0) (sl' := 0) rfl ?_
      rcases ai_ifE h with ⟨hc, h⟩ | ⟨hc, h⟩
      · refine ev_ic_lt (t := 67) rfl rfl (fun _ => ?_) (fun c9 => absurd hc c9)
        refine ev_go 1 (pc' := 69) (L' := [some (.ref 86), some (.ref 1), some (.int y1529), some (.int y1530), some (.int v1533)]) (st' := [.int v1533]) (h' := (HX w T)) (cs' := 0) (sl' := 0) rfl ?_
        obtain ⟨rfl, rfl⟩ := ai_smP h
        exact ev_end rfl
      · refine ev_ic_lt (t := 67) rfl rfl (fun c9 => absurd c9 hc) (fun _ => ?_)
        refine ev_go 2 (pc' := 69) (L' := [some (.ref 86), some (.ref 1), some (.int y1529), some (.int y1530), some (.int v1533)]) (st' := [.int (-1)]) (h' := (HX w T)) (cs' := 0) (sl' := 0) rfl ?_
        obtain ⟨rfl, rfl⟩ := ai_smP h
        exact ev_end rfl
    · refine ev_ic_ge (t := 45) rfl rfl (fun c9 => absurd c9 hc) (fun _ => ?_)
      refine ev_go 2 (pc' := 31) (L' := [some (.ref 86), some (.ref 1), some (.int y1529), some (.int y1530), some (.int y1531)]) (st' := [.ref 1, .ref 86]) (h' := (HX w T)) (cs' := 0) (sl' := 0) rfl ?_
      obtain ⟨c1550, hq, h⟩ := ai_bdE h
      refine ev_call (M' := mway_goByLifts) (L' := [some (.ref 86), some (.ref 1), none]) (rest := []) (rv := none) (h' := (HX c1550 T)) rfl (Eway_goByLifts_86_1 n w _ hq T) ?_
      show ai_ev D1 mway_soonestWay 34 [some (.ref 86), some (.ref 1), some (.int y1529), some (.int y1530), some (.int y1531)] [] (HX c1550 T) 0 0 _
      refine ev_go 2 (pc' := 36) (L' := [some (.ref 86), some (.ref 1), some (.int y1529), some (.int y1530), some (.int y1531)]) (st' := [.ref 1, .ref 86]) (h' := (HX c1550 T)) (cs' := 0) (sl' := 0) rfl ?_
      obtain ⟨c1557, hq, h⟩ := ai_bdE h
      refine ev_call (M' := mway_goBeside) (L' := [some (.ref 86), some (.ref 1), none, none]) (rest := []) (rv := none) (h' := (HX c1557 T)) rfl (Eway_goBeside_86_1 n c1550 _ hq T) ?_
      show ai_ev D1 mway_soonestWay 39 [some (.ref 86), some (.ref 1), some (.int y1529), some (.int y1530), some (.int y1531)] [] (HX c1557 T) 0 0 _
      refine ev_go 2 (pc' := 22) (L' := [some (.ref 86), some (.ref 1), some (.int y1529), some (.int y1530), some (.int (y1531 + 1))]) (st' := []) (h' := (HX c1557 T)) (cs' := 0) (sl' := 0) rfl ?_
      exact ih0 _ _ _ _ _ _ h T
set_option maxHeartbeats 40000000 in
set_option maxRecDepth 100000 in
theorem Eway_soonestWay_86_1 (n : Nat) (x1518 : Int32) (x1519 : Int32) (w : WX) (r : Int32) (w' : WX) (h : Fway_soonestWay_86_1 n x1518 x1519 w = some (r, w')) (T : ai_H) : ai_ev D1 mway_soonestWay 0 [some (.ref 86), some (.ref 1), some (.int x1518), some (.int x1519), none] [] (HX w T) 0 0 (some (.int r), HX w' T) := by
  unfold Fway_soonestWay_86_1 at h
  have ih0 := EGway_soonestWay_86_1 n
  refine ev_go 3 (pc' := 6) (L' := [some (.ref 86), some (.ref 1), some (.int x1518), some (.int x1519), none]) (st' := [.int 1000000, .ref 87]) (h' := (HX w T)) (cs' := 0) (sl' := 0) rfl ?_
  obtain ⟨c1525, hq, h⟩ := ai_bdE h
  refine ev_call (M' := marr_fill) (L' := [some (.ref 87), some (.int 1000000), none, none]) (rest := []) (rv := none) (h' := (HX c1525 T)) rfl (Earr_fill_87 n 1000000 w _ hq T) ?_
  show ai_ev D1 mway_soonestWay 9 [some (.ref 86), some (.ref 1), some (.int x1518), some (.int x1519), none] [] (HX c1525 T) 0 0 _
  refine ev_go 3 (pc' := 14) (L' := [some (.ref 86), some (.ref 1), some (.int x1518), some (.int x1519), none]) (st' := [.int x1518, .ref 87]) (h' := (HX c1525 T)) (cs' := 0) (sl' := 0) rfl ?_
  obtain ⟨c1527, hq, h⟩ := ai_bdE h
  refine ev_call (M' := mway_numberOf) (L' := [some (.int x1518)]) (rest := [.ref 87]) (rv := some (.int c1527)) (h' := (HX c1525 T)) rfl (Eway_numberOf x1518 _ hq (HX c1525 T)) ?_
  show ai_ev D1 mway_soonestWay 17 [some (.ref 86), some (.ref 1), some (.int x1518), some (.int x1519), none] [.int c1527, .ref 87] (HX c1525 T) 0 0 _
  refine ev_go 1 (pc' := 18) (L' := [some (.ref 86), some (.ref 1), some (.int x1518), some (.int x1519), none]) (st' := [.int 0, .int c1527, .ref 87]) (h' := (HX c1525 T)) (cs' := 0) (sl' := 0) rfl ?_
  obtain ⟨q1528, hq, h⟩ := ai_bdE h
  refine ev_iast rfl rfl hq ?_
  rw [HXs_87]
  refine ev_go 2 (pc' := 22) (L' := [some (.ref 86), some (.ref 1), some (.int x1518), some (.int x1519), some (.int 1)]) (st' := []) (h' := (HX (u_ways_reached c1525 q1528) T)) (cs' := 0) (sl' := 0) rfl ?_
  exact ih0 _ _ _ _ _ _ h T
set_option maxHeartbeats 40000000 in
set_option maxRecDepth 100000 in
theorem Ef_soonest_0 (n : Nat) (x1513 : Int32) (x1514 : Int32) (w : WX) (r : Int32) (w' : WX) (h : Ff_soonest_0 n x1513 x1514 w = some (r, w')) (T : ai_H) : ai_ev D1 mf_soonest 0 [some (.ref 0), some (.int x1513), some (.int x1514)] [] (HX w T) 0 0 (some (.int r), HX w' T) := by
  unfold Ff_soonest_0 at h
  refine ev_go 3 (pc' := 5) (L' := [some (.ref 0), some (.int x1513), some (.int x1514)]) (st' := [.int x1513, .ref 1]) (h' := (HX w T)) (cs' := 0) (sl' := 0) rfl ?_
  obtain ⟨c1515, hq, h⟩ := ai_bdE h
  refine ev_call (M' := msea_hasPlace) (L' := [some (.ref 1), some (.int x1513)]) (rest := []) (rv := some (.int c1515.1)) (h' := (HX c1515.2 T)) rfl (Esea_hasPlace_1 x1513 w _ _ hq T) ?_
  show ai_ev D1 mf_soonest 8 [some (.ref 0), some (.int x1513), some (.int x1514)] [.int c1515.1] (HX c1515.2 T) 0 0 _
  rcases ai_ifE h with ⟨hc, h⟩ | ⟨hc, h⟩
  · refine ev_if_eq (t := 22) rfl rfl (fun _ => ?_) (fun c9 => absurd hc c9)
    refine ev_go 2 (pc' := 25) (L' := [some (.ref 0), some (.int x1513), some (.int x1514)]) (st' := [.int (-2), .ref 0]) (h' := (HX c1515.2 T)) (cs' := 0) (sl' := 0) rfl ?_
    obtain ⟨c1516, hq, h⟩ := ai_bdE h
    refine ev_call (M' := mf_bad) (L' := [some (.ref 0), some (.int (-2))]) (rest := []) (rv := some (.int c1516.1)) (h' := (HX c1516.2 T)) rfl (Ef_bad_0 (-2) c1515.2 _ _ hq T) ?_
    show ai_ev D1 mf_soonest 28 [some (.ref 0), some (.int x1513), some (.int x1514)] [.int c1516.1] (HX c1516.2 T) 0 0 _
    obtain ⟨rfl, rfl⟩ := ai_smP h
    exact ev_end rfl
  · refine ev_if_eq (t := 22) rfl rfl (fun c9 => absurd c9 hc) (fun _ => ?_)
    refine ev_go 3 (pc' := 16) (L' := [some (.ref 0), some (.int x1513), some (.int x1514)]) (st' := [.int x1514, .ref 1]) (h' := (HX c1515.2 T)) (cs' := 0) (sl' := 0) rfl ?_
    obtain ⟨c1517, hq, h⟩ := ai_bdE h
    refine ev_call (M' := msea_hasPlace) (L' := [some (.ref 1), some (.int x1514)]) (rest := []) (rv := some (.int c1517.1)) (h' := (HX c1517.2 T)) rfl (Esea_hasPlace_1 x1514 c1515.2 _ _ hq T) ?_
    show ai_ev D1 mf_soonest 19 [some (.ref 0), some (.int x1513), some (.int x1514)] [.int c1517.1] (HX c1517.2 T) 0 0 _
    rcases ai_ifE h with ⟨hc, h⟩ | ⟨hc, h⟩
    · refine ev_if_ne (t := 29) rfl rfl (fun c9 => absurd hc c9) (fun _ => ?_)
      refine ev_go 2 (pc' := 25) (L' := [some (.ref 0), some (.int x1513), some (.int x1514)]) (st' := [.int (-2), .ref 0]) (h' := (HX c1517.2 T)) (cs' := 0) (sl' := 0) rfl ?_
      obtain ⟨c1559, hq, h⟩ := ai_bdE h
      refine ev_call (M' := mf_bad) (L' := [some (.ref 0), some (.int (-2))]) (rest := []) (rv := some (.int c1559.1)) (h' := (HX c1559.2 T)) rfl (Ef_bad_0 (-2) c1517.2 _ _ hq T) ?_
      show ai_ev D1 mf_soonest 28 [some (.ref 0), some (.int x1513), some (.int x1514)] [.int c1559.1] (HX c1559.2 T) 0 0 _
      obtain ⟨rfl, rfl⟩ := ai_smP h
      exact ev_end rfl
    · refine ev_if_ne (t := 29) rfl rfl (fun _ => ?_) (fun c9 => absurd c9 hc)
      refine ev_go 6 (pc' := 39) (L' := [some (.ref 0), some (.int x1513), some (.int x1514)]) (st' := [.int x1514, .int x1513, .ref 1, .ref 86]) (h' := (HX c1517.2 T)) (cs' := 0) (sl' := 0) rfl ?_
      obtain ⟨c1558, hq, h⟩ := ai_bdE h
      refine ev_call (M' := mway_soonestWay) (L' := [some (.ref 86), some (.ref 1), some (.int x1513), some (.int x1514), none]) (rest := []) (rv := some (.int c1558.1)) (h' := (HX c1558.2 T)) rfl (Eway_soonestWay_86_1 n x1513 x1514 c1517.2 _ _ hq T) ?_
      show ai_ev D1 mf_soonest 42 [some (.ref 0), some (.int x1513), some (.int x1514)] [.int c1558.1] (HX c1558.2 T) 0 0 _
      obtain ⟨rfl, rfl⟩ := ai_smP h
      exact ev_end rfl
set_option maxHeartbeats 40000000 in
set_option maxRecDepth 100000 in
theorem EGsea_ceilingOf_1 : ∀ n : Nat, (∀ (y1568 : Int32) (y1569 : Int32) (y1570 : Int32) (y1571 : Int32) (y1572 : Int32) (w : WX) (r : Int32) (w' : WX), Gsea_ceilingOf_1 n 0 y1568 y1569 y1570 y1571 y1572 w = some (r, w') → ∀ (T : ai_H) (o6 o7 : Option Value), ai_ev D1 msea_ceilingOf 15 [some (.ref 1), some (.int y1568), some (.int y1569), some (.int y1570), some (.int y1571), some (.int y1572), o6, o7] [] (HX w T) 0 0 (some (.int r), HX w' T)) := by
  intro n
  induction n with
  | zero =>
    exact (fun _ _ _ _ _ _ _ _ h => by cases h)
  | succ n ih0 =>
    intro y1568 y1569 y1570 y1571 y1572 w r w' h T o6 o7
    simp only [Gsea_ceilingOf_1] at h
    refine ev_go 3 (pc' := 21) (L' := [some (.ref 1), some (.int y1568), some (.int y1569), some (.int y1570), some (.int y1571), some (.int y1572), o6, o7]) (st' := [.int (a_s1_towns w), .int y1572]) (h' := (HX w T)) (cs' := 0) (sl' := 0) rfl ?_
    rcases ai_ifE h with ⟨hc, h⟩ | ⟨hc, h⟩
    · refine ev_ic_ge (t := 83) rfl rfl (fun _ => ?_) (fun c9 => absurd hc c9)
      refine ev_go 1 (pc' := 84) (L' := [some (.ref 1), some (.int y1568), some (.int y1569), some (.int y1570), some (.int y1571), some (.int y1572), o6, o7]) (st' := [.int y1570]) (h' := (HX w T)) (cs' := 0) (sl' := 0) rfl ?_
      obtain ⟨rfl, rfl⟩ := ai_smP h
      exact ev_end rfl
    · refine ev_ic_ge (t := 83) rfl rfl (fun c9 => absurd c9 hc) (fun _ => ?_)
      refine ev_go 3 (pc' := 30) (L' := [some (.ref 1), some (.int y1568), some (.int y1569), some (.int y1570), some (.int y1571), some (.int y1572), o6, o7]) (st' := [.int y1572, .ref 16]) (h' := (HX w T)) (cs' := 0) (sl' := 0) rfl ?_
      obtain ⟨v1573, hq, h⟩ := ai_bdE h
      refine ev_iald rfl rfl hq ?_
      refine ev_go 7 (pc' := 42) (L' := [some (.ref 1), some (.int y1568), some (.int y1569), some (.int y1570), some (.int y1571), some (.int y1572), some (.int v1573), o7]) (st' := [.int (y1569 / 10), .int (v1573 / 10)]) (h' := (HX w T)) (cs' := 0) (sl' := 0) rfl ?_
      rcases ai_ifE h with ⟨hc, h⟩ | ⟨hc, h⟩
      · refine ev_ic_ne (t := 55) rfl rfl (fun c9 => absurd hc c9) (fun _ => ?_)
        refine ev_go 2 (pc' := 48) (L' := [some (.ref 1), some (.int y1568), some (.int y1569), some (.int y1570), some (.int y1571), some (.int y1572), some (.int v1573), o7]) (st' := [.int y1569, .int v1573]) (h' := (HX w T)) (cs' := 0) (sl' := 0) rfl ?_
        rcases ai_ifE h with ⟨hc, h⟩ | ⟨hc, h⟩
        · refine ev_ic_ge (t := 55) rfl rfl (fun _ => ?_) (fun c9 => absurd hc c9)
          refine ev_go 6 (pc' := 15) (L' := [some (.ref 1), some (.int y1568), some (.int y1569), some (.int y1570), some (.int y1571), some (.int (y1572 + 1)), some (.int v1573), some (.int 0)]) (st' := []) (h' := (HX w T)) (cs' := 0) (sl' := 0) rfl ?_
          exact ih0 _ _ _ _ _ _ _ _ h T _ _
        · refine ev_ic_ge (t := 55) rfl rfl (fun c9 => absurd c9 hc) (fun _ => ?_)
          refine ev_go 7 (pc' := 67) (L' := [some (.ref 1), some (.int y1568), some (.int y1569), some (.int y1570), some (.int y1571), some (.int y1572), some (.int v1573), some (.int 1)]) (st' := [.int y1571, .int v1573]) (h' := (HX w T)) (cs' := 0) (sl' := 0) rfl ?_
          rcases ai_ifE h with ⟨hc, h⟩ | ⟨hc, h⟩
          · refine ev_ic_le (t := 77) rfl rfl (fun _ => ?_) (fun c9 => absurd hc c9)
            refine ev_go 2 (pc' := 15) (L' := [some (.ref 1), some (.int y1568), some (.int y1569), some (.int y1570), some (.int y1571), some (.int (y1572 + 1)), some (.int v1573), some (.int 1)]) (st' := []) (h' := (HX w T)) (cs' := 0) (sl' := 0) rfl ?_
            exact ih0 _ _ _ _ _ _ _ _ h T _ _
          · refine ev_ic_le (t := 77) rfl rfl (fun c9 => absurd c9 hc) (fun _ => ?_)
            refine ev_go 6 (pc' := 15) (L' := [some (.ref 1), some (.int y1568), some (.int y1569), some (.int y1572), some (.int v1573), some (.int (y1572 + 1)), some (.int v1573), some (.int 1)]) (st' := []) (h' := (HX w T)) (cs' := 0) (sl' := 0) rfl ?_
            exact ih0 _ _ _ _ _ _ _ _ h T _ _
      · refine ev_ic_ne (t := 55) rfl rfl (fun _ => ?_) (fun c9 => absurd c9 hc)
        refine ev_go 6 (pc' := 15) (L' := [some (.ref 1), some (.int y1568), some (.int y1569), some (.int y1570), some (.int y1571), some (.int (y1572 + 1)), some (.int v1573), some (.int 0)]) (st' := []) (h' := (HX w T)) (cs' := 0) (sl' := 0) rfl ?_
        exact ih0 _ _ _ _ _ _ _ _ h T _ _
set_option maxHeartbeats 40000000 in
set_option maxRecDepth 100000 in
theorem Esea_ceilingOf_1 (n : Nat) (x1566 : Int32) (w : WX) (r : Int32) (w' : WX) (h : Fsea_ceilingOf_1 n x1566 w = some (r, w')) (T : ai_H) : ai_ev D1 msea_ceilingOf 0 [some (.ref 1), some (.int x1566), none, none, none, none, none, none] [] (HX w T) 0 0 (some (.int r), HX w' T) := by
  unfold Fsea_ceilingOf_1 at h
  have ih0 := EGsea_ceilingOf_1 n
  refine ev_go 3 (pc' := 5) (L' := [some (.ref 1), some (.int x1566), none, none, none, none, none, none]) (st' := [.int x1566, .ref 16]) (h' := (HX w T)) (cs' := 0) (sl' := 0) rfl ?_
  obtain ⟨v1567, hq, h⟩ := ai_bdE h
  refine ev_iald rfl rfl hq ?_
  refine ev_go 7 (pc' := 15) (L' := [some (.ref 1), some (.int x1566), some (.int v1567), some (.int (-1)), some (.int (-1)), some (.int 0), none, none]) (st' := []) (h' := (HX w T)) (cs' := 0) (sl' := 0) rfl ?_
  exact ih0 _ _ _ _ _ _ _ _ h T _ _
set_option maxHeartbeats 40000000 in
set_option maxRecDepth 100000 in
theorem Esea_duesOf_1 (x1575 : Int32) (w : WX) (r : Int32) (w' : WX) (h : Fsea_duesOf_1 x1575 w = some (r, w')) (T : ai_H) : ai_ev D1 msea_duesOf 0 [some (.ref 1), some (.int x1575), none] [] (HX w T) 0 0 (some (.int r), HX w' T) := by
  unfold Fsea_duesOf_1 at h
  refine ev_go 3 (pc' := 5) (L' := [some (.ref 1), some (.int x1575), none]) (st' := [.int x1575, .ref 16]) (h' := (HX w T)) (cs' := 0) (sl' := 0) rfl ?_
  obtain ⟨v1576, hq, h⟩ := ai_bdE h
  refine ev_iald rfl rfl hq ?_
  refine ev_go 10 (pc' := 20) (L' := [some (.ref 1), some (.int x1575), some (.int v1576)]) (st' := [.int (a_s1_hour w), .int (v1576 / 10), .int (v1576 - v1576 / 10 * 10), .ref 1]) (h' := (HX w T)) (cs' := 0) (sl' := 0) rfl ?_
  obtain ⟨c1577, hq, h⟩ := ai_bdE h
  refine ev_call (M' := msea_thickAt) (L' := [some (.ref 1), some (.int (v1576 - v1576 / 10 * 10)), some (.int (v1576 / 10)), some (.int (a_s1_hour w))]) (rest := []) (rv := some (.int c1577.1)) (h' := (HX c1577.2 T)) rfl (Esea_thickAt_1 (v1576 - v1576 / 10 * 10) (v1576 / 10) (a_s1_hour w) w _ _ hq T) ?_
  show ai_ev D1 msea_duesOf 23 [some (.ref 1), some (.int x1575), some (.int v1576)] [.int c1577.1] (HX c1577.2 T) 0 0 _
  obtain ⟨rfl, rfl⟩ := ai_smP h
  exact ev_end rfl
set_option maxHeartbeats 40000000 in
set_option maxRecDepth 100000 in
theorem EGf_net_0 : ∀ n : Nat, (∀ (y1563 : Int32) (y1564 : Int32) (y1565 : Int32) (w : WX) (r : Int32) (w' : WX), Gf_net_0 n 0 y1563 y1564 y1565 w = some (r, w') → ∀ (T : ai_H) (o4 : Option Value), ai_ev D1 mf_net 29 [some (.ref 0), some (.int y1563), some (.int y1564), some (.int y1565), o4] [] (HX w T) 0 0 (some (.int r), HX w' T)) := by
  intro n
  induction n with
  | zero =>
    exact (fun _ _ _ _ _ _ h => by cases h)
  | succ n ih0 =>
    intro y1563 y1564 y1565 w r w' h T o4
    simp only [Gf_net_0] at h
    refine ev_go 4 (pc' := 37) (L' := [some (.ref 0), some (.int y1563), some (.int y1564), some (.int y1565), o4]) (st' := [.int (a_s1_towns w), .int y1565]) (h' := (HX w T)) (cs' := 0) (sl' := 0) rfl ?_
    rcases ai_ifE h with ⟨hc, h⟩ | ⟨hc, h⟩
    · refine ev_ic_ge (t := 98) rfl rfl (fun _ => ?_) (fun c9 => absurd hc c9)
      refine ev_go 1 (pc' := 99) (L' := [some (.ref 0), some (.int y1563), some (.int y1564), some (.int y1565), o4]) (st' := [.int y1564]) (h' := (HX w T)) (cs' := 0) (sl' := 0) rfl ?_
      obtain ⟨rfl, rfl⟩ := ai_smP h
      exact ev_end rfl
    · refine ev_ic_ge (t := 98) rfl rfl (fun c9 => absurd c9 hc) (fun _ => ?_)
      refine ev_go 3 (pc' := 45) (L' := [some (.ref 0), some (.int y1563), some (.int y1564), some (.int y1565), o4]) (st' := [.int y1565, .ref 1]) (h' := (HX w T)) (cs' := 0) (sl' := 0) rfl ?_
      obtain ⟨c1574, hq, h⟩ := ai_bdE h
      refine ev_call (M' := msea_ceilingOf) (L' := [some (.ref 1), some (.int y1565), none, none, none, none, none, none]) (rest := []) (rv := some (.int c1574.1)) (h' := (HX c1574.2 T)) rfl (Esea_ceilingOf_1 n y1565 w _ _ hq T) ?_
      show ai_ev D1 mf_net 48 [some (.ref 0), some (.int y1563), some (.int y1564), some (.int y1565), o4] [.int c1574.1] (HX c1574.2 T) 0 0 _
      refine ev_go 3 (pc' := 53) (L' := [some (.ref 0), some (.int y1563), some (.int y1564), some (.int y1565), some (.int c1574.1)]) (st' := [.int (-1), .int c1574.1]) (h' := (HX c1574.2 T)) (cs' := 0) (sl' := 0) rfl ?_
      rcases ai_ifE h with ⟨hc, h⟩ | ⟨hc, h⟩
      · refine ev_ic_ne (t := 59) rfl rfl (fun c9 => absurd hc c9) (fun _ => ?_)
        refine ev_go 3 (pc' := 29) (L' := [some (.ref 0), some (.int y1563), some (.int y1564), some (.int (y1565 + 1)), some (.int c1574.1)]) (st' := []) (h' := (HX c1574.2 T)) (cs' := 0) (sl' := 0) rfl ?_
        exact ih0 _ _ _ _ _ _ h T _
      · refine ev_ic_ne (t := 59) rfl rfl (fun _ => ?_) (fun c9 => absurd c9 hc)
        refine ev_go 2 (pc' := 62) (L' := [some (.ref 0), some (.int y1563), some (.int y1564), some (.int y1565), some (.int c1574.1)]) (st' := [.int y1563, .int c1574.1]) (h' := (HX c1574.2 T)) (cs' := 0) (sl' := 0) rfl ?_
        rcases ai_ifE h with ⟨hc, h⟩ | ⟨hc, h⟩
        · refine ev_ic_ne (t := 76) rfl rfl (fun c9 => absurd hc c9) (fun _ => ?_)
          refine ev_go 4 (pc' := 71) (L' := [some (.ref 0), some (.int y1563), some (.int y1564), some (.int y1565), some (.int c1574.1)]) (st' := [.int y1565, .ref 1, .int y1564]) (h' := (HX c1574.2 T)) (cs' := 0) (sl' := 0) rfl ?_
          obtain ⟨c1579, hq, h⟩ := ai_bdE h
          refine ev_call (M' := msea_duesOf) (L' := [some (.ref 1), some (.int y1565), none]) (rest := [.int y1564]) (rv := some (.int c1579.1)) (h' := (HX c1579.2 T)) rfl (Esea_duesOf_1 y1565 c1574.2 _ _ hq T) ?_
          show ai_ev D1 mf_net 74 [some (.ref 0), some (.int y1563), some (.int y1564), some (.int y1565), some (.int c1574.1)] [.int c1579.1, .int y1564] (HX c1579.2 T) 0 0 _
          refine ev_go 4 (pc' := 78) (L' := [some (.ref 0), some (.int y1563), some (.int (y1564 + c1579.1)), some (.int y1565), some (.int c1574.1)]) (st' := [.int y1563, .int y1565]) (h' := (HX c1579.2 T)) (cs' := 0) (sl' := 0) rfl ?_
          rcases ai_ifE h with ⟨hc, h⟩ | ⟨hc, h⟩
          · refine ev_ic_ne (t := 92) rfl rfl (fun c9 => absurd hc c9) (fun _ => ?_)
            refine ev_go 4 (pc' := 87) (L' := [some (.ref 0), some (.int y1563), some (.int (y1564 + c1579.1)), some (.int y1565), some (.int c1574.1)]) (st' := [.int y1565, .ref 1, .int (y1564 + c1579.1)]) (h' := (HX c1579.2 T)) (cs' := 0) (sl' := 0) rfl ?_
            obtain ⟨c1580, hq, h⟩ := ai_bdE h
            refine ev_call (M' := msea_duesOf) (L' := [some (.ref 1), some (.int y1565), none]) (rest := [.int (y1564 + c1579.1)]) (rv := some (.int c1580.1)) (h' := (HX c1580.2 T)) rfl (Esea_duesOf_1 y1565 c1579.2 _ _ hq T) ?_
            show ai_ev D1 mf_net 90 [some (.ref 0), some (.int y1563), some (.int (y1564 + c1579.1)), some (.int y1565), some (.int c1574.1)] [.int c1580.1, .int (y1564 + c1579.1)] (HX c1580.2 T) 0 0 _
            refine ev_go 4 (pc' := 29) (L' := [some (.ref 0), some (.int y1563), some (.int ((y1564 + c1579.1) - c1580.1)), some (.int (y1565 + 1)), some (.int c1574.1)]) (st' := []) (h' := (HX c1580.2 T)) (cs' := 0) (sl' := 0) rfl ?_
            exact ih0 _ _ _ _ _ _ h T _
          · refine ev_ic_ne (t := 92) rfl rfl (fun _ => ?_) (fun c9 => absurd c9 hc)
            refine ev_go 2 (pc' := 29) (L' := [some (.ref 0), some (.int y1563), some (.int (y1564 + c1579.1)), some (.int (y1565 + 1)), some (.int c1574.1)]) (st' := []) (h' := (HX c1579.2 T)) (cs' := 0) (sl' := 0) rfl ?_
            exact ih0 _ _ _ _ _ _ h T _
        · refine ev_ic_ne (t := 76) rfl rfl (fun _ => ?_) (fun c9 => absurd c9 hc)
          refine ev_go 2 (pc' := 78) (L' := [some (.ref 0), some (.int y1563), some (.int y1564), some (.int y1565), some (.int c1574.1)]) (st' := [.int y1563, .int y1565]) (h' := (HX c1574.2 T)) (cs' := 0) (sl' := 0) rfl ?_
          rcases ai_ifE h with ⟨hc, h⟩ | ⟨hc, h⟩
          · refine ev_ic_ne (t := 92) rfl rfl (fun c9 => absurd hc c9) (fun _ => ?_)
            refine ev_go 4 (pc' := 87) (L' := [some (.ref 0), some (.int y1563), some (.int y1564), some (.int y1565), some (.int c1574.1)]) (st' := [.int y1565, .ref 1, .int y1564]) (h' := (HX c1574.2 T)) (cs' := 0) (sl' := 0) rfl ?_
            obtain ⟨c1578, hq, h⟩ := ai_bdE h
            refine ev_call (M' := msea_duesOf) (L' := [some (.ref 1), some (.int y1565), none]) (rest := [.int y1564]) (rv := some (.int c1578.1)) (h' := (HX c1578.2 T)) rfl (Esea_duesOf_1 y1565 c1574.2 _ _ hq T) ?_
            show ai_ev D1 mf_net 90 [some (.ref 0), some (.int y1563), some (.int y1564), some (.int y1565), some (.int c1574.1)] [.int c1578.1, .int y1564] (HX c1578.2 T) 0 0 _
            refine ev_go 4 (pc' := 29) (L' := [some (.ref 0), some (.int y1563), some (.int (y1564 - c1578.1)), some (.int (y1565 + 1)), some (.int c1574.1)]) (st' := []) (h' := (HX c1578.2 T)) (cs' := 0) (sl' := 0) rfl ?_
            exact ih0 _ _ _ _ _ _ h T _
          · refine ev_ic_ne (t := 92) rfl rfl (fun _ => ?_) (fun c9 => absurd c9 hc)
            refine ev_go 2 (pc' := 29) (L' := [some (.ref 0), some (.int y1563), some (.int y1564), some (.int (y1565 + 1)), some (.int c1574.1)]) (st' := []) (h' := (HX c1574.2 T)) (cs' := 0) (sl' := 0) rfl ?_
            exact ih0 _ _ _ _ _ _ h T _
set_option maxHeartbeats 40000000 in
set_option maxRecDepth 100000 in
theorem Ef_net_0 (n : Nat) (x1560 : Int32) (w : WX) (r : Int32) (w' : WX) (h : Ff_net_0 n x1560 w = some (r, w')) (T : ai_H) : ai_ev D1 mf_net 0 [some (.ref 0), some (.int x1560), none, none, none] [] (HX w T) 0 0 (some (.int r), HX w' T) := by
  unfold Ff_net_0 at h
  have ih0 := EGf_net_0 n
  refine ev_go 7 (pc' := 11) (L' := [some (.ref 0), some (.int x1560), none, none, none]) (st' := [.int ((a_s1_towns w) - 1), .int 0, .int x1560]) (h' := (HX w T)) (cs' := 0) (sl' := 0) rfl ?_
  obtain ⟨c1561, hq, h⟩ := ai_bdE h
  refine ev_call (M' := mf_within) (L' := [some (.int x1560), some (.int 0), some (.int ((a_s1_towns w) - 1))]) (rest := []) (rv := some (.int c1561)) (h' := (HX w T)) rfl (Ef_within x1560 0 ((a_s1_towns w) - 1) _ hq (HX w T)) ?_
  show ai_ev D1 mf_net 14 [some (.ref 0), some (.int x1560), none, none, none] [.int c1561] (HX w T) 0 0 _
  rcases ai_ifE h with ⟨hc, h⟩ | ⟨hc, h⟩
  · refine ev_if_ne (t := 25) rfl rfl (fun c9 => absurd hc c9) (fun _ => ?_)
    refine ev_go 2 (pc' := 21) (L' := [some (.ref 0), some (.int x1560), none, none, none]) (st' := [.int (-1000), .ref 0]) (h' := (HX w T)) (cs' := 0) (sl' := 0) rfl ?_
    obtain ⟨c1562, hq, h⟩ := ai_bdE h
    refine ev_call (M' := mf_bad) (L' := [some (.ref 0), some (.int (-1000))]) (rest := []) (rv := some (.int c1562.1)) (h' := (HX c1562.2 T)) rfl (Ef_bad_0 (-1000) w _ _ hq T) ?_
    show ai_ev D1 mf_net 24 [some (.ref 0), some (.int x1560), none, none, none] [.int c1562.1] (HX c1562.2 T) 0 0 _
    obtain ⟨rfl, rfl⟩ := ai_smP h
    exact ev_end rfl
  · refine ev_if_ne (t := 25) rfl rfl (fun _ => ?_) (fun c9 => absurd c9 hc)
    refine ev_go 4 (pc' := 29) (L' := [some (.ref 0), some (.int x1560), some (.int 0), some (.int 0), none]) (st' := []) (h' := (HX w T)) (cs' := 0) (sl' := 0) rfl ?_
    exact ih0 _ _ _ _ _ _ h T _
set_option maxHeartbeats 40000000 in
set_option maxRecDepth 100000 in
theorem Ef_isSpill_0 (x1585 : Int32) (x1586 : Int32) (x1587 : Int32) (w : WX) (r : Int32) (w' : WX) (h : Ff_isSpill_0 x1585 x1586 x1587 w = some (r, w')) (T : ai_H) : ai_ev D1 mf_isSpill 0 [some (.ref 0), some (.int x1585), some (.int x1586), some (.int x1587)] [] (HX w T) 0 0 (some (.int r), HX w' T) := by
  unfold Ff_isSpill_0 at h
  refine ev_go 3 (pc' := 5) (L' := [some (.ref 0), some (.int x1585), some (.int x1586), some (.int x1587)]) (st' := [.int x1585, .ref 1]) (h' := (HX w T)) (cs' := 0) (sl' := 0) rfl ?_
  obtain ⟨c1588, hq, h⟩ := ai_bdE h
  refine ev_call (M' := msea_hasCell) (L' := [some (.ref 1), some (.int x1585)]) (rest := []) (rv := some (.int c1588.1)) (h' := (HX c1588.2 T)) rfl (Esea_hasCell_1 x1585 w _ _ hq T) ?_
  show ai_ev D1 mf_isSpill 8 [some (.ref 0), some (.int x1585), some (.int x1586), some (.int x1587)] [.int c1588.1] (HX c1588.2 T) 0 0 _
  rcases ai_ifE h with ⟨hc, h⟩ | ⟨hc, h⟩
  · refine ev_if_eq (t := 36) rfl rfl (fun _ => ?_) (fun c9 => absurd hc c9)
    refine ev_go 1 (pc' := 37) (L' := [some (.ref 0), some (.int x1585), some (.int x1586), some (.int x1587)]) (st' := [.int 0]) (h' := (HX c1588.2 T)) (cs' := 0) (sl' := 0) rfl ?_
    obtain ⟨rfl, rfl⟩ := ai_smP h
    exact ev_end rfl
  · refine ev_if_eq (t := 36) rfl rfl (fun c9 => absurd c9 hc) (fun _ => ?_)
    refine ev_go 3 (pc' := 16) (L' := [some (.ref 0), some (.int x1585), some (.int x1586), some (.int x1587)]) (st' := [.int 999, .int 0, .int x1586]) (h' := (HX c1588.2 T)) (cs' := 0) (sl' := 0) rfl ?_
    obtain ⟨c1589, hq, h⟩ := ai_bdE h
    refine ev_call (M' := mf_within) (L' := [some (.int x1586), some (.int 0), some (.int 999)]) (rest := []) (rv := some (.int c1589)) (h' := (HX c1588.2 T)) rfl (Ef_within x1586 0 999 _ hq (HX c1588.2 T)) ?_
    show ai_ev D1 mf_isSpill 19 [some (.ref 0), some (.int x1585), some (.int x1586), some (.int x1587)] [.int c1589] (HX c1588.2 T) 0 0 _
    rcases ai_ifE h with ⟨hc, h⟩ | ⟨hc, h⟩
    · refine ev_if_eq (t := 36) rfl rfl (fun _ => ?_) (fun c9 => absurd hc c9)
      refine ev_go 1 (pc' := 37) (L' := [some (.ref 0), some (.int x1585), some (.int x1586), some (.int x1587)]) (st' := [.int 0]) (h' := (HX c1588.2 T)) (cs' := 0) (sl' := 0) rfl ?_
      obtain ⟨rfl, rfl⟩ := ai_smP h
      exact ev_end rfl
    · refine ev_if_eq (t := 36) rfl rfl (fun c9 => absurd c9 hc) (fun _ => ?_)
      refine ev_go 3 (pc' := 26) (L' := [some (.ref 0), some (.int x1585), some (.int x1586), some (.int x1587)]) (st' := [.int 40, .int 0, .int x1587]) (h' := (HX c1588.2 T)) (cs' := 0) (sl' := 0) rfl ?_
      obtain ⟨c1590, hq, h⟩ := ai_bdE h
      refine ev_call (M' := mf_within) (L' := [some (.int x1587), some (.int 0), some (.int 40)]) (rest := []) (rv := some (.int c1590)) (h' := (HX c1588.2 T)) rfl (Ef_within x1587 0 40 _ hq (HX c1588.2 T)) ?_
      show ai_ev D1 mf_isSpill 29 [some (.ref 0), some (.int x1585), some (.int x1586), some (.int x1587)] [.int c1590] (HX c1588.2 T) 0 0 _
      rcases ai_ifE h with ⟨hc, h⟩ | ⟨hc, h⟩
      · refine ev_if_eq (t := 36) rfl rfl (fun _ => ?_) (fun c9 => absurd hc c9)
        refine ev_go 1 (pc' := 37) (L' := [some (.ref 0), some (.int x1585), some (.int x1586), some (.int x1587)]) (st' := [.int 0]) (h' := (HX c1588.2 T)) (cs' := 0) (sl' := 0) rfl ?_
        obtain ⟨rfl, rfl⟩ := ai_smP h
        exact ev_end rfl
      · refine ev_if_eq (t := 36) rfl rfl (fun c9 => absurd c9 hc) (fun _ => ?_)
        refine ev_go 2 (pc' := 37) (L' := [some (.ref 0), some (.int x1585), some (.int x1586), some (.int x1587)]) (st' := [.int 1]) (h' := (HX c1588.2 T)) (cs' := 0) (sl' := 0) rfl ?_
        obtain ⟨rfl, rfl⟩ := ai_smP h
        exact ev_end rfl
set_option maxHeartbeats 40000000 in
set_option maxRecDepth 100000 in
theorem EGarr_fill_84 : ∀ n : Nat, (∀ (y1597 : Int32) (y1598 : Int32) (y1599 : Int32) (w : WX) (w' : WX), Garr_fill_84 n 0 y1597 y1598 y1599 w = some w' → ∀ (T : ai_H), ai_ev D1 marr_fill 5 [some (.ref 84), some (.int y1597), some (.int y1598), some (.int y1599)] [] (HX w T) 0 0 (none, HX w' T)) := by
  intro n
  induction n with
  | zero =>
    exact (fun _ _ _ _ _ h => by cases h)
  | succ n ih0 =>
    intro y1597 y1598 y1599 w w' h T
    simp only [Garr_fill_84] at h
    refine ev_go 2 (pc' := 7) (L' := [some (.ref 84), some (.int y1597), some (.int y1598), some (.int y1599)]) (st' := [.int y1599, .int y1598]) (h' := (HX w T)) (cs' := 0) (sl' := 0) rfl ?_
    rcases ai_ifE h with ⟨hc, h⟩ | ⟨hc, h⟩
    · refine ev_ic_ge (t := 20) rfl rfl (fun _ => ?_) (fun c9 => absurd hc c9)
      obtain rfl := Option.some.inj h
      exact ev_end rfl
    · refine ev_ic_ge (t := 20) rfl rfl (fun c9 => absurd c9 hc) (fun _ => ?_)
      refine ev_go 3 (pc' := 13) (L' := [some (.ref 84), some (.int y1597), some (.int y1598), some (.int y1599)]) (st' := [.int y1597, .int y1598, .ref 84]) (h' := (HX w T)) (cs' := 0) (sl' := 0) rfl ?_
      obtain ⟨q1600, hq, h⟩ := ai_bdE h
      refine ev_iast rfl rfl hq ?_
      rw [HXs_84]
      refine ev_go 2 (pc' := 5) (L' := [some (.ref 84), some (.int y1597), some (.int (y1598 + 1)), some (.int y1599)]) (st' := []) (h' := (HX (u_spread_amounts w q1600) T)) (cs' := 0) (sl' := 0) rfl ?_
      exact ih0 _ _ _ _ _ h T
set_option maxHeartbeats 40000000 in
set_option maxRecDepth 100000 in
theorem Earr_fill_84 (n : Nat) (x1596 : Int32) (w : WX) (w' : WX) (h : Farr_fill_84 n x1596 w = some w') (T : ai_H) : ai_ev D1 marr_fill 0 [some (.ref 84), some (.int x1596), none, none] [] (HX w T) 0 0 (none, HX w' T) := by
  unfold Farr_fill_84 at h
  have ih0 := EGarr_fill_84 n
  refine ev_go 5 (pc' := 5) (L' := [some (.ref 84), some (.int x1596), some (.int 0), some (.int (Int32.ofNat (List.length (a_spread_amounts w))))]) (st' := []) (h' := (HX w T)) (cs' := 0) (sl' := 0) rfl ?_
  exact ih0 _ _ _ _ _ h T
set_option maxHeartbeats 40000000 in
set_option maxRecDepth 100000 in
theorem Espr_start_83 (n : Nat) (x1594 : Int32) (x1595 : Int32) (w : WX) (w' : WX) (h : Fspr_start_83 n x1594 x1595 w = some w') (T : ai_H) : ai_ev D1 mspr_start 0 [some (.ref 83), some (.int x1594), some (.int x1595)] [] (HX w T) 0 0 (none, HX w' T) := by
  unfold Fspr_start_83 at h
  refine ev_go 3 (pc' := 5) (L' := [some (.ref 83), some (.int x1594), some (.int x1595)]) (st' := [.int 0, .ref 84]) (h' := (HX w T)) (cs' := 0) (sl' := 0) rfl ?_
  obtain ⟨c1601, hq, h⟩ := ai_bdE h
  refine ev_call (M' := marr_fill) (L' := [some (.ref 84), some (.int 0), none, none]) (rest := []) (rv := none) (h' := (HX c1601 T)) rfl (Earr_fill_84 n 0 w _ hq T) ?_
  show ai_ev D1 mspr_start 8 [some (.ref 83), some (.int x1594), some (.int x1595)] [] (HX c1601 T) 0 0 _
  refine ev_go 4 (pc' := 14) (L' := [some (.ref 83), some (.int x1594), some (.int x1595)]) (st' := [.int x1595, .int x1594, .ref 84]) (h' := (HX c1601 T)) (cs' := 0) (sl' := 0) rfl ?_
  obtain ⟨q1602, hq, h⟩ := ai_bdE h
  refine ev_iast rfl rfl hq ?_
  rw [HXs_84]
  obtain rfl := Option.some.inj h
  exact ev_end rfl
set_option maxHeartbeats 40000000 in
set_option maxRecDepth 100000 in
theorem EGspr_goOn_83 : ∀ n : Nat, (∀ (y1613 : Int32) (y1614 : Int32) (y1615 : Int32) (w : WX) (w' : WX), Gspr_goOn_83 n 0 y1613 y1614 y1615 w = some w' → ∀ (T : ai_H), ai_ev D1 mspr_goOn 2 [some (.ref 83), some (.int y1613), some (.int y1614), some (.int y1615)] [] (HX w T) 0 0 (none, HX w' T)) ∧ (∀ (y1618 : Int32) (y1619 : Int32) (y1620 : Int32) (w : WX) (w' : WX), Gspr_goOn_83 n 1 y1618 y1619 y1620 w = some w' → ∀ (T : ai_H), ai_ev D1 mspr_goOn 29 [some (.ref 83), some (.int y1618), some (.int y1619), some (.int y1620)] [] (HX w T) 0 0 (none, HX w' T)) := by
  intro n
  induction n with
  | zero =>
    exact ⟨(fun _ _ _ _ _ h => by cases h), (fun _ _ _ _ _ h => by cases h)⟩
  | succ n ih =>
    obtain ⟨ih0, ih1⟩ := ih
    refine ⟨?_, ?_⟩
    · intro y1613 y1614 y1615 w w' h T
      simp only [Gspr_goOn_83] at h
      refine ev_go 2 (pc' := 4) (L' := [some (.ref 83), some (.int y1613), some (.int y1614), some (.int y1615)]) (st' := [.int y1613, .int y1615]) (h' := (HX w T)) (cs' := 0) (sl' := 0) rfl ?_
      rcases ai_ifE h with ⟨hc, h⟩ | ⟨hc, h⟩
      · refine ev_ic_ge (t := 27) rfl rfl (fun _ => ?_) (fun c9 => absurd hc c9)
        refine ev_go 2 (pc' := 29) (L' := [some (.ref 83), some (.int y1613), some (.int y1614), some (.int 0)]) (st' := []) (h' := (HX w T)) (cs' := 0) (sl' := 0) rfl ?_
        exact ih1 _ _ _ _ _ h T
      · refine ev_ic_ge (t := 27) rfl rfl (fun c9 => absurd c9 hc) (fun _ => ?_)
        refine ev_go 6 (pc' := 17) (L' := [some (.ref 83), some (.int y1613), some (.int y1614), some (.int y1615)]) (st' := [.int y1615, .ref 84, .int y1615, .ref 85]) (h' := (HX w T)) (cs' := 0) (sl' := 0) rfl ?_
        obtain ⟨v1616, hq, h⟩ := ai_bdE h
        refine ev_iald rfl rfl hq ?_
        refine ev_go 2 (pc' := 20) (L' := [some (.ref 83), some (.int y1613), some (.int y1614), some (.int y1615)]) (st' := [.int (v1616 / 4), .int y1615, .ref 85]) (h' := (HX w T)) (cs' := 0) (sl' := 0) rfl ?_
        obtain ⟨q1617, hq, h⟩ := ai_bdE h
        refine ev_iast rfl rfl hq ?_
        rw [HXs_85]
        refine ev_go 2 (pc' := 2) (L' := [some (.ref 83), some (.int y1613), some (.int y1614), some (.int (y1615 + 1))]) (st' := []) (h' := (HX (u_spread_gifts w q1617) T)) (cs' := 0) (sl' := 0) rfl ?_
        exact ih0 _ _ _ _ _ h T
    · intro y1618 y1619 y1620 w w' h T
      simp only [Gspr_goOn_83] at h
      refine ev_go 4 (pc' := 33) (L' := [some (.ref 83), some (.int y1618), some (.int y1619), some (.int y1620)]) (st' := [.int (y1618 - 1), .int y1620]) (h' := (HX w T)) (cs' := 0) (sl' := 0) rfl ?_
      rcases ai_ifE h with ⟨hc, h⟩ | ⟨hc, h⟩
      · refine ev_ic_ge (t := 100) rfl rfl (fun _ => ?_) (fun c9 => absurd hc c9)
        obtain rfl := Option.some.inj h
        exact ev_end rfl
      · refine ev_ic_ge (t := 100) rfl rfl (fun c9 => absurd c9 hc) (fun _ => ?_)
        refine ev_go 5 (pc' := 41) (L' := [some (.ref 83), some (.int y1618), some (.int y1619), some (.int y1620)]) (st' := [.int ((y1619 >>> (y1620 &&& 31)) &&& 1)]) (h' := (HX w T)) (cs' := 0) (sl' := 0) rfl ?_
        rcases ai_ifE h with ⟨hc, h⟩ | ⟨hc, h⟩
        · refine ev_if_ne (t := 94) rfl rfl (fun c9 => absurd hc c9) (fun _ => ?_)
          refine ev_go 4 (pc' := 50) (L' := [some (.ref 83), some (.int y1618), some (.int y1619), some (.int y1620)]) (st' := [.int y1620, .ref 84, .int y1620, .ref 84]) (h' := (HX w T)) (cs' := 0) (sl' := 0) rfl ?_
          obtain ⟨v1621, hq, h⟩ := ai_bdE h
          refine ev_iald rfl rfl hq ?_
          refine ev_go 5 (pc' := 58) (L' := [some (.ref 83), some (.int y1618), some (.int y1619), some (.int y1620)]) (st' := [.int (y1620 + 1), .ref 85, .int v1621, .int y1620, .ref 84]) (h' := (HX w T)) (cs' := 0) (sl' := 0) rfl ?_
          obtain ⟨v1622, hq, h⟩ := ai_bdE h
          refine ev_iald rfl rfl hq ?_
          refine ev_go 3 (pc' := 64) (L' := [some (.ref 83), some (.int y1618), some (.int y1619), some (.int y1620)]) (st' := [.int y1620, .ref 85, .int v1622, .int v1621, .int y1620, .ref 84]) (h' := (HX w T)) (cs' := 0) (sl' := 0) rfl ?_
          obtain ⟨v1623, hq, h⟩ := ai_bdE h
          refine ev_iald rfl rfl hq ?_
          refine ev_go 2 (pc' := 67) (L' := [some (.ref 83), some (.int y1618), some (.int y1619), some (.int y1620)]) (st' := [.int (v1621 + (v1622 - v1623)), .int y1620, .ref 84]) (h' := (HX w T)) (cs' := 0) (sl' := 0) rfl ?_
          obtain ⟨q1624, hq, h⟩ := ai_bdE h
          refine ev_iast rfl rfl hq ?_
          rw [HXs_84]
          refine ev_go 6 (pc' := 76) (L' := [some (.ref 83), some (.int y1618), some (.int y1619), some (.int y1620)]) (st' := [.int (y1620 + 1), .ref 84, .int (y1620 + 1), .ref 84]) (h' := (HX (u_spread_amounts w q1624) T)) (cs' := 0) (sl' := 0) rfl ?_
          obtain ⟨v1625, hq, h⟩ := ai_bdE h
          refine ev_iald rfl rfl hq ?_
          refine ev_go 3 (pc' := 82) (L' := [some (.ref 83), some (.int y1618), some (.int y1619), some (.int y1620)]) (st' := [.int y1620, .ref 85, .int v1625, .int (y1620 + 1), .ref 84]) (h' := (HX (u_spread_amounts w q1624) T)) (cs' := 0) (sl' := 0) rfl ?_
          obtain ⟨v1626, hq, h⟩ := ai_bdE h
          refine ev_iald rfl rfl hq ?_
          refine ev_go 5 (pc' := 90) (L' := [some (.ref 83), some (.int y1618), some (.int y1619), some (.int y1620)]) (st' := [.int (y1620 + 1), .ref 85, .int v1626, .int v1625, .int (y1620 + 1), .ref 84]) (h' := (HX (u_spread_amounts w q1624) T)) (cs' := 0) (sl' := 0) rfl ?_
          obtain ⟨v1627, hq, h⟩ := ai_bdE h
          refine ev_iald rfl rfl hq ?_
          refine ev_go 2 (pc' := 93) (L' := [some (.ref 83), some (.int y1618), some (.int y1619), some (.int y1620)]) (st' := [.int (v1625 + (v1626 - v1627)), .int (y1620 + 1), .ref 84]) (h' := (HX (u_spread_amounts w q1624) T)) (cs' := 0) (sl' := 0) rfl ?_
          obtain ⟨q1628, hq, h⟩ := ai_bdE h
          refine ev_iast rfl rfl hq ?_
          rw [HXs_84]
          refine ev_go 2 (pc' := 29) (L' := [some (.ref 83), some (.int y1618), some (.int y1619), some (.int (y1620 + 1))]) (st' := []) (h' := (HX (u_spread_amounts (u_spread_amounts w q1624) q1628) T)) (cs' := 0) (sl' := 0) rfl ?_
          exact ih1 _ _ _ _ _ h T
        · refine ev_if_ne (t := 94) rfl rfl (fun _ => ?_) (fun c9 => absurd c9 hc)
          refine ev_go 2 (pc' := 29) (L' := [some (.ref 83), some (.int y1618), some (.int y1619), some (.int (y1620 + 1))]) (st' := []) (h' := (HX w T)) (cs' := 0) (sl' := 0) rfl ?_
          exact ih1 _ _ _ _ _ h T
set_option maxHeartbeats 40000000 in
set_option maxRecDepth 100000 in
theorem Espr_goOn_83 (n : Nat) (x1611 : Int32) (x1612 : Int32) (w : WX) (w' : WX) (h : Fspr_goOn_83 n x1611 x1612 w = some w') (T : ai_H) : ai_ev D1 mspr_goOn 0 [some (.ref 83), some (.int x1611), some (.int x1612), none] [] (HX w T) 0 0 (none, HX w' T) := by
  unfold Fspr_goOn_83 at h
  obtain ⟨ih0, ih1⟩ := EGspr_goOn_83 n
  refine ev_go 2 (pc' := 2) (L' := [some (.ref 83), some (.int x1611), some (.int x1612), some (.int 0)]) (st' := []) (h' := (HX w T)) (cs' := 0) (sl' := 0) rfl ?_
  exact ih0 _ _ _ _ _ h T
set_option maxHeartbeats 40000000 in
set_option maxRecDepth 100000 in
theorem EGf_spill_0 : ∀ n : Nat, (∀ (y1605 : Int32) (y1606 : Int32) (y1607 : Int32) (y1608 : Int32) (y1609 : Int32) (w : WX) (r : Int32) (w' : WX), Gf_spill_0 n 0 y1605 y1606 y1607 y1608 y1609 w = some (r, w') → ∀ (T : ai_H), ai_ev D1 mf_spill 41 [some (.ref 0), some (.int y1605), some (.int y1606), some (.int y1607), some (.int y1608), some (.int y1609)] [] (HX w T) 0 0 (some (.int r), HX w' T)) := by
  intro n
  induction n with
  | zero =>
    exact (fun _ _ _ _ _ _ _ _ h => by cases h)
  | succ n ih0 =>
    intro y1605 y1606 y1607 y1608 y1609 w r w' h T
    simp only [Gf_spill_0] at h
    refine ev_go 2 (pc' := 44) (L' := [some (.ref 0), some (.int y1605), some (.int y1606), some (.int y1607), some (.int y1608), some (.int y1609)]) (st' := [.int y1607, .int y1609]) (h' := (HX w T)) (cs' := 0) (sl' := 0) rfl ?_
    rcases ai_ifE h with ⟨hc, h⟩ | ⟨hc, h⟩
    · refine ev_ic_ge (t := 74) rfl rfl (fun _ => ?_) (fun c9 => absurd hc c9)
      refine ev_go 4 (pc' := 83) (L' := [some (.ref 0), some (.int y1605), some (.int y1606), some (.int y1607), some (.int y1608), some (.int y1609)]) (st' := [.int y1608, .ref 84]) (h' := (HX w T)) (cs' := 0) (sl' := 0) rfl ?_
      obtain ⟨v1610, hq, h⟩ := ai_bdE h
      refine ev_iald rfl rfl hq ?_
      obtain ⟨rfl, rfl⟩ := ai_smP h
      exact ev_end rfl
    · refine ev_ic_ge (t := 74) rfl rfl (fun c9 => absurd c9 hc) (fun _ => ?_)
      refine ev_go 8 (pc' := 65) (L' := [some (.ref 0), some (.int y1605), some (.int y1606), some (.int y1607), some (.int y1608), some (.int y1609)]) (st' := [.int (a_s1_dams w), .int (a_s1_cells w), .ref 83]) (h' := (HX w T)) (cs' := 0) (sl' := 0) rfl ?_
      obtain ⟨c1629, hq, h⟩ := ai_bdE h
      refine ev_call (M' := mspr_goOn) (L' := [some (.ref 83), some (.int (a_s1_cells w)), some (.int (a_s1_dams w)), none]) (rest := []) (rv := none) (h' := (HX c1629 T)) rfl (Espr_goOn_83 n (a_s1_cells w) (a_s1_dams w) w _ hq T) ?_
      show ai_ev D1 mf_spill 68 [some (.ref 0), some (.int y1605), some (.int y1606), some (.int y1607), some (.int y1608), some (.int y1609)] [] (HX c1629 T) 0 0 _
      refine ev_go 2 (pc' := 41) (L' := [some (.ref 0), some (.int y1605), some (.int y1606), some (.int y1607), some (.int y1608), some (.int (y1609 + 1))]) (st' := []) (h' := (HX c1629 T)) (cs' := 0) (sl' := 0) rfl ?_
      exact ih0 _ _ _ _ _ _ _ _ h T
set_option maxHeartbeats 40000000 in
set_option maxRecDepth 100000 in
theorem Ef_spill_0 (n : Nat) (x1581 : Int32) (x1582 : Int32) (x1583 : Int32) (x1584 : Int32) (w : WX) (r : Int32) (w' : WX) (h : Ff_spill_0 n x1581 x1582 x1583 x1584 w = some (r, w')) (T : ai_H) : ai_ev D1 mf_spill 0 [some (.ref 0), some (.int x1581), some (.int x1582), some (.int x1583), some (.int x1584), none] [] (HX w T) 0 0 (some (.int r), HX w' T) := by
  unfold Ff_spill_0 at h
  have ih0 := EGf_spill_0 n
  refine ev_go 4 (pc' := 4) (L' := [some (.ref 0), some (.int x1581), some (.int x1582), some (.int x1583), some (.int x1584), none]) (st' := [.int x1583, .int x1582, .int x1581, .ref 0]) (h' := (HX w T)) (cs' := 0) (sl' := 0) rfl ?_
  obtain ⟨c1591, hq, h⟩ := ai_bdE h
  refine ev_call (M' := mf_isSpill) (L' := [some (.ref 0), some (.int x1581), some (.int x1582), some (.int x1583)]) (rest := []) (rv := some (.int c1591.1)) (h' := (HX c1591.2 T)) rfl (Ef_isSpill_0 x1581 x1582 x1583 w _ _ hq T) ?_
  show ai_ev D1 mf_spill 7 [some (.ref 0), some (.int x1581), some (.int x1582), some (.int x1583), some (.int x1584), none] [.int c1591.1] (HX c1591.2 T) 0 0 _
  rcases ai_ifE h with ⟨hc, h⟩ | ⟨hc, h⟩
  · refine ev_if_eq (t := 22) rfl rfl (fun _ => ?_) (fun c9 => absurd hc c9)
    refine ev_go 2 (pc' := 25) (L' := [some (.ref 0), some (.int x1581), some (.int x1582), some (.int x1583), some (.int x1584), none]) (st' := [.int (-2), .ref 0]) (h' := (HX c1591.2 T)) (cs' := 0) (sl' := 0) rfl ?_
    obtain ⟨c1592, hq, h⟩ := ai_bdE h
    refine ev_call (M' := mf_bad) (L' := [some (.ref 0), some (.int (-2))]) (rest := []) (rv := some (.int c1592.1)) (h' := (HX c1592.2 T)) rfl (Ef_bad_0 (-2) c1591.2 _ _ hq T) ?_
    show ai_ev D1 mf_spill 28 [some (.ref 0), some (.int x1581), some (.int x1582), some (.int x1583), some (.int x1584), none] [.int c1592.1] (HX c1592.2 T) 0 0 _
    obtain ⟨rfl, rfl⟩ := ai_smP h
    exact ev_end rfl
  · refine ev_if_eq (t := 22) rfl rfl (fun c9 => absurd c9 hc) (fun _ => ?_)
    refine ev_go 3 (pc' := 16) (L' := [some (.ref 0), some (.int x1581), some (.int x1582), some (.int x1583), some (.int x1584), none]) (st' := [.int x1584, .ref 1]) (h' := (HX c1591.2 T)) (cs' := 0) (sl' := 0) rfl ?_
    obtain ⟨c1593, hq, h⟩ := ai_bdE h
    refine ev_call (M' := msea_hasCell) (L' := [some (.ref 1), some (.int x1584)]) (rest := []) (rv := some (.int c1593.1)) (h' := (HX c1593.2 T)) rfl (Esea_hasCell_1 x1584 c1591.2 _ _ hq T) ?_
    show ai_ev D1 mf_spill 19 [some (.ref 0), some (.int x1581), some (.int x1582), some (.int x1583), some (.int x1584), none] [.int c1593.1] (HX c1593.2 T) 0 0 _
    rcases ai_ifE h with ⟨hc, h⟩ | ⟨hc, h⟩
    · refine ev_if_ne (t := 29) rfl rfl (fun c9 => absurd hc c9) (fun _ => ?_)
      refine ev_go 2 (pc' := 25) (L' := [some (.ref 0), some (.int x1581), some (.int x1582), some (.int x1583), some (.int x1584), none]) (st' := [.int (-2), .ref 0]) (h' := (HX c1593.2 T)) (cs' := 0) (sl' := 0) rfl ?_
      obtain ⟨c1604, hq, h⟩ := ai_bdE h
      refine ev_call (M' := mf_bad) (L' := [some (.ref 0), some (.int (-2))]) (rest := []) (rv := some (.int c1604.1)) (h' := (HX c1604.2 T)) rfl (Ef_bad_0 (-2) c1593.2 _ _ hq T) ?_
      show ai_ev D1 mf_spill 28 [some (.ref 0), some (.int x1581), some (.int x1582), some (.int x1583), some (.int x1584), none] [.int c1604.1] (HX c1604.2 T) 0 0 _
      obtain ⟨rfl, rfl⟩ := ai_smP h
      exact ev_end rfl
    · refine ev_if_ne (t := 29) rfl rfl (fun _ => ?_) (fun c9 => absurd c9 hc)
      refine ev_go 4 (pc' := 35) (L' := [some (.ref 0), some (.int x1581), some (.int x1582), some (.int x1583), some (.int x1584), none]) (st' := [.int x1582, .int x1581, .ref 83]) (h' := (HX c1593.2 T)) (cs' := 0) (sl' := 0) rfl ?_
      obtain ⟨c1603, hq, h⟩ := ai_bdE h
      refine ev_call (M' := mspr_start) (L' := [some (.ref 83), some (.int x1581), some (.int x1582)]) (rest := []) (rv := none) (h' := (HX c1603 T)) rfl (Espr_start_83 n x1581 x1582 c1593.2 _ hq T) ?_
      show ai_ev D1 mf_spill 38 [some (.ref 0), some (.int x1581), some (.int x1582), some (.int x1583), some (.int x1584), none] [] (HX c1603 T) 0 0 _
      refine ev_go 2 (pc' := 41) (L' := [some (.ref 0), some (.int x1581), some (.int x1582), some (.int x1583), some (.int x1584), some (.int 0)]) (st' := []) (h' := (HX c1603 T)) (cs' := 0) (sl' := 0) rfl ?_
      exact ih0 _ _ _ _ _ _ _ _ h T
set_option maxHeartbeats 40000000 in
set_option maxRecDepth 100000 in
theorem Eint_bitCount (x1645 : Int32) (r : Int32) (h : Fint_bitCount x1645 = some r) (hh : ai_H) : ai_ev D1 mint_bitCount 0 [some (.int x1645)] [] hh 0 0 (some (.int r), hh) := by
  unfold Fint_bitCount at h
  refine ev_go 41 (pc' := 52) (L' := [some (.int (((((((x1645 - (((x1645 : Int32).toUInt32 >>> ((1 : Int32).toUInt32 &&& Int32.toUInt32 31)).toInt32 &&& 1431655765)) &&& 858993459) + ((((x1645 - (((x1645 : Int32).toUInt32 >>> ((1 : Int32).toUInt32 &&& Int32.toUInt32 31)).toInt32 &&& 1431655765)) : Int32).toUInt32 >>> ((2 : Int32).toUInt32 &&& Int32.toUInt32 31)).toInt32 &&& 858993459)) + (((((x1645 - (((x1645 : Int32).toUInt32 >>> ((1 : Int32).toUInt32 &&& Int32.toUInt32 31)).toInt32 &&& 1431655765)) &&& 858993459) + ((((x1645 - (((x1645 : Int32).toUInt32 >>> ((1 : Int32).toUInt32 &&& Int32.toUInt32 31)).toInt32 &&& 1431655765)) : Int32).toUInt32 >>> ((2 : Int32).toUInt32 &&& Int32.toUInt32 31)).toInt32 &&& 858993459)) : Int32).toUInt32 >>> ((4 : Int32).toUInt32 &&& Int32.toUInt32 31)).toInt32) &&& 252645135) + (((((((x1645 - (((x1645 : Int32).toUInt32 >>> ((1 : Int32).toUInt32 &&& Int32.toUInt32 31)).toInt32 &&& 1431655765)) &&& 858993459) + ((((x1645 - (((x1645 : Int32).toUInt32 >>> ((1 : Int32).toUInt32 &&& Int32.toUInt32 31)).toInt32 &&& 1431655765)) : Int32).toUInt32 >>> ((2 : Int32).toUInt32 &&& Int32.toUInt32 31)).toInt32 &&& 858993459)) + (((((x1645 - (((x1645 : Int32).toUInt32 >>> ((1 : Int32).toUInt32 &&& Int32.toUInt32 31)).toInt32 &&& 1431655765)) &&& 858993459) + ((((x1645 - (((x1645 : Int32).toUInt32 >>> ((1 : Int32).toUInt32 &&& Int32.toUInt32 31)).toInt32 &&& 1431655765)) : Int32).toUInt32 >>> ((2 : Int32).toUInt32 &&& Int32.toUInt32 31)).toInt32 &&& 858993459)) : Int32).toUInt32 >>> ((4 : Int32).toUInt32 &&& Int32.toUInt32 31)).toInt32) &&& 252645135) : Int32).toUInt32 >>> ((8 : Int32).toUInt32 &&& Int32.toUInt32 31)).toInt32) + ((((((((x1645 - (((x1645 : Int32).toUInt32 >>> ((1 : Int32).toUInt32 &&& Int32.toUInt32 31)).toInt32 &&& 1431655765)) &&& 858993459) + ((((x1645 - (((x1645 : Int32).toUInt32 >>> ((1 : Int32).toUInt32 &&& Int32.toUInt32 31)).toInt32 &&& 1431655765)) : Int32).toUInt32 >>> ((2 : Int32).toUInt32 &&& Int32.toUInt32 31)).toInt32 &&& 858993459)) + (((((x1645 - (((x1645 : Int32).toUInt32 >>> ((1 : Int32).toUInt32 &&& Int32.toUInt32 31)).toInt32 &&& 1431655765)) &&& 858993459) + ((((x1645 - (((x1645 : Int32).toUInt32 >>> ((1 : Int32).toUInt32 &&& Int32.toUInt32 31)).toInt32 &&& 1431655765)) : Int32).toUInt32 >>> ((2 : Int32).toUInt32 &&& Int32.toUInt32 31)).toInt32 &&& 858993459)) : Int32).toUInt32 >>> ((4 : Int32).toUInt32 &&& Int32.toUInt32 31)).toInt32) &&& 252645135) + (((((((x1645 - (((x1645 : Int32).toUInt32 >>> ((1 : Int32).toUInt32 &&& Int32.toUInt32 31)).toInt32 &&& 1431655765)) &&& 858993459) + ((((x1645 - (((x1645 : Int32).toUInt32 >>> ((1 : Int32).toUInt32 &&& Int32.toUInt32 31)).toInt32 &&& 1431655765)) : Int32).toUInt32 >>> ((2 : Int32).toUInt32 &&& Int32.toUInt32 31)).toInt32 &&& 858993459)) + (((((x1645 - (((x1645 : Int32).toUInt32 >>> ((1 : Int32).toUInt32 &&& Int32.toUInt32 31)).toInt32 &&& 1431655765)) &&& 858993459) + ((((x1645 - (((x1645 : Int32).toUInt32 >>> ((1 : Int32).toUInt32 &&& Int32.toUInt32 31)).toInt32 &&& 1431655765)) : Int32).toUInt32 >>> ((2 : Int32).toUInt32 &&& Int32.toUInt32 31)).toInt32 &&& 858993459)) : Int32).toUInt32 >>> ((4 : Int32).toUInt32 &&& Int32.toUInt32 31)).toInt32) &&& 252645135) : Int32).toUInt32 >>> ((8 : Int32).toUInt32 &&& Int32.toUInt32 31)).toInt32) : Int32).toUInt32 >>> ((16 : Int32).toUInt32 &&& Int32.toUInt32 31)).toInt32))]) (st' := [.int ((((((((x1645 - (((x1645 : Int32).toUInt32 >>> ((1 : Int32).toUInt32 &&& Int32.toUInt32 31)).toInt32 &&& 1431655765)) &&& 858993459) + ((((x1645 - (((x1645 : Int32).toUInt32 >>> ((1 : Int32).toUInt32 &&& Int32.toUInt32 31)).toInt32 &&& 1431655765)) : Int32).toUInt32 >>> ((2 : Int32).toUInt32 &&& Int32.toUInt32 31)).toInt32 &&& 858993459)) + (((((x1645 - (((x1645 : Int32).toUInt32 >>> ((1 : Int32).toUInt32 &&& Int32.toUInt32 31)).toInt32 &&& 1431655765)) &&& 858993459) + ((((x1645 - (((x1645 : Int32).toUInt32 >>> ((1 : Int32).toUInt32 &&& Int32.toUInt32 31)).toInt32 &&& 1431655765)) : Int32).toUInt32 >>> ((2 : Int32).toUInt32 &&& Int32.toUInt32 31)).toInt32 &&& 858993459)) : Int32).toUInt32 >>> ((4 : Int32).toUInt32 &&& Int32.toUInt32 31)).toInt32) &&& 252645135) + (((((((x1645 - (((x1645 : Int32).toUInt32 >>> ((1 : Int32).toUInt32 &&& Int32.toUInt32 31)).toInt32 &&& 1431655765)) &&& 858993459) + ((((x1645 - (((x1645 : Int32).toUInt32 >>> ((1 : Int32).toUInt32 &&& Int32.toUInt32 31)).toInt32 &&& 1431655765)) : Int32).toUInt32 >>> ((2 : Int32).toUInt32 &&& Int32.toUInt32 31)).toInt32 &&& 858993459)) + (((((x1645 - (((x1645 : Int32).toUInt32 >>> ((1 : Int32).toUInt32 &&& Int32.toUInt32 31)).toInt32 &&& 1431655765)) &&& 858993459) + ((((x1645 - (((x1645 : Int32).toUInt32 >>> ((1 : Int32).toUInt32 &&& Int32.toUInt32 31)).toInt32 &&& 1431655765)) : Int32).toUInt32 >>> ((2 : Int32).toUInt32 &&& Int32.toUInt32 31)).toInt32 &&& 858993459)) : Int32).toUInt32 >>> ((4 : Int32).toUInt32 &&& Int32.toUInt32 31)).toInt32) &&& 252645135) : Int32).toUInt32 >>> ((8 : Int32).toUInt32 &&& Int32.toUInt32 31)).toInt32) + ((((((((x1645 - (((x1645 : Int32).toUInt32 >>> ((1 : Int32).toUInt32 &&& Int32.toUInt32 31)).toInt32 &&& 1431655765)) &&& 858993459) + ((((x1645 - (((x1645 : Int32).toUInt32 >>> ((1 : Int32).toUInt32 &&& Int32.toUInt32 31)).toInt32 &&& 1431655765)) : Int32).toUInt32 >>> ((2 : Int32).toUInt32 &&& Int32.toUInt32 31)).toInt32 &&& 858993459)) + (((((x1645 - (((x1645 : Int32).toUInt32 >>> ((1 : Int32).toUInt32 &&& Int32.toUInt32 31)).toInt32 &&& 1431655765)) &&& 858993459) + ((((x1645 - (((x1645 : Int32).toUInt32 >>> ((1 : Int32).toUInt32 &&& Int32.toUInt32 31)).toInt32 &&& 1431655765)) : Int32).toUInt32 >>> ((2 : Int32).toUInt32 &&& Int32.toUInt32 31)).toInt32 &&& 858993459)) : Int32).toUInt32 >>> ((4 : Int32).toUInt32 &&& Int32.toUInt32 31)).toInt32) &&& 252645135) + (((((((x1645 - (((x1645 : Int32).toUInt32 >>> ((1 : Int32).toUInt32 &&& Int32.toUInt32 31)).toInt32 &&& 1431655765)) &&& 858993459) + ((((x1645 - (((x1645 : Int32).toUInt32 >>> ((1 : Int32).toUInt32 &&& Int32.toUInt32 31)).toInt32 &&& 1431655765)) : Int32).toUInt32 >>> ((2 : Int32).toUInt32 &&& Int32.toUInt32 31)).toInt32 &&& 858993459)) + (((((x1645 - (((x1645 : Int32).toUInt32 >>> ((1 : Int32).toUInt32 &&& Int32.toUInt32 31)).toInt32 &&& 1431655765)) &&& 858993459) + ((((x1645 - (((x1645 : Int32).toUInt32 >>> ((1 : Int32).toUInt32 &&& Int32.toUInt32 31)).toInt32 &&& 1431655765)) : Int32).toUInt32 >>> ((2 : Int32).toUInt32 &&& Int32.toUInt32 31)).toInt32 &&& 858993459)) : Int32).toUInt32 >>> ((4 : Int32).toUInt32 &&& Int32.toUInt32 31)).toInt32) &&& 252645135) : Int32).toUInt32 >>> ((8 : Int32).toUInt32 &&& Int32.toUInt32 31)).toInt32) : Int32).toUInt32 >>> ((16 : Int32).toUInt32 &&& Int32.toUInt32 31)).toInt32) &&& 63)]) (h' := hh) (cs' := 0) (sl' := 0) rfl ?_
  obtain rfl := Option.some.inj h
  exact ev_end rfl
set_option maxHeartbeats 40000000 in
set_option maxRecDepth 100000 in
theorem EGspr_isIn_83 : ∀ n : Nat, (∀ (y1661 : Int32) (y1662 : Int32) (w : WX) (r : Int32) (w' : WX), Gspr_isIn_83 n 0 y1661 y1662 w = some (r, w') → ∀ (T : ai_H), ai_ev D1 mspr_isIn 2 [some (.ref 83), some (.int y1661), some (.int y1662)] [] (HX w T) 0 0 (some (.int r), HX w' T)) := by
  intro n
  induction n with
  | zero =>
    exact (fun _ _ _ _ _ h => by cases h)
  | succ n ih0 =>
    intro y1661 y1662 w r w' h T
    simp only [Gspr_isIn_83] at h
    refine ev_go 2 (pc' := 5) (L' := [some (.ref 83), some (.int y1661), some (.int y1662)]) (st' := [.int 6, .int y1662]) (h' := (HX w T)) (cs' := 0) (sl' := 0) rfl ?_
    rcases ai_ifE h with ⟨hc, h⟩ | ⟨hc, h⟩
    · refine ev_ic_ge (t := 34) rfl rfl (fun _ => ?_) (fun c9 => absurd hc c9)
      refine ev_go 1 (pc' := 35) (L' := [some (.ref 83), some (.int y1661), some (.int y1662)]) (st' := [.int 0]) (h' := (HX w T)) (cs' := 0) (sl' := 0) rfl ?_
      obtain ⟨rfl, rfl⟩ := ai_smP h
      exact ev_end rfl
    · refine ev_ic_ge (t := 34) rfl rfl (fun c9 => absurd c9 hc) (fun _ => ?_)
      refine ev_go 6 (pc' := 14) (L' := [some (.ref 83), some (.int y1661), some (.int y1662)]) (st' := [.int 1, .int ((y1661 >>> (y1662 &&& 31)) &&& 1)]) (h' := (HX w T)) (cs' := 0) (sl' := 0) rfl ?_
      rcases ai_ifE h with ⟨hc, h⟩ | ⟨hc, h⟩
      · refine ev_ic_ne (t := 28) rfl rfl (fun c9 => absurd hc c9) (fun _ => ?_)
        refine ev_go 3 (pc' := 22) (L' := [some (.ref 83), some (.int y1661), some (.int y1662)]) (st' := [.int y1662, .ref 84]) (h' := (HX w T)) (cs' := 0) (sl' := 0) rfl ?_
        obtain ⟨v1663, hq, h⟩ := ai_bdE h
        refine ev_iald rfl rfl hq ?_
        rcases ai_ifE h with ⟨hc, h⟩ | ⟨hc, h⟩
        · refine ev_if_le (t := 28) rfl rfl (fun _ => ?_) (fun c9 => absurd hc c9)
          refine ev_go 2 (pc' := 2) (L' := [some (.ref 83), some (.int y1661), some (.int (y1662 + 1))]) (st' := []) (h' := (HX w T)) (cs' := 0) (sl' := 0) rfl ?_
          exact ih0 _ _ _ _ _ h T
        · refine ev_if_le (t := 28) rfl rfl (fun c9 => absurd c9 hc) (fun _ => ?_)
          refine ev_go 1 (pc' := 27) (L' := [some (.ref 83), some (.int y1661), some (.int y1662)]) (st' := [.int 1]) (h' := (HX w T)) (cs' := 0) (sl' := 0) rfl ?_
          obtain ⟨rfl, rfl⟩ := ai_smP h
          exact ev_end rfl
      · refine ev_ic_ne (t := 28) rfl rfl (fun _ => ?_) (fun c9 => absurd c9 hc)
        refine ev_go 2 (pc' := 2) (L' := [some (.ref 83), some (.int y1661), some (.int (y1662 + 1))]) (st' := []) (h' := (HX w T)) (cs' := 0) (sl' := 0) rfl ?_
        exact ih0 _ _ _ _ _ h T
set_option maxHeartbeats 40000000 in
set_option maxRecDepth 100000 in
theorem Espr_isIn_83 (n : Nat) (x1660 : Int32) (w : WX) (r : Int32) (w' : WX) (h : Fspr_isIn_83 n x1660 w = some (r, w')) (T : ai_H) : ai_ev D1 mspr_isIn 0 [some (.ref 83), some (.int x1660), none] [] (HX w T) 0 0 (some (.int r), HX w' T) := by
  unfold Fspr_isIn_83 at h
  have ih0 := EGspr_isIn_83 n
  refine ev_go 2 (pc' := 2) (L' := [some (.ref 83), some (.int x1660), some (.int 0)]) (st' := []) (h' := (HX w T)) (cs' := 0) (sl' := 0) rfl ?_
  exact ih0 _ _ _ _ _ h T
set_option maxHeartbeats 40000000 in
set_option maxRecDepth 100000 in
theorem EGf_keepsOut_0 : ∀ n : Nat, (∀ (y1654 : Int32) (y1655 : Int32) (y1656 : Int32) (y1657 : Int32) (y1658 : Int32) (y1659 : Int32) (w : WX) (r : Int32) (w' : WX), Gf_keepsOut_0 n 0 y1654 y1655 y1656 y1657 y1658 y1659 w = some (r, w') → ∀ (T : ai_H), ai_ev D1 mf_keepsOut 12 [some (.ref 0), some (.int y1654), some (.int y1655), some (.int y1656), some (.int y1657), some (.int y1658), some (.int y1659)] [] (HX w T) 0 0 (some (.int r), HX w' T)) := by
  intro n
  induction n with
  | zero =>
    exact (fun _ _ _ _ _ _ _ _ _ h => by cases h)
  | succ n ih0 =>
    intro y1654 y1655 y1656 y1657 y1658 y1659 w r w' h T
    simp only [Gf_keepsOut_0] at h
    refine ev_go 2 (pc' := 15) (L' := [some (.ref 0), some (.int y1654), some (.int y1655), some (.int y1656), some (.int y1657), some (.int y1658), some (.int y1659)]) (st' := [.int y1656, .int y1659]) (h' := (HX w T)) (cs' := 0) (sl' := 0) rfl ?_
    rcases ai_ifE h with ⟨hc, h⟩ | ⟨hc, h⟩
    · refine ev_ic_ge (t := 54) rfl rfl (fun _ => ?_) (fun c9 => absurd hc c9)
      refine ev_go 3 (pc' := 60) (L' := [some (.ref 0), some (.int y1654), some (.int y1655), some (.int y1656), some (.int y1657), some (.int y1658), some (.int y1659)]) (st' := [.int y1657, .ref 83]) (h' := (HX w T)) (cs' := 0) (sl' := 0) rfl ?_
      obtain ⟨c1664, hq, h⟩ := ai_bdE h
      refine ev_call (M' := mspr_isIn) (L' := [some (.ref 83), some (.int y1657), none]) (rest := []) (rv := some (.int c1664.1)) (h' := (HX c1664.2 T)) rfl (Espr_isIn_83 n y1657 w _ _ hq T) ?_
      show ai_ev D1 mf_keepsOut 63 [some (.ref 0), some (.int y1654), some (.int y1655), some (.int y1656), some (.int y1657), some (.int y1658), some (.int y1659)] [.int c1664.1] (HX c1664.2 T) 0 0 _
      rcases ai_ifE h with ⟨hc, h⟩ | ⟨hc, h⟩
      · refine ev_if_ne (t := 70) rfl rfl (fun c9 => absurd hc c9) (fun _ => ?_)
        refine ev_go 2 (pc' := 71) (L' := [some (.ref 0), some (.int y1654), some (.int y1655), some (.int y1656), some (.int y1657), some (.int y1658), some (.int y1659)]) (st' := [.int 1]) (h' := (HX c1664.2 T)) (cs' := 0) (sl' := 0) rfl ?_
        obtain ⟨rfl, rfl⟩ := ai_smP h
        exact ev_end rfl
      · refine ev_if_ne (t := 70) rfl rfl (fun _ => ?_) (fun c9 => absurd c9 hc)
        refine ev_go 1 (pc' := 71) (L' := [some (.ref 0), some (.int y1654), some (.int y1655), some (.int y1656), some (.int y1657), some (.int y1658), some (.int y1659)]) (st' := [.int 0]) (h' := (HX c1664.2 T)) (cs' := 0) (sl' := 0) rfl ?_
        obtain ⟨rfl, rfl⟩ := ai_smP h
        exact ev_end rfl
    · refine ev_ic_ge (t := 54) rfl rfl (fun c9 => absurd c9 hc) (fun _ => ?_)
      refine ev_go 3 (pc' := 24) (L' := [some (.ref 0), some (.int y1654), some (.int y1655), some (.int y1656), some (.int y1657), some (.int y1658), some (.int y1659)]) (st' := [.int y1657, .ref 83]) (h' := (HX w T)) (cs' := 0) (sl' := 0) rfl ?_
      obtain ⟨c1665, hq, h⟩ := ai_bdE h
      refine ev_call (M' := mspr_isIn) (L' := [some (.ref 83), some (.int y1657), none]) (rest := []) (rv := some (.int c1665.1)) (h' := (HX c1665.2 T)) rfl (Espr_isIn_83 n y1657 w _ _ hq T) ?_
      show ai_ev D1 mf_keepsOut 27 [some (.ref 0), some (.int y1654), some (.int y1655), some (.int y1656), some (.int y1657), some (.int y1658), some (.int y1659)] [.int c1665.1] (HX c1665.2 T) 0 0 _
      rcases ai_ifE h with ⟨hc, h⟩ | ⟨hc, h⟩
      · refine ev_if_eq (t := 32) rfl rfl (fun _ => ?_) (fun c9 => absurd hc c9)
        refine ev_go 6 (pc' := 45) (L' := [some (.ref 0), some (.int y1654), some (.int y1655), some (.int y1656), some (.int y1657), some (.int y1658), some (.int y1659)]) (st' := [.int y1658, .int (a_s1_cells c1665.2), .ref 83]) (h' := (HX c1665.2 T)) (cs' := 0) (sl' := 0) rfl ?_
        obtain ⟨c1666, hq, h⟩ := ai_bdE h
        refine ev_call (M' := mspr_goOn) (L' := [some (.ref 83), some (.int (a_s1_cells c1665.2)), some (.int y1658), none]) (rest := []) (rv := none) (h' := (HX c1666 T)) rfl (Espr_goOn_83 n (a_s1_cells c1665.2) y1658 c1665.2 _ hq T) ?_
        show ai_ev D1 mf_keepsOut 48 [some (.ref 0), some (.int y1654), some (.int y1655), some (.int y1656), some (.int y1657), some (.int y1658), some (.int y1659)] [] (HX c1666 T) 0 0 _
        refine ev_go 2 (pc' := 12) (L' := [some (.ref 0), some (.int y1654), some (.int y1655), some (.int y1656), some (.int y1657), some (.int y1658), some (.int (y1659 + 1))]) (st' := []) (h' := (HX c1666 T)) (cs' := 0) (sl' := 0) rfl ?_
        exact ih0 _ _ _ _ _ _ _ _ _ h T
      · refine ev_if_eq (t := 32) rfl rfl (fun c9 => absurd c9 hc) (fun _ => ?_)
        refine ev_go 1 (pc' := 31) (L' := [some (.ref 0), some (.int y1654), some (.int y1655), some (.int y1656), some (.int y1657), some (.int y1658), some (.int y1659)]) (st' := [.int 0]) (h' := (HX c1665.2 T)) (cs' := 0) (sl' := 0) rfl ?_
        obtain ⟨rfl, rfl⟩ := ai_smP h
        exact ev_end rfl
set_option maxHeartbeats 40000000 in
set_option maxRecDepth 100000 in
theorem Ef_keepsOut_0 (n : Nat) (x1648 : Int32) (x1649 : Int32) (x1650 : Int32) (x1651 : Int32) (x1652 : Int32) (w : WX) (r : Int32) (w' : WX) (h : Ff_keepsOut_0 n x1648 x1649 x1650 x1651 x1652 w = some (r, w')) (T : ai_H) : ai_ev D1 mf_keepsOut 0 [some (.ref 0), some (.int x1648), some (.int x1649), some (.int x1650), some (.int x1651), some (.int x1652), none] [] (HX w T) 0 0 (some (.int r), HX w' T) := by
  unfold Ff_keepsOut_0 at h
  have ih0 := EGf_keepsOut_0 n
  refine ev_go 4 (pc' := 6) (L' := [some (.ref 0), some (.int x1648), some (.int x1649), some (.int x1650), some (.int x1651), some (.int x1652), none]) (st' := [.int x1649, .int x1648, .ref 83]) (h' := (HX w T)) (cs' := 0) (sl' := 0) rfl ?_
  obtain ⟨c1653, hq, h⟩ := ai_bdE h
  refine ev_call (M' := mspr_start) (L' := [some (.ref 83), some (.int x1648), some (.int x1649)]) (rest := []) (rv := none) (h' := (HX c1653 T)) rfl (Espr_start_83 n x1648 x1649 w _ hq T) ?_
  show ai_ev D1 mf_keepsOut 9 [some (.ref 0), some (.int x1648), some (.int x1649), some (.int x1650), some (.int x1651), some (.int x1652), none] [] (HX c1653 T) 0 0 _
  refine ev_go 2 (pc' := 12) (L' := [some (.ref 0), some (.int x1648), some (.int x1649), some (.int x1650), some (.int x1651), some (.int x1652), some (.int 0)]) (st' := []) (h' := (HX c1653 T)) (cs' := 0) (sl' := 0) rfl ?_
  exact ih0 _ _ _ _ _ _ _ _ _ h T
set_option maxHeartbeats 40000000 in
set_option maxRecDepth 100000 in
theorem EGf_keepOut_0 : ∀ n : Nat, (∀ (y1638 : Int32) (y1639 : Int32) (y1640 : Int32) (y1641 : Int32) (y1642 : Int32) (y1643 : Int32) (y1644 : Int32) (w : WX) (r : Int32) (w' : WX), Gf_keepOut_0 n 0 y1638 y1639 y1640 y1641 y1642 y1643 y1644 w = some (r, w') → ∀ (T : ai_H) (o8 o9 : Option Value), ai_ev D1 mf_keepOut 56 [some (.ref 0), some (.int y1638), some (.int y1639), some (.int y1640), some (.int y1641), some (.int y1642), some (.int y1643), some (.int y1644), o8, o9] [] (HX w T) 0 0 (some (.int r), HX w' T)) := by
  intro n
  induction n with
  | zero =>
    exact (fun _ _ _ _ _ _ _ _ _ _ h => by cases h)
  | succ n ih0 =>
    intro y1638 y1639 y1640 y1641 y1642 y1643 y1644 w r w' h T o8 o9
    simp only [Gf_keepOut_0] at h
    refine ev_go 2 (pc' := 60) (L' := [some (.ref 0), some (.int y1638), some (.int y1639), some (.int y1640), some (.int y1641), some (.int y1642), some (.int y1643), some (.int y1644), o8, o9]) (st' := [.int y1643, .int y1644]) (h' := (HX w T)) (cs' := 0) (sl' := 0) rfl ?_
    rcases ai_ifE h with ⟨hc, h⟩ | ⟨hc, h⟩
    · refine ev_ic_ge (t := 151) rfl rfl (fun _ => ?_) (fun c9 => absurd hc c9)
      refine ev_go 1 (pc' := 153) (L' := [some (.ref 0), some (.int y1638), some (.int y1639), some (.int y1640), some (.int y1641), some (.int y1642), some (.int y1643), some (.int y1644), o8, o9]) (st' := [.int y1642]) (h' := (HX w T)) (cs' := 0) (sl' := 0) rfl ?_
      obtain ⟨rfl, rfl⟩ := ai_smP h
      exact ev_end rfl
    · refine ev_ic_ge (t := 151) rfl rfl (fun c9 => absurd c9 hc) (fun _ => ?_)
      refine ev_go 5 (pc' := 73) (L' := [some (.ref 0), some (.int y1638), some (.int y1639), some (.int y1640), some (.int y1641), some (.int y1642), some (.int y1643), some (.int y1644), o8, o9]) (st' := [.int (y1644 &&& (a_s1_dams w))]) (h' := (HX w T)) (cs' := 0) (sl' := 0) rfl ?_
      rcases ai_ifE h with ⟨hc, h⟩ | ⟨hc, h⟩
      · refine ev_if_ne (t := 80) rfl rfl (fun c9 => absurd hc c9) (fun _ => ?_)
        refine ev_go 5 (pc' := 86) (L' := [some (.ref 0), some (.int y1638), some (.int y1639), some (.int y1640), some (.int y1641), some (.int y1642), some (.int y1643), some (.int y1644), some (.int 1), o9]) (st' := [.int (-1), .int y1642]) (h' := (HX w T)) (cs' := 0) (sl' := 0) rfl ?_
        rcases ai_ifE h with ⟨hc, h⟩ | ⟨hc, h⟩
        · refine ev_ic_eq (t := 102) rfl rfl (fun _ => ?_) (fun c9 => absurd hc c9)
          refine ev_go 17 (pc' := 135) (L' := [some (.ref 0), some (.int y1638), some (.int y1639), some (.int y1640), some (.int y1641), some (.int y1642), some (.int y1643), some (.int y1644), some (.int 1), some (.int 1)]) (st' := [.int ((a_s1_dams w) ||| y1644), .int y1641, .int y1640, .int y1639, .int y1638, .ref 0]) (h' := (HX w T)) (cs' := 0) (sl' := 0) rfl ?_
          obtain ⟨c1667, hq, h⟩ := ai_bdE h
          refine ev_call (M' := mf_keepsOut) (L' := [some (.ref 0), some (.int y1638), some (.int y1639), some (.int y1640), some (.int y1641), some (.int ((a_s1_dams w) ||| y1644)), none]) (rest := []) (rv := some (.int c1667.1)) (h' := (HX c1667.2 T)) rfl (Ef_keepsOut_0 n y1638 y1639 y1640 y1641 ((a_s1_dams w) ||| y1644) w _ _ hq T) ?_
          show ai_ev D1 mf_keepOut 138 [some (.ref 0), some (.int y1638), some (.int y1639), some (.int y1640), some (.int y1641), some (.int y1642), some (.int y1643), some (.int y1644), some (.int 1), some (.int 1)] [.int c1667.1] (HX c1667.2 T) 0 0 _
          rcases ai_ifE h with ⟨hc, h⟩ | ⟨hc, h⟩
          · refine ev_if_eq (t := 145) rfl rfl (fun _ => ?_) (fun c9 => absurd hc c9)
            refine ev_go 2 (pc' := 56) (L' := [some (.ref 0), some (.int y1638), some (.int y1639), some (.int y1640), some (.int y1641), some (.int y1642), some (.int y1643), some (.int (y1644 + 1)), some (.int 1), some (.int 1)]) (st' := []) (h' := (HX c1667.2 T)) (cs' := 0) (sl' := 0) rfl ?_
            exact ih0 _ _ _ _ _ _ _ _ _ _ h T _ _
          · refine ev_if_eq (t := 145) rfl rfl (fun c9 => absurd c9 hc) (fun _ => ?_)
            refine ev_go 4 (pc' := 56) (L' := [some (.ref 0), some (.int y1638), some (.int y1639), some (.int y1640), some (.int y1641), some (.int y1644), some (.int y1643), some (.int (y1644 + 1)), some (.int 1), some (.int 1)]) (st' := []) (h' := (HX c1667.2 T)) (cs' := 0) (sl' := 0) rfl ?_
            exact ih0 _ _ _ _ _ _ _ _ _ _ h T _ _
        · refine ev_ic_eq (t := 102) rfl rfl (fun c9 => absurd c9 hc) (fun _ => ?_)
          refine ev_go 1 (pc' := 91) (L' := [some (.ref 0), some (.int y1638), some (.int y1639), some (.int y1640), some (.int y1641), some (.int y1642), some (.int y1643), some (.int y1644), some (.int 1), o9]) (st' := [.int y1644]) (h' := (HX w T)) (cs' := 0) (sl' := 0) rfl ?_
          obtain ⟨c1668, hq, h⟩ := ai_bdE h
          refine ev_call (M' := mint_bitCount) (L' := [some (.int y1644)]) (rest := []) (rv := some (.int c1668)) (h' := (HX w T)) rfl (Eint_bitCount y1644 _ hq (HX w T)) ?_
          show ai_ev D1 mf_keepOut 94 [some (.ref 0), some (.int y1638), some (.int y1639), some (.int y1640), some (.int y1641), some (.int y1642), some (.int y1643), some (.int y1644), some (.int 1), o9] [.int c1668] (HX w T) 0 0 _
          refine ev_go 1 (pc' := 96) (L' := [some (.ref 0), some (.int y1638), some (.int y1639), some (.int y1640), some (.int y1641), some (.int y1642), some (.int y1643), some (.int y1644), some (.int 1), o9]) (st' := [.int y1642, .int c1668]) (h' := (HX w T)) (cs' := 0) (sl' := 0) rfl ?_
          obtain ⟨c1669, hq, h⟩ := ai_bdE h
          refine ev_call (M' := mint_bitCount) (L' := [some (.int y1642)]) (rest := [.int c1668]) (rv := some (.int c1669)) (h' := (HX w T)) rfl (Eint_bitCount y1642 _ hq (HX w T)) ?_
          show ai_ev D1 mf_keepOut 99 [some (.ref 0), some (.int y1638), some (.int y1639), some (.int y1640), some (.int y1641), some (.int y1642), some (.int y1643), some (.int y1644), some (.int 1), o9] [.int c1669, .int c1668] (HX w T) 0 0 _
          rcases ai_ifE h with ⟨hc, h⟩ | ⟨hc, h⟩
          · refine ev_ic_ge (t := 106) rfl rfl (fun _ => ?_) (fun c9 => absurd hc c9)
            refine ev_go 8 (pc' := 56) (L' := [some (.ref 0), some (.int y1638), some (.int y1639), some (.int y1640), some (.int y1641), some (.int y1642), some (.int y1643), some (.int (y1644 + 1)), some (.int 1), some (.int 0)]) (st' := []) (h' := (HX w T)) (cs' := 0) (sl' := 0) rfl ?_
            exact ih0 _ _ _ _ _ _ _ _ _ _ h T _ _
          · refine ev_ic_ge (t := 106) rfl rfl (fun c9 => absurd c9 hc) (fun _ => ?_)
            refine ev_go 17 (pc' := 135) (L' := [some (.ref 0), some (.int y1638), some (.int y1639), some (.int y1640), some (.int y1641), some (.int y1642), some (.int y1643), some (.int y1644), some (.int 1), some (.int 1)]) (st' := [.int ((a_s1_dams w) ||| y1644), .int y1641, .int y1640, .int y1639, .int y1638, .ref 0]) (h' := (HX w T)) (cs' := 0) (sl' := 0) rfl ?_
            obtain ⟨c1670, hq, h⟩ := ai_bdE h
            refine ev_call (M' := mf_keepsOut) (L' := [some (.ref 0), some (.int y1638), some (.int y1639), some (.int y1640), some (.int y1641), some (.int ((a_s1_dams w) ||| y1644)), none]) (rest := []) (rv := some (.int c1670.1)) (h' := (HX c1670.2 T)) rfl (Ef_keepsOut_0 n y1638 y1639 y1640 y1641 ((a_s1_dams w) ||| y1644) w _ _ hq T) ?_
            show ai_ev D1 mf_keepOut 138 [some (.ref 0), some (.int y1638), some (.int y1639), some (.int y1640), some (.int y1641), some (.int y1642), some (.int y1643), some (.int y1644), some (.int 1), some (.int 1)] [.int c1670.1] (HX c1670.2 T) 0 0 _
            rcases ai_ifE h with ⟨hc, h⟩ | ⟨hc, h⟩
            · refine ev_if_eq (t := 145) rfl rfl (fun _ => ?_) (fun c9 => absurd hc c9)
              refine ev_go 2 (pc' := 56) (L' := [some (.ref 0), some (.int y1638), some (.int y1639), some (.int y1640), some (.int y1641), some (.int y1642), some (.int y1643), some (.int (y1644 + 1)), some (.int 1), some (.int 1)]) (st' := []) (h' := (HX c1670.2 T)) (cs' := 0) (sl' := 0) rfl ?_
              exact ih0 _ _ _ _ _ _ _ _ _ _ h T _ _
            · refine ev_if_eq (t := 145) rfl rfl (fun c9 => absurd c9 hc) (fun _ => ?_)
              refine ev_go 4 (pc' := 56) (L' := [some (.ref 0), some (.int y1638), some (.int y1639), some (.int y1640), some (.int y1641), some (.int y1644), some (.int y1643), some (.int (y1644 + 1)), some (.int 1), some (.int 1)]) (st' := []) (h' := (HX c1670.2 T)) (cs' := 0) (sl' := 0) rfl ?_
              exact ih0 _ _ _ _ _ _ _ _ _ _ h T _ _
      · refine ev_if_ne (t := 80) rfl rfl (fun _ => ?_) (fun c9 => absurd c9 hc)
        refine ev_go 4 (pc' := 86) (L' := [some (.ref 0), some (.int y1638), some (.int y1639), some (.int y1640), some (.int y1641), some (.int y1642), some (.int y1643), some (.int y1644), some (.int 0), o9]) (st' := [.int (-1), .int y1642]) (h' := (HX w T)) (cs' := 0) (sl' := 0) rfl ?_
        rcases ai_ifE h with ⟨hc, h⟩ | ⟨hc, h⟩
        · refine ev_ic_eq (t := 102) rfl rfl (fun _ => ?_) (fun c9 => absurd hc c9)
          refine ev_go 7 (pc' := 56) (L' := [some (.ref 0), some (.int y1638), some (.int y1639), some (.int y1640), some (.int y1641), some (.int y1642), some (.int y1643), some (.int (y1644 + 1)), some (.int 0), some (.int 1)]) (st' := []) (h' := (HX w T)) (cs' := 0) (sl' := 0) rfl ?_
          exact ih0 _ _ _ _ _ _ _ _ _ _ h T _ _
        · refine ev_ic_eq (t := 102) rfl rfl (fun c9 => absurd c9 hc) (fun _ => ?_)
          refine ev_go 1 (pc' := 91) (L' := [some (.ref 0), some (.int y1638), some (.int y1639), some (.int y1640), some (.int y1641), some (.int y1642), some (.int y1643), some (.int y1644), some (.int 0), o9]) (st' := [.int y1644]) (h' := (HX w T)) (cs' := 0) (sl' := 0) rfl ?_
          obtain ⟨c1646, hq, h⟩ := ai_bdE h
          refine ev_call (M' := mint_bitCount) (L' := [some (.int y1644)]) (rest := []) (rv := some (.int c1646)) (h' := (HX w T)) rfl (Eint_bitCount y1644 _ hq (HX w T)) ?_
          show ai_ev D1 mf_keepOut 94 [some (.ref 0), some (.int y1638), some (.int y1639), some (.int y1640), some (.int y1641), some (.int y1642), some (.int y1643), some (.int y1644), some (.int 0), o9] [.int c1646] (HX w T) 0 0 _
          refine ev_go 1 (pc' := 96) (L' := [some (.ref 0), some (.int y1638), some (.int y1639), some (.int y1640), some (.int y1641), some (.int y1642), some (.int y1643), some (.int y1644), some (.int 0), o9]) (st' := [.int y1642, .int c1646]) (h' := (HX w T)) (cs' := 0) (sl' := 0) rfl ?_
          obtain ⟨c1647, hq, h⟩ := ai_bdE h
          refine ev_call (M' := mint_bitCount) (L' := [some (.int y1642)]) (rest := [.int c1646]) (rv := some (.int c1647)) (h' := (HX w T)) rfl (Eint_bitCount y1642 _ hq (HX w T)) ?_
          show ai_ev D1 mf_keepOut 99 [some (.ref 0), some (.int y1638), some (.int y1639), some (.int y1640), some (.int y1641), some (.int y1642), some (.int y1643), some (.int y1644), some (.int 0), o9] [.int c1647, .int c1646] (HX w T) 0 0 _
          rcases ai_ifE h with ⟨hc, h⟩ | ⟨hc, h⟩
          · refine ev_ic_ge (t := 106) rfl rfl (fun _ => ?_) (fun c9 => absurd hc c9)
            refine ev_go 6 (pc' := 56) (L' := [some (.ref 0), some (.int y1638), some (.int y1639), some (.int y1640), some (.int y1641), some (.int y1642), some (.int y1643), some (.int (y1644 + 1)), some (.int 0), some (.int 0)]) (st' := []) (h' := (HX w T)) (cs' := 0) (sl' := 0) rfl ?_
            exact ih0 _ _ _ _ _ _ _ _ _ _ h T _ _
          · refine ev_ic_ge (t := 106) rfl rfl (fun c9 => absurd c9 hc) (fun _ => ?_)
            refine ev_go 7 (pc' := 56) (L' := [some (.ref 0), some (.int y1638), some (.int y1639), some (.int y1640), some (.int y1641), some (.int y1642), some (.int y1643), some (.int (y1644 + 1)), some (.int 0), some (.int 1)]) (st' := []) (h' := (HX w T)) (cs' := 0) (sl' := 0) rfl ?_
            exact ih0 _ _ _ _ _ _ _ _ _ _ h T _ _
set_option maxHeartbeats 40000000 in
set_option maxRecDepth 100000 in
theorem Ef_keepOut_0 (n : Nat) (x1630 : Int32) (x1631 : Int32) (x1632 : Int32) (x1633 : Int32) (w : WX) (r : Int32) (w' : WX) (h : Ff_keepOut_0 n x1630 x1631 x1632 x1633 w = some (r, w')) (T : ai_H) : ai_ev D1 mf_keepOut 0 [some (.ref 0), some (.int x1630), some (.int x1631), some (.int x1632), some (.int x1633), none, none, none, none, none] [] (HX w T) 0 0 (some (.int r), HX w' T) := by
  unfold Ff_keepOut_0 at h
  have ih0 := EGf_keepOut_0 n
  refine ev_go 4 (pc' := 4) (L' := [some (.ref 0), some (.int x1630), some (.int x1631), some (.int x1632), some (.int x1633), none, none, none, none, none]) (st' := [.int x1632, .int x1631, .int x1630, .ref 0]) (h' := (HX w T)) (cs' := 0) (sl' := 0) rfl ?_
  obtain ⟨c1634, hq, h⟩ := ai_bdE h
  refine ev_call (M' := mf_isSpill) (L' := [some (.ref 0), some (.int x1630), some (.int x1631), some (.int x1632)]) (rest := []) (rv := some (.int c1634.1)) (h' := (HX c1634.2 T)) rfl (Ef_isSpill_0 x1630 x1631 x1632 w _ _ hq T) ?_
  show ai_ev D1 mf_keepOut 7 [some (.ref 0), some (.int x1630), some (.int x1631), some (.int x1632), some (.int x1633), none, none, none, none, none] [.int c1634.1] (HX c1634.2 T) 0 0 _
  rcases ai_ifE h with ⟨hc, h⟩ | ⟨hc, h⟩
  · refine ev_if_eq (t := 30) rfl rfl (fun _ => ?_) (fun c9 => absurd hc c9)
    refine ev_go 2 (pc' := 33) (L' := [some (.ref 0), some (.int x1630), some (.int x1631), some (.int x1632), some (.int x1633), none, none, none, none, none]) (st' := [.int (-2), .ref 0]) (h' := (HX c1634.2 T)) (cs' := 0) (sl' := 0) rfl ?_
    obtain ⟨c1635, hq, h⟩ := ai_bdE h
    refine ev_call (M' := mf_bad) (L' := [some (.ref 0), some (.int (-2))]) (rest := []) (rv := some (.int c1635.1)) (h' := (HX c1635.2 T)) rfl (Ef_bad_0 (-2) c1634.2 _ _ hq T) ?_
    show ai_ev D1 mf_keepOut 36 [some (.ref 0), some (.int x1630), some (.int x1631), some (.int x1632), some (.int x1633), none, none, none, none, none] [.int c1635.1] (HX c1635.2 T) 0 0 _
    obtain ⟨rfl, rfl⟩ := ai_smP h
    exact ev_end rfl
  · refine ev_if_eq (t := 30) rfl rfl (fun c9 => absurd c9 hc) (fun _ => ?_)
    refine ev_go 9 (pc' := 24) (L' := [some (.ref 0), some (.int x1630), some (.int x1631), some (.int x1632), some (.int x1633), none, none, none, none, none]) (st' := [.int ((1 <<< ((a_s1_cells c1634.2) &&& 31)) - 1), .int 0, .int x1633]) (h' := (HX c1634.2 T)) (cs' := 0) (sl' := 0) rfl ?_
    obtain ⟨c1636, hq, h⟩ := ai_bdE h
    refine ev_call (M' := mf_within) (L' := [some (.int x1633), some (.int 0), some (.int ((1 <<< ((a_s1_cells c1634.2) &&& 31)) - 1))]) (rest := []) (rv := some (.int c1636)) (h' := (HX c1634.2 T)) rfl (Ef_within x1633 0 ((1 <<< ((a_s1_cells c1634.2) &&& 31)) - 1) _ hq (HX c1634.2 T)) ?_
    show ai_ev D1 mf_keepOut 27 [some (.ref 0), some (.int x1630), some (.int x1631), some (.int x1632), some (.int x1633), none, none, none, none, none] [.int c1636] (HX c1634.2 T) 0 0 _
    rcases ai_ifE h with ⟨hc, h⟩ | ⟨hc, h⟩
    · refine ev_if_ne (t := 37) rfl rfl (fun c9 => absurd hc c9) (fun _ => ?_)
      refine ev_go 2 (pc' := 33) (L' := [some (.ref 0), some (.int x1630), some (.int x1631), some (.int x1632), some (.int x1633), none, none, none, none, none]) (st' := [.int (-2), .ref 0]) (h' := (HX c1634.2 T)) (cs' := 0) (sl' := 0) rfl ?_
      obtain ⟨c1637, hq, h⟩ := ai_bdE h
      refine ev_call (M' := mf_bad) (L' := [some (.ref 0), some (.int (-2))]) (rest := []) (rv := some (.int c1637.1)) (h' := (HX c1637.2 T)) rfl (Ef_bad_0 (-2) c1634.2 _ _ hq T) ?_
      show ai_ev D1 mf_keepOut 36 [some (.ref 0), some (.int x1630), some (.int x1631), some (.int x1632), some (.int x1633), none, none, none, none, none] [.int c1637.1] (HX c1637.2 T) 0 0 _
      obtain ⟨rfl, rfl⟩ := ai_smP h
      exact ev_end rfl
    · refine ev_if_ne (t := 37) rfl rfl (fun _ => ?_) (fun c9 => absurd c9 hc)
      refine ev_go 12 (pc' := 56) (L' := [some (.ref 0), some (.int x1630), some (.int x1631), some (.int x1632), some (.int x1633), some (.int (-1)), some (.int (1 <<< (((a_s1_cells c1634.2) - 1) &&& 31))), some (.int 0), none, none]) (st' := []) (h' := (HX c1634.2 T)) (cs' := 0) (sl' := 0) rfl ?_
      exact ih0 _ _ _ _ _ _ _ _ _ _ h T _ _
set_option maxHeartbeats 40000000 in
set_option maxRecDepth 100000 in
theorem EGsea_allThick_1 : ∀ n : Nat, (∀ (y1680 : Int32) (y1681 : Int32) (y1682 : Int32) (w : WX) (r : Int32) (w' : WX), Gsea_allThick_1 n 0 y1680 y1681 y1682 w = some (r, w') → ∀ (T : ai_H), ai_ev D1 msea_allThick 4 [some (.ref 1), some (.int y1680), some (.int y1681), some (.int y1682)] [] (HX w T) 0 0 (some (.int r), HX w' T)) := by
  intro n
  induction n with
  | zero =>
    exact (fun _ _ _ _ _ _ h => by cases h)
  | succ n ih0 =>
    intro y1680 y1681 y1682 w r w' h T
    simp only [Gsea_allThick_1] at h
    refine ev_go 2 (pc' := 6) (L' := [some (.ref 1), some (.int y1680), some (.int y1681), some (.int y1682)]) (st' := [.int 4, .int y1682]) (h' := (HX w T)) (cs' := 0) (sl' := 0) rfl ?_
    rcases ai_ifE h with ⟨hc, h⟩ | ⟨hc, h⟩
    · refine ev_ic_ge (t := 28) rfl rfl (fun _ => ?_) (fun c9 => absurd hc c9)
      refine ev_go 1 (pc' := 29) (L' := [some (.ref 1), some (.int y1680), some (.int y1681), some (.int y1682)]) (st' := [.int y1681]) (h' := (HX w T)) (cs' := 0) (sl' := 0) rfl ?_
      obtain ⟨rfl, rfl⟩ := ai_smP h
      exact ev_end rfl
    · refine ev_ic_ge (t := 28) rfl rfl (fun c9 => absurd c9 hc) (fun _ => ?_)
      refine ev_go 6 (pc' := 17) (L' := [some (.ref 1), some (.int y1680), some (.int y1681), some (.int y1682)]) (st' := [.int (a_s1_hour w), .int y1680, .int y1682, .ref 1, .int y1681]) (h' := (HX w T)) (cs' := 0) (sl' := 0) rfl ?_
      obtain ⟨c1683, hq, h⟩ := ai_bdE h
      refine ev_call (M' := msea_thickAt) (L' := [some (.ref 1), some (.int y1682), some (.int y1680), some (.int (a_s1_hour w))]) (rest := [.int y1681]) (rv := some (.int c1683.1)) (h' := (HX c1683.2 T)) rfl (Esea_thickAt_1 y1682 y1680 (a_s1_hour w) w _ _ hq T) ?_
      show ai_ev D1 msea_allThick 20 [some (.ref 1), some (.int y1680), some (.int y1681), some (.int y1682)] [.int c1683.1, .int y1681] (HX c1683.2 T) 0 0 _
      refine ev_go 4 (pc' := 4) (L' := [some (.ref 1), some (.int y1680), some (.int (y1681 + c1683.1)), some (.int (y1682 + 1))]) (st' := []) (h' := (HX c1683.2 T)) (cs' := 0) (sl' := 0) rfl ?_
      exact ih0 _ _ _ _ _ _ h T
set_option maxHeartbeats 40000000 in
set_option maxRecDepth 100000 in
theorem Esea_allThick_1 (n : Nat) (x1679 : Int32) (w : WX) (r : Int32) (w' : WX) (h : Fsea_allThick_1 n x1679 w = some (r, w')) (T : ai_H) : ai_ev D1 msea_allThick 0 [some (.ref 1), some (.int x1679), none, none] [] (HX w T) 0 0 (some (.int r), HX w' T) := by
  unfold Fsea_allThick_1 at h
  have ih0 := EGsea_allThick_1 n
  refine ev_go 4 (pc' := 4) (L' := [some (.ref 1), some (.int x1679), some (.int 0), some (.int 0)]) (st' := []) (h' := (HX w T)) (cs' := 0) (sl' := 0) rfl ?_
  exact ih0 _ _ _ _ _ _ h T
set_option maxHeartbeats 40000000 in
set_option maxRecDepth 100000 in
theorem EGf_shaken_0 : ∀ n : Nat, (∀ (y1686 : Int32) (y1687 : Int32) (y1688 : Int32) (y1689 : Int32) (y1690 : Int32) (y1691 : Int32) (y1692 : Int32) (w : WX) (r : Int32) (w' : WX), Gf_shaken_0 n 0 y1686 y1687 y1688 y1689 y1690 y1691 y1692 w = some (r, w') → ∀ (T : ai_H), ai_ev D1 mf_shaken 64 [some (.ref 0), some (.int y1686), some (.int y1687), some (.int y1688), some (.int y1689), some (.int y1690), some (.int y1691), some (.int y1692)] [] (HX w T) 0 0 (some (.int r), HX w' T)) := by
  intro n
  induction n with
  | zero =>
    exact (fun _ _ _ _ _ _ _ _ _ _ h => by cases h)
  | succ n ih0 =>
    intro y1686 y1687 y1688 y1689 y1690 y1691 y1692 w r w' h T
    simp only [Gf_shaken_0] at h
    refine ev_go 2 (pc' := 67) (L' := [some (.ref 0), some (.int y1686), some (.int y1687), some (.int y1688), some (.int y1689), some (.int y1690), some (.int y1691), some (.int y1692)]) (st' := [.int y1686, .int y1692]) (h' := (HX w T)) (cs' := 0) (sl' := 0) rfl ?_
    rcases ai_ifE h with ⟨hc, h⟩ | ⟨hc, h⟩
    · refine ev_ic_gt (t := 97) rfl rfl (fun _ => ?_) (fun c9 => absurd hc c9)
      refine ev_go 1 (pc' := 99) (L' := [some (.ref 0), some (.int y1686), some (.int y1687), some (.int y1688), some (.int y1689), some (.int y1690), some (.int y1691), some (.int y1692)]) (st' := [.int y1690]) (h' := (HX w T)) (cs' := 0) (sl' := 0) rfl ?_
      obtain ⟨rfl, rfl⟩ := ai_smP h
      exact ev_end rfl
    · refine ev_ic_gt (t := 97) rfl rfl (fun c9 => absurd c9 hc) (fun _ => ?_)
      refine ev_go 2 (pc' := 74) (L' := [some (.ref 0), some (.int y1686), some (.int y1687), some (.int y1688), some (.int y1689), some (.int y1690), some (.int y1691), some (.int y1692)]) (st' := [.int y1689, .int y1691]) (h' := (HX w T)) (cs' := 0) (sl' := 0) rfl ?_
      rcases ai_ifE h with ⟨hc, h⟩ | ⟨hc, h⟩
      · refine ev_ic_le (t := 97) rfl rfl (fun _ => ?_) (fun c9 => absurd hc c9)
        refine ev_go 1 (pc' := 99) (L' := [some (.ref 0), some (.int y1686), some (.int y1687), some (.int y1688), some (.int y1689), some (.int y1690), some (.int y1691), some (.int y1692)]) (st' := [.int y1690]) (h' := (HX w T)) (cs' := 0) (sl' := 0) rfl ?_
        obtain ⟨rfl, rfl⟩ := ai_smP h
        exact ev_end rfl
      · refine ev_ic_le (t := 97) rfl rfl (fun c9 => absurd c9 hc) (fun _ => ?_)
        refine ev_go 11 (pc' := 64) (L' := [some (.ref 0), some (.int y1686), some (.int y1687), some (.int y1688), some (.int y1689), some (.int (y1690 + 1)), some (.int (y1691 - ((y1691 + 3) / 4))), some (.int (y1692 + 1))]) (st' := []) (h' := (HX w T)) (cs' := 0) (sl' := 0) rfl ?_
        exact ih0 _ _ _ _ _ _ _ _ _ _ h T
set_option maxHeartbeats 40000000 in
set_option maxRecDepth 100000 in
theorem Ef_shaken_0 (n : Nat) (x1671 : Int32) (x1672 : Int32) (x1673 : Int32) (w : WX) (r : Int32) (w' : WX) (h : Ff_shaken_0 n x1671 x1672 x1673 w = some (r, w')) (T : ai_H) : ai_ev D1 mf_shaken 0 [some (.ref 0), some (.int x1671), some (.int x1672), some (.int x1673), none, none, none, none] [] (HX w T) 0 0 (some (.int r), HX w' T) := by
  unfold Ff_shaken_0 at h
  have ih0 := EGf_shaken_0 n
  refine ev_go 3 (pc' := 4) (L' := [some (.ref 0), some (.int x1671), some (.int x1672), some (.int x1673), none, none, none, none]) (st' := [.int 99, .int 0, .int x1671]) (h' := (HX w T)) (cs' := 0) (sl' := 0) rfl ?_
  obtain ⟨c1674, hq, h⟩ := ai_bdE h
  refine ev_call (M' := mf_within) (L' := [some (.int x1671), some (.int 0), some (.int 99)]) (rest := []) (rv := some (.int c1674)) (h' := (HX w T)) rfl (Ef_within x1671 0 99 _ hq (HX w T)) ?_
  show ai_ev D1 mf_shaken 7 [some (.ref 0), some (.int x1671), some (.int x1672), some (.int x1673), none, none, none, none] [.int c1674] (HX w T) 0 0 _
  rcases ai_ifE h with ⟨hc, h⟩ | ⟨hc, h⟩
  · refine ev_if_eq (t := 30) rfl rfl (fun _ => ?_) (fun c9 => absurd hc c9)
    refine ev_go 2 (pc' := 33) (L' := [some (.ref 0), some (.int x1671), some (.int x1672), some (.int x1673), none, none, none, none]) (st' := [.int (-2), .ref 0]) (h' := (HX w T)) (cs' := 0) (sl' := 0) rfl ?_
    obtain ⟨c1675, hq, h⟩ := ai_bdE h
    refine ev_call (M' := mf_bad) (L' := [some (.ref 0), some (.int (-2))]) (rest := []) (rv := some (.int c1675.1)) (h' := (HX c1675.2 T)) rfl (Ef_bad_0 (-2) w _ _ hq T) ?_
    show ai_ev D1 mf_shaken 36 [some (.ref 0), some (.int x1671), some (.int x1672), some (.int x1673), none, none, none, none] [.int c1675.1] (HX c1675.2 T) 0 0 _
    obtain ⟨rfl, rfl⟩ := ai_smP h
    exact ev_end rfl
  · refine ev_if_eq (t := 30) rfl rfl (fun c9 => absurd c9 hc) (fun _ => ?_)
    refine ev_go 3 (pc' := 15) (L' := [some (.ref 0), some (.int x1671), some (.int x1672), some (.int x1673), none, none, none, none]) (st' := [.int x1672, .ref 1]) (h' := (HX w T)) (cs' := 0) (sl' := 0) rfl ?_
    obtain ⟨c1676, hq, h⟩ := ai_bdE h
    refine ev_call (M' := msea_hasCell) (L' := [some (.ref 1), some (.int x1672)]) (rest := []) (rv := some (.int c1676.1)) (h' := (HX c1676.2 T)) rfl (Esea_hasCell_1 x1672 w _ _ hq T) ?_
    show ai_ev D1 mf_shaken 18 [some (.ref 0), some (.int x1671), some (.int x1672), some (.int x1673), none, none, none, none] [.int c1676.1] (HX c1676.2 T) 0 0 _
    rcases ai_ifE h with ⟨hc, h⟩ | ⟨hc, h⟩
    · refine ev_if_eq (t := 30) rfl rfl (fun _ => ?_) (fun c9 => absurd hc c9)
      refine ev_go 2 (pc' := 33) (L' := [some (.ref 0), some (.int x1671), some (.int x1672), some (.int x1673), none, none, none, none]) (st' := [.int (-2), .ref 0]) (h' := (HX c1676.2 T)) (cs' := 0) (sl' := 0) rfl ?_
      obtain ⟨c1677, hq, h⟩ := ai_bdE h
      refine ev_call (M' := mf_bad) (L' := [some (.ref 0), some (.int (-2))]) (rest := []) (rv := some (.int c1677.1)) (h' := (HX c1677.2 T)) rfl (Ef_bad_0 (-2) c1676.2 _ _ hq T) ?_
      show ai_ev D1 mf_shaken 36 [some (.ref 0), some (.int x1671), some (.int x1672), some (.int x1673), none, none, none, none] [.int c1677.1] (HX c1677.2 T) 0 0 _
      obtain ⟨rfl, rfl⟩ := ai_smP h
      exact ev_end rfl
    · refine ev_if_eq (t := 30) rfl rfl (fun c9 => absurd c9 hc) (fun _ => ?_)
      refine ev_go 3 (pc' := 24) (L' := [some (.ref 0), some (.int x1671), some (.int x1672), some (.int x1673), none, none, none, none]) (st' := [.int 1, .int 0, .int x1673]) (h' := (HX c1676.2 T)) (cs' := 0) (sl' := 0) rfl ?_
      obtain ⟨c1678, hq, h⟩ := ai_bdE h
      refine ev_call (M' := mf_within) (L' := [some (.int x1673), some (.int 0), some (.int 1)]) (rest := []) (rv := some (.int c1678)) (h' := (HX c1676.2 T)) rfl (Ef_within x1673 0 1 _ hq (HX c1676.2 T)) ?_
      show ai_ev D1 mf_shaken 27 [some (.ref 0), some (.int x1671), some (.int x1672), some (.int x1673), none, none, none, none] [.int c1678] (HX c1676.2 T) 0 0 _
      rcases ai_ifE h with ⟨hc, h⟩ | ⟨hc, h⟩
      · refine ev_if_ne (t := 37) rfl rfl (fun c9 => absurd hc c9) (fun _ => ?_)
        refine ev_go 2 (pc' := 33) (L' := [some (.ref 0), some (.int x1671), some (.int x1672), some (.int x1673), none, none, none, none]) (st' := [.int (-2), .ref 0]) (h' := (HX c1676.2 T)) (cs' := 0) (sl' := 0) rfl ?_
        obtain ⟨c1685, hq, h⟩ := ai_bdE h
        refine ev_call (M' := mf_bad) (L' := [some (.ref 0), some (.int (-2))]) (rest := []) (rv := some (.int c1685.1)) (h' := (HX c1685.2 T)) rfl (Ef_bad_0 (-2) c1676.2 _ _ hq T) ?_
        show ai_ev D1 mf_shaken 36 [some (.ref 0), some (.int x1671), some (.int x1672), some (.int x1673), none, none, none, none] [.int c1685.1] (HX c1685.2 T) 0 0 _
        obtain ⟨rfl, rfl⟩ := ai_smP h
        exact ev_end rfl
      · refine ev_if_ne (t := 37) rfl rfl (fun _ => ?_) (fun c9 => absurd c9 hc)
        refine ev_go 1 (pc' := 38) (L' := [some (.ref 0), some (.int x1671), some (.int x1672), some (.int x1673), none, none, none, none]) (st' := [.int x1673]) (h' := (HX c1676.2 T)) (cs' := 0) (sl' := 0) rfl ?_
        rcases ai_ifE h with ⟨hc, h⟩ | ⟨hc, h⟩
        · refine ev_if_ne (t := 45) rfl rfl (fun c9 => absurd hc c9) (fun _ => ?_)
          refine ev_go 9 (pc' := 64) (L' := [some (.ref 0), some (.int x1671), some (.int x1672), some (.int x1673), some (.int 0), some (.int 0), some (.int x1671), some (.int 0)]) (st' := []) (h' := (HX c1676.2 T)) (cs' := 0) (sl' := 0) rfl ?_
          exact ih0 _ _ _ _ _ _ _ _ _ _ h T
        · refine ev_if_ne (t := 45) rfl rfl (fun _ => ?_) (fun c9 => absurd c9 hc)
          refine ev_go 3 (pc' := 50) (L' := [some (.ref 0), some (.int x1671), some (.int x1672), some (.int x1673), none, none, none, none]) (st' := [.int x1672, .ref 1]) (h' := (HX c1676.2 T)) (cs' := 0) (sl' := 0) rfl ?_
          obtain ⟨c1684, hq, h⟩ := ai_bdE h
          refine ev_call (M' := msea_allThick) (L' := [some (.ref 1), some (.int x1672), none, none]) (rest := []) (rv := some (.int c1684.1)) (h' := (HX c1684.2 T)) rfl (Esea_allThick_1 n x1672 c1676.2 _ _ hq T) ?_
          show ai_ev D1 mf_shaken 53 [some (.ref 0), some (.int x1671), some (.int x1672), some (.int x1673), none, none, none, none] [.int c1684.1] (HX c1684.2 T) 0 0 _
          refine ev_go 7 (pc' := 64) (L' := [some (.ref 0), some (.int x1671), some (.int x1672), some (.int x1673), some (.int c1684.1), some (.int 0), some (.int x1671), some (.int 0)]) (st' := []) (h' := (HX c1684.2 T)) (cs' := 0) (sl' := 0) rfl ?_
          exact ih0 _ _ _ _ _ _ _ _ _ _ h T
set_option maxHeartbeats 40000000 in
set_option maxRecDepth 100000 in
theorem EGf_lies_0 : ∀ n : Nat, (∀ (y1708 : Int32) (y1709 : Int32) (y1710 : Int32) (y1711 : Int32) (y1712 : Int32) (y1713 : Int32) (y1714 : Int32) (y1715 : Int32) (y1716 : Int32) (w : WX) (r : Int32) (w' : WX), Gf_lies_0 n 0 y1708 y1709 y1710 y1711 y1712 y1713 y1714 y1715 y1716 w = some (r, w') → ∀ (T : ai_H), ai_ev D1 mf_lies 71 [some (.ref 0), some (.int y1708), some (.int y1709), some (.int y1710), some (.int y1711), some (.int y1712), some (.int y1713), some (.int y1714), some (.int y1715), some (.int y1716)] [] (HX w T) 0 0 (some (.int r), HX w' T)) := by
  intro n
  induction n with
  | zero =>
    exact (fun _ _ _ _ _ _ _ _ _ _ _ _ h => by cases h)
  | succ n ih0 =>
    intro y1708 y1709 y1710 y1711 y1712 y1713 y1714 y1715 y1716 w r w' h T
    simp only [Gf_lies_0] at h
    refine ev_go 2 (pc' := 75) (L' := [some (.ref 0), some (.int y1708), some (.int y1709), some (.int y1710), some (.int y1711), some (.int y1712), some (.int y1713), some (.int y1714), some (.int y1715), some (.int y1716)]) (st' := [.int 99, .int y1716]) (h' := (HX w T)) (cs' := 0) (sl' := 0) rfl ?_
    rcases ai_ifE h with ⟨hc, h⟩ | ⟨hc, h⟩
    · refine ev_ic_gt (t := 146) rfl rfl (fun _ => ?_) (fun c9 => absurd hc c9)
      refine ev_go 1 (pc' := 148) (L' := [some (.ref 0), some (.int y1708), some (.int y1709), some (.int y1710), some (.int y1711), some (.int y1712), some (.int y1713), some (.int y1714), some (.int y1715), some (.int y1716)]) (st' := [.int y1712]) (h' := (HX w T)) (cs' := 0) (sl' := 0) rfl ?_
      rcases ai_ifE h with ⟨hc, h⟩ | ⟨hc, h⟩
      · refine ev_if_ne (t := 154) rfl rfl (fun c9 => absurd hc c9) (fun _ => ?_)
        refine ev_go 1 (pc' := 153) (L' := [some (.ref 0), some (.int y1708), some (.int y1709), some (.int y1710), some (.int y1711), some (.int y1712), some (.int y1713), some (.int y1714), some (.int y1715), some (.int y1716)]) (st' := [.int y1713]) (h' := (HX w T)) (cs' := 0) (sl' := 0) rfl ?_
        obtain ⟨rfl, rfl⟩ := ai_smP h
        exact ev_end rfl
      · refine ev_if_ne (t := 154) rfl rfl (fun _ => ?_) (fun c9 => absurd c9 hc)
        refine ev_go 2 (pc' := 157) (L' := [some (.ref 0), some (.int y1708), some (.int y1709), some (.int y1710), some (.int y1711), some (.int y1712), some (.int y1713), some (.int y1714), some (.int y1715), some (.int y1716)]) (st' := [.int 1, .int y1712]) (h' := (HX w T)) (cs' := 0) (sl' := 0) rfl ?_
        rcases ai_ifE h with ⟨hc, h⟩ | ⟨hc, h⟩
        · refine ev_ic_ne (t := 165) rfl rfl (fun c9 => absurd hc c9) (fun _ => ?_)
          refine ev_go 2 (pc' := 167) (L' := [some (.ref 0), some (.int y1708), some (.int y1709), some (.int y1710), some (.int y1711), some (.int y1712), some (.int y1713), some (.int y1714), some (.int y1715), some (.int y1716)]) (st' := [.int y1714]) (h' := (HX w T)) (cs' := 0) (sl' := 0) rfl ?_
          obtain ⟨rfl, rfl⟩ := ai_smP h
          exact ev_end rfl
        · refine ev_ic_ne (t := 165) rfl rfl (fun _ => ?_) (fun c9 => absurd c9 hc)
          refine ev_go 1 (pc' := 167) (L' := [some (.ref 0), some (.int y1708), some (.int y1709), some (.int y1710), some (.int y1711), some (.int y1712), some (.int y1713), some (.int y1714), some (.int y1715), some (.int y1716)]) (st' := [.int y1715]) (h' := (HX w T)) (cs' := 0) (sl' := 0) rfl ?_
          obtain ⟨rfl, rfl⟩ := ai_smP h
          exact ev_end rfl
    · refine ev_ic_gt (t := 146) rfl rfl (fun c9 => absurd c9 hc) (fun _ => ?_)
      refine ev_go 7 (pc' := 89) (L' := [some (.ref 0), some (.int y1708), some (.int y1709), some (.int y1710), some (.int y1711), some (.int y1712), some (.int y1713), some (.int y1714), some (.int y1715), some (.int y1716)]) (st' := [.int y1711, .int 0, .int y1708, .int y1716, .int 4, .ref 81]) (h' := (HX w T)) (cs' := 0) (sl' := 0) rfl ?_
      obtain ⟨c1717, hq, h⟩ := ai_bdE h
      refine ev_call (M' := mfall_shape) (L' := [some (.ref 81), some (.int 4), some (.int y1716), some (.int y1708), some (.int 0), some (.int y1711)]) (rest := []) (rv := none) (h' := (HX c1717 T)) rfl (Efall_shape_81 4 y1716 y1708 0 y1711 w _ hq T) ?_
      show ai_ev D1 mf_lies 92 [some (.ref 0), some (.int y1708), some (.int y1709), some (.int y1710), some (.int y1711), some (.int y1712), some (.int y1713), some (.int y1714), some (.int y1715), some (.int y1716)] [] (HX c1717 T) 0 0 _
      refine ev_go 7 (pc' := 104) (L' := [some (.ref 0), some (.int y1708), some (.int y1709), some (.int y1710), some (.int y1711), some (.int y1712), some (.int y1713), some (.int y1714), some (.int y1715), some (.int y1716)]) (st' := [.int 0, .int y1711, .int y1709, .ref 1, .ref 81]) (h' := (HX c1717 T)) (cs' := 0) (sl' := 0) rfl ?_
      obtain ⟨c1718, hq, h⟩ := ai_bdE h
      refine ev_call (M' := mfall_letGo) (L' := [some (.ref 81), some (.ref 1), some (.int y1709), some (.int y1711), some (.int 0), none, none, none]) (rest := []) (rv := none) (h' := (HX c1718 T)) rfl (Efall_letGo_81_1 n y1709 y1711 0 c1717 _ hq T) ?_
      show ai_ev D1 mf_lies 107 [some (.ref 0), some (.int y1708), some (.int y1709), some (.int y1710), some (.int y1711), some (.int y1712), some (.int y1713), some (.int y1714), some (.int y1715), some (.int y1716)] [] (HX c1718 T) 0 0 _
      refine ev_go 4 (pc' := 115) (L' := [some (.ref 0), some (.int y1708), some (.int y1709), some (.int y1710), some (.int y1711), some (.int y1712), some (.int y1713), some (.int y1714), some (.int y1715), some (.int y1716)]) (st' := [.int y1710, .int (a_fall_layer c1718)]) (h' := (HX c1718 T)) (cs' := 0) (sl' := 0) rfl ?_
      rcases ai_ifE h with ⟨hc, h⟩ | ⟨hc, h⟩
      · refine ev_ic_ne (t := 140) rfl rfl (fun c9 => absurd hc c9) (fun _ => ?_)
        refine ev_go 3 (pc' := 124) (L' := [some (.ref 0), some (.int y1708), some (.int y1709), some (.int y1710), some (.int y1711), some (.int y1712), some (.int (y1713 + 1)), some (.int y1714), some (.int y1715), some (.int y1716)]) (st' := [.int (-1), .int y1714]) (h' := (HX c1718 T)) (cs' := 0) (sl' := 0) rfl ?_
        rcases ai_ifE h with ⟨hc, h⟩ | ⟨hc, h⟩
        · refine ev_ic_ne (t := 132) rfl rfl (fun c9 => absurd hc c9) (fun _ => ?_)
          refine ev_go 7 (pc' := 71) (L' := [some (.ref 0), some (.int y1708), some (.int y1709), some (.int y1710), some (.int y1711), some (.int y1712), some (.int (y1713 + 1)), some (.int y1716), some (.int y1716), some (.int (y1716 + 1))]) (st' := []) (h' := (HX c1718 T)) (cs' := 0) (sl' := 0) rfl ?_
          exact ih0 _ _ _ _ _ _ _ _ _ _ _ _ h T
        · refine ev_ic_ne (t := 132) rfl rfl (fun _ => ?_) (fun c9 => absurd c9 hc)
          refine ev_go 6 (pc' := 71) (L' := [some (.ref 0), some (.int y1708), some (.int y1709), some (.int y1710), some (.int y1711), some (.int y1712), some (.int (y1713 + 1)), some (.int y1714), some (.int y1716), some (.int (y1716 + 1))]) (st' := []) (h' := (HX c1718 T)) (cs' := 0) (sl' := 0) rfl ?_
          exact ih0 _ _ _ _ _ _ _ _ _ _ _ _ h T
      · refine ev_ic_ne (t := 140) rfl rfl (fun _ => ?_) (fun c9 => absurd c9 hc)
        refine ev_go 2 (pc' := 71) (L' := [some (.ref 0), some (.int y1708), some (.int y1709), some (.int y1710), some (.int y1711), some (.int y1712), some (.int y1713), some (.int y1714), some (.int y1715), some (.int (y1716 + 1))]) (st' := []) (h' := (HX c1718 T)) (cs' := 0) (sl' := 0) rfl ?_
        exact ih0 _ _ _ _ _ _ _ _ _ _ _ _ h T
set_option maxHeartbeats 40000000 in
set_option maxRecDepth 100000 in
theorem Ef_lies_0 (n : Nat) (x1693 : Int32) (x1694 : Int32) (x1695 : Int32) (x1696 : Int32) (x1697 : Int32) (w : WX) (r : Int32) (w' : WX) (h : Ff_lies_0 n x1693 x1694 x1695 x1696 x1697 w = some (r, w')) (T : ai_H) : ai_ev D1 mf_lies 0 [some (.ref 0), some (.int x1693), some (.int x1694), some (.int x1695), some (.int x1696), some (.int x1697), none, none, none, none] [] (HX w T) 0 0 (some (.int r), HX w' T) := by
  unfold Ff_lies_0 at h
  have ih0 := EGf_lies_0 n
  refine ev_go 3 (pc' := 4) (L' := [some (.ref 0), some (.int x1693), some (.int x1694), some (.int x1695), some (.int x1696), some (.int x1697), none, none, none, none]) (st' := [.int 9, .int 1, .int x1693]) (h' := (HX w T)) (cs' := 0) (sl' := 0) rfl ?_
  obtain ⟨c1698, hq, h⟩ := ai_bdE h
  refine ev_call (M' := mf_within) (L' := [some (.int x1693), some (.int 1), some (.int 9)]) (rest := []) (rv := some (.int c1698)) (h' := (HX w T)) rfl (Ef_within x1693 1 9 _ hq (HX w T)) ?_
  show ai_ev D1 mf_lies 7 [some (.ref 0), some (.int x1693), some (.int x1694), some (.int x1695), some (.int x1696), some (.int x1697), none, none, none, none] [.int c1698] (HX w T) 0 0 _
  rcases ai_ifE h with ⟨hc, h⟩ | ⟨hc, h⟩
  · refine ev_if_eq (t := 52) rfl rfl (fun _ => ?_) (fun c9 => absurd hc c9)
    refine ev_go 2 (pc' := 55) (L' := [some (.ref 0), some (.int x1693), some (.int x1694), some (.int x1695), some (.int x1696), some (.int x1697), none, none, none, none]) (st' := [.int (-10), .ref 0]) (h' := (HX w T)) (cs' := 0) (sl' := 0) rfl ?_
    obtain ⟨c1699, hq, h⟩ := ai_bdE h
    refine ev_call (M' := mf_bad) (L' := [some (.ref 0), some (.int (-10))]) (rest := []) (rv := some (.int c1699.1)) (h' := (HX c1699.2 T)) rfl (Ef_bad_0 (-10) w _ _ hq T) ?_
    show ai_ev D1 mf_lies 58 [some (.ref 0), some (.int x1693), some (.int x1694), some (.int x1695), some (.int x1696), some (.int x1697), none, none, none, none] [.int c1699.1] (HX c1699.2 T) 0 0 _
    obtain ⟨rfl, rfl⟩ := ai_smP h
    exact ev_end rfl
  · refine ev_if_eq (t := 52) rfl rfl (fun c9 => absurd c9 hc) (fun _ => ?_)
    refine ev_go 3 (pc' := 15) (L' := [some (.ref 0), some (.int x1693), some (.int x1694), some (.int x1695), some (.int x1696), some (.int x1697), none, none, none, none]) (st' := [.int x1694, .ref 1]) (h' := (HX w T)) (cs' := 0) (sl' := 0) rfl ?_
    obtain ⟨c1700, hq, h⟩ := ai_bdE h
    refine ev_call (M' := msea_hasCell) (L' := [some (.ref 1), some (.int x1694)]) (rest := []) (rv := some (.int c1700.1)) (h' := (HX c1700.2 T)) rfl (Esea_hasCell_1 x1694 w _ _ hq T) ?_
    show ai_ev D1 mf_lies 18 [some (.ref 0), some (.int x1693), some (.int x1694), some (.int x1695), some (.int x1696), some (.int x1697), none, none, none, none] [.int c1700.1] (HX c1700.2 T) 0 0 _
    rcases ai_ifE h with ⟨hc, h⟩ | ⟨hc, h⟩
    · refine ev_if_eq (t := 52) rfl rfl (fun _ => ?_) (fun c9 => absurd hc c9)
      refine ev_go 2 (pc' := 55) (L' := [some (.ref 0), some (.int x1693), some (.int x1694), some (.int x1695), some (.int x1696), some (.int x1697), none, none, none, none]) (st' := [.int (-10), .ref 0]) (h' := (HX c1700.2 T)) (cs' := 0) (sl' := 0) rfl ?_
      obtain ⟨c1701, hq, h⟩ := ai_bdE h
      refine ev_call (M' := mf_bad) (L' := [some (.ref 0), some (.int (-10))]) (rest := []) (rv := some (.int c1701.1)) (h' := (HX c1701.2 T)) rfl (Ef_bad_0 (-10) c1700.2 _ _ hq T) ?_
      show ai_ev D1 mf_lies 58 [some (.ref 0), some (.int x1693), some (.int x1694), some (.int x1695), some (.int x1696), some (.int x1697), none, none, none, none] [.int c1701.1] (HX c1701.2 T) 0 0 _
      obtain ⟨rfl, rfl⟩ := ai_smP h
      exact ev_end rfl
    · refine ev_if_eq (t := 52) rfl rfl (fun c9 => absurd c9 hc) (fun _ => ?_)
      refine ev_go 3 (pc' := 24) (L' := [some (.ref 0), some (.int x1693), some (.int x1694), some (.int x1695), some (.int x1696), some (.int x1697), none, none, none, none]) (st' := [.int 4, .int 0, .int x1695]) (h' := (HX c1700.2 T)) (cs' := 0) (sl' := 0) rfl ?_
      obtain ⟨c1702, hq, h⟩ := ai_bdE h
      refine ev_call (M' := mf_within) (L' := [some (.int x1695), some (.int 0), some (.int 4)]) (rest := []) (rv := some (.int c1702)) (h' := (HX c1700.2 T)) rfl (Ef_within x1695 0 4 _ hq (HX c1700.2 T)) ?_
      show ai_ev D1 mf_lies 27 [some (.ref 0), some (.int x1693), some (.int x1694), some (.int x1695), some (.int x1696), some (.int x1697), none, none, none, none] [.int c1702] (HX c1700.2 T) 0 0 _
      rcases ai_ifE h with ⟨hc, h⟩ | ⟨hc, h⟩
      · refine ev_if_eq (t := 52) rfl rfl (fun _ => ?_) (fun c9 => absurd hc c9)
        refine ev_go 2 (pc' := 55) (L' := [some (.ref 0), some (.int x1693), some (.int x1694), some (.int x1695), some (.int x1696), some (.int x1697), none, none, none, none]) (st' := [.int (-10), .ref 0]) (h' := (HX c1700.2 T)) (cs' := 0) (sl' := 0) rfl ?_
        obtain ⟨c1703, hq, h⟩ := ai_bdE h
        refine ev_call (M' := mf_bad) (L' := [some (.ref 0), some (.int (-10))]) (rest := []) (rv := some (.int c1703.1)) (h' := (HX c1703.2 T)) rfl (Ef_bad_0 (-10) c1700.2 _ _ hq T) ?_
        show ai_ev D1 mf_lies 58 [some (.ref 0), some (.int x1693), some (.int x1694), some (.int x1695), some (.int x1696), some (.int x1697), none, none, none, none] [.int c1703.1] (HX c1703.2 T) 0 0 _
        obtain ⟨rfl, rfl⟩ := ai_smP h
        exact ev_end rfl
      · refine ev_if_eq (t := 52) rfl rfl (fun c9 => absurd c9 hc) (fun _ => ?_)
        refine ev_go 3 (pc' := 36) (L' := [some (.ref 0), some (.int x1693), some (.int x1694), some (.int x1695), some (.int x1696), some (.int x1697), none, none, none, none]) (st' := [.int 999, .int 0, .int x1696]) (h' := (HX c1700.2 T)) (cs' := 0) (sl' := 0) rfl ?_
        obtain ⟨c1704, hq, h⟩ := ai_bdE h
        refine ev_call (M' := mf_within) (L' := [some (.int x1696), some (.int 0), some (.int 999)]) (rest := []) (rv := some (.int c1704)) (h' := (HX c1700.2 T)) rfl (Ef_within x1696 0 999 _ hq (HX c1700.2 T)) ?_
        show ai_ev D1 mf_lies 39 [some (.ref 0), some (.int x1693), some (.int x1694), some (.int x1695), some (.int x1696), some (.int x1697), none, none, none, none] [.int c1704] (HX c1700.2 T) 0 0 _
        rcases ai_ifE h with ⟨hc, h⟩ | ⟨hc, h⟩
        · refine ev_if_eq (t := 52) rfl rfl (fun _ => ?_) (fun c9 => absurd hc c9)
          refine ev_go 2 (pc' := 55) (L' := [some (.ref 0), some (.int x1693), some (.int x1694), some (.int x1695), some (.int x1696), some (.int x1697), none, none, none, none]) (st' := [.int (-10), .ref 0]) (h' := (HX c1700.2 T)) (cs' := 0) (sl' := 0) rfl ?_
          obtain ⟨c1705, hq, h⟩ := ai_bdE h
          refine ev_call (M' := mf_bad) (L' := [some (.ref 0), some (.int (-10))]) (rest := []) (rv := some (.int c1705.1)) (h' := (HX c1705.2 T)) rfl (Ef_bad_0 (-10) c1700.2 _ _ hq T) ?_
          show ai_ev D1 mf_lies 58 [some (.ref 0), some (.int x1693), some (.int x1694), some (.int x1695), some (.int x1696), some (.int x1697), none, none, none, none] [.int c1705.1] (HX c1705.2 T) 0 0 _
          obtain ⟨rfl, rfl⟩ := ai_smP h
          exact ev_end rfl
        · refine ev_if_eq (t := 52) rfl rfl (fun c9 => absurd c9 hc) (fun _ => ?_)
          refine ev_go 3 (pc' := 46) (L' := [some (.ref 0), some (.int x1693), some (.int x1694), some (.int x1695), some (.int x1696), some (.int x1697), none, none, none, none]) (st' := [.int 2, .int 0, .int x1697]) (h' := (HX c1700.2 T)) (cs' := 0) (sl' := 0) rfl ?_
          obtain ⟨c1706, hq, h⟩ := ai_bdE h
          refine ev_call (M' := mf_within) (L' := [some (.int x1697), some (.int 0), some (.int 2)]) (rest := []) (rv := some (.int c1706)) (h' := (HX c1700.2 T)) rfl (Ef_within x1697 0 2 _ hq (HX c1700.2 T)) ?_
          show ai_ev D1 mf_lies 49 [some (.ref 0), some (.int x1693), some (.int x1694), some (.int x1695), some (.int x1696), some (.int x1697), none, none, none, none] [.int c1706] (HX c1700.2 T) 0 0 _
          rcases ai_ifE h with ⟨hc, h⟩ | ⟨hc, h⟩
          · refine ev_if_ne (t := 59) rfl rfl (fun c9 => absurd hc c9) (fun _ => ?_)
            refine ev_go 2 (pc' := 55) (L' := [some (.ref 0), some (.int x1693), some (.int x1694), some (.int x1695), some (.int x1696), some (.int x1697), none, none, none, none]) (st' := [.int (-10), .ref 0]) (h' := (HX c1700.2 T)) (cs' := 0) (sl' := 0) rfl ?_
            obtain ⟨c1707, hq, h⟩ := ai_bdE h
            refine ev_call (M' := mf_bad) (L' := [some (.ref 0), some (.int (-10))]) (rest := []) (rv := some (.int c1707.1)) (h' := (HX c1707.2 T)) rfl (Ef_bad_0 (-10) c1700.2 _ _ hq T) ?_
            show ai_ev D1 mf_lies 58 [some (.ref 0), some (.int x1693), some (.int x1694), some (.int x1695), some (.int x1696), some (.int x1697), none, none, none, none] [.int c1707.1] (HX c1707.2 T) 0 0 _
            obtain ⟨rfl, rfl⟩ := ai_smP h
            exact ev_end rfl
          · refine ev_if_ne (t := 59) rfl rfl (fun _ => ?_) (fun c9 => absurd c9 hc)
            refine ev_go 8 (pc' := 71) (L' := [some (.ref 0), some (.int x1693), some (.int x1694), some (.int x1695), some (.int x1696), some (.int x1697), some (.int 0), some (.int (-1)), some (.int (-1)), some (.int 1)]) (st' := []) (h' := (HX c1700.2 T)) (cs' := 0) (sl' := 0) rfl ?_
            exact ih0 _ _ _ _ _ _ _ _ _ _ _ _ h T
set_option maxHeartbeats 40000000 in
set_option maxRecDepth 100000 in
theorem EGfall_driftFrom_81_1 : ∀ n : Nat, (∀ (y1731 : Int32) (y1732 : Int32) (y1733 : Int32) (w : WX) (r : Int32) (w' : WX), Gfall_driftFrom_81_1 n 0 y1731 y1732 y1733 0 w = some (r, w') → ∀ (T : ai_H) (o5 : Option Value), ai_ev D1 mfall_driftFrom 5 [some (.ref 81), some (.ref 1), some (.int y1731), some (.int y1732), some (.int y1733), o5] [] (HX w T) 0 0 (some (.int r), HX w' T)) ∧ (∀ (y1734 : Int32) (y1735 : Int32) (y1736 : Int32) (y1737 : Int32) (w : WX) (r : Int32) (w' : WX), Gfall_driftFrom_81_1 n 1 y1734 y1735 y1736 y1737 w = some (r, w') → ∀ (T : ai_H), ai_ev D1 mfall_driftFrom 14 [some (.ref 81), some (.ref 1), some (.int y1734), some (.int y1735), some (.int y1736), some (.int y1737)] [] (HX w T) 0 0 (some (.int r), HX w' T)) := by
  intro n
  induction n with
  | zero =>
    exact ⟨(fun _ _ _ _ _ _ h => by cases h), (fun _ _ _ _ _ _ _ h => by cases h)⟩
  | succ n ih =>
    obtain ⟨ih0, ih1⟩ := ih
    refine ⟨?_, ?_⟩
    · intro y1731 y1732 y1733 w r w' h T o5
      simp only [Gfall_driftFrom_81_1] at h
      refine ev_go 2 (pc' := 8) (L' := [some (.ref 81), some (.ref 1), some (.int y1731), some (.int y1732), some (.int y1733), o5]) (st' := [.int 4, .int y1733]) (h' := (HX w T)) (cs' := 0) (sl' := 0) rfl ?_
      rcases ai_ifE h with ⟨hc, h⟩ | ⟨hc, h⟩
      · refine ev_ic_ge (t := 61) rfl rfl (fun _ => ?_) (fun c9 => absurd hc c9)
        refine ev_go 1 (pc' := 62) (L' := [some (.ref 81), some (.ref 1), some (.int y1731), some (.int y1732), some (.int y1733), o5]) (st' := [.int y1732]) (h' := (HX w T)) (cs' := 0) (sl' := 0) rfl ?_
        obtain ⟨rfl, rfl⟩ := ai_smP h
        exact ev_end rfl
      · refine ev_ic_ge (t := 61) rfl rfl (fun c9 => absurd c9 hc) (fun _ => ?_)
        refine ev_go 2 (pc' := 14) (L' := [some (.ref 81), some (.ref 1), some (.int y1731), some (.int y1732), some (.int y1733), some (.int 0)]) (st' := []) (h' := (HX w T)) (cs' := 0) (sl' := 0) rfl ?_
        exact ih1 _ _ _ _ _ _ _ h T
    · intro y1734 y1735 y1736 y1737 w r w' h T
      simp only [Gfall_driftFrom_81_1] at h
      refine ev_go 4 (pc' := 22) (L' := [some (.ref 81), some (.ref 1), some (.int y1734), some (.int y1735), some (.int y1736), some (.int y1737)]) (st' := [.int y1736, .ref 82, .int y1737]) (h' := (HX w T)) (cs' := 0) (sl' := 0) rfl ?_
      obtain ⟨v1738, hq, h⟩ := ai_bdE h
      refine ev_iald rfl rfl hq ?_
      rcases ai_ifE h with ⟨hc, h⟩ | ⟨hc, h⟩
      · refine ev_ic_ge (t := 55) rfl rfl (fun _ => ?_) (fun c9 => absurd hc c9)
        refine ev_go 2 (pc' := 5) (L' := [some (.ref 81), some (.ref 1), some (.int y1734), some (.int y1735), some (.int (y1736 + 1)), some (.int y1737)]) (st' := []) (h' := (HX w T)) (cs' := 0) (sl' := 0) rfl ?_
        exact ih0 _ _ _ _ _ _ h T _
      · refine ev_ic_ge (t := 55) rfl rfl (fun c9 => absurd c9 hc) (fun _ => ?_)
        refine ev_go 9 (pc' := 40) (L' := [some (.ref 81), some (.ref 1), some (.int y1734), some (.int y1735), some (.int y1736), some (.int y1737)]) (st' := [.int y1736, .ref 3, .int y1735, .int ((a_s1_cells w) - 1), .int 0]) (h' := (HX w T)) (cs' := 0) (sl' := 0) rfl ?_
        obtain ⟨v1739, hq, h⟩ := ai_bdE h
        refine ev_iald rfl rfl hq ?_
        refine ev_go 6 (pc' := 14) (L' := [some (.ref 81), some (.ref 1), some (.int y1734), some (.int (if 0 < (if (y1735 + v1739) < ((a_s1_cells w) - 1) then (y1735 + v1739) else ((a_s1_cells w) - 1)) then (if (y1735 + v1739) < ((a_s1_cells w) - 1) then (y1735 + v1739) else ((a_s1_cells w) - 1)) else 0)), some (.int y1736), some (.int (y1737 + 1))]) (st' := []) (h' := (HX w T)) (cs' := 0) (sl' := 0) rfl ?_
        exact ih1 _ _ _ _ _ _ _ h T
set_option maxHeartbeats 40000000 in
set_option maxRecDepth 100000 in
theorem Efall_driftFrom_81_1 (n : Nat) (x1730 : Int32) (w : WX) (r : Int32) (w' : WX) (h : Ffall_driftFrom_81_1 n x1730 w = some (r, w')) (T : ai_H) : ai_ev D1 mfall_driftFrom 0 [some (.ref 81), some (.ref 1), some (.int x1730), none, none, none] [] (HX w T) 0 0 (some (.int r), HX w' T) := by
  unfold Ffall_driftFrom_81_1 at h
  obtain ⟨ih0, ih1⟩ := EGfall_driftFrom_81_1 n
  refine ev_go 4 (pc' := 5) (L' := [some (.ref 81), some (.ref 1), some (.int x1730), some (.int x1730), some (.int 0), none]) (st' := []) (h' := (HX w T)) (cs' := 0) (sl' := 0) rfl ?_
  exact ih0 _ _ _ _ _ _ h T _
set_option maxHeartbeats 40000000 in
set_option maxRecDepth 100000 in
theorem EGf_wentIn_0 : ∀ n : Nat, (∀ (y1725 : Int32) (y1726 : Int32) (y1727 : Int32) (y1728 : Int32) (w : WX) (r : Int32) (w' : WX), Gf_wentIn_0 n 0 y1725 y1726 y1727 y1728 w = some (r, w') → ∀ (T : ai_H), ai_ev D1 mf_wentIn 37 [some (.ref 0), some (.int y1725), some (.int y1726), some (.int y1727), some (.int y1728)] [] (HX w T) 0 0 (some (.int r), HX w' T)) := by
  intro n
  induction n with
  | zero =>
    exact (fun _ _ _ _ _ _ _ h => by cases h)
  | succ n ih0 =>
    intro y1725 y1726 y1727 y1728 w r w' h T
    simp only [Gf_wentIn_0] at h
    refine ev_go 4 (pc' := 46) (L' := [some (.ref 0), some (.int y1725), some (.int y1726), some (.int y1727), some (.int y1728)]) (st' := [.int (a_s1_cells w), .int y1728]) (h' := (HX w T)) (cs' := 0) (sl' := 0) rfl ?_
    rcases ai_ifE h with ⟨hc, h⟩ | ⟨hc, h⟩
    · refine ev_ic_ge (t := 87) rfl rfl (fun _ => ?_) (fun c9 => absurd hc c9)
      refine ev_go 1 (pc' := 88) (L' := [some (.ref 0), some (.int y1725), some (.int y1726), some (.int y1727), some (.int y1728)]) (st' := [.int y1727]) (h' := (HX w T)) (cs' := 0) (sl' := 0) rfl ?_
      obtain ⟨rfl, rfl⟩ := ai_smP h
      exact ev_end rfl
    · refine ev_ic_ge (t := 87) rfl rfl (fun c9 => absurd c9 hc) (fun _ => ?_)
      refine ev_go 4 (pc' := 54) (L' := [some (.ref 0), some (.int y1725), some (.int y1726), some (.int y1727), some (.int y1728)]) (st' := [.int 0, .int y1728, .int y1725, .ref 0]) (h' := (HX w T)) (cs' := 0) (sl' := 0) rfl ?_
      obtain ⟨c1729, hq, h⟩ := ai_bdE h
      refine ev_call (M' := mf_letGoNow) (L' := [some (.ref 0), some (.int y1725), some (.int y1728), some (.int 0)]) (rest := []) (rv := none) (h' := (HX c1729 T)) rfl (Ef_letGoNow_0 n y1725 y1728 0 w _ hq T) ?_
      show ai_ev D1 mf_wentIn 57 [some (.ref 0), some (.int y1725), some (.int y1726), some (.int y1727), some (.int y1728)] [] (HX c1729 T) 0 0 _
      refine ev_go 5 (pc' := 67) (L' := [some (.ref 0), some (.int y1725), some (.int y1726), some (.int y1727), some (.int y1728)]) (st' := [.int y1728, .ref 1, .ref 81]) (h' := (HX c1729 T)) (cs' := 0) (sl' := 0) rfl ?_
      obtain ⟨c1740, hq, h⟩ := ai_bdE h
      refine ev_call (M' := mfall_driftFrom) (L' := [some (.ref 81), some (.ref 1), some (.int y1728), none, none, none]) (rest := []) (rv := some (.int c1740.1)) (h' := (HX c1740.2 T)) rfl (Efall_driftFrom_81_1 n y1728 c1729 _ _ hq T) ?_
      show ai_ev D1 mf_wentIn 70 [some (.ref 0), some (.int y1725), some (.int y1726), some (.int y1727), some (.int y1728)] [.int c1740.1] (HX c1740.2 T) 0 0 _
      refine ev_go 1 (pc' := 71) (L' := [some (.ref 0), some (.int y1725), some (.int y1726), some (.int y1727), some (.int y1728)]) (st' := [.int y1726, .int c1740.1]) (h' := (HX c1740.2 T)) (cs' := 0) (sl' := 0) rfl ?_
      rcases ai_ifE h with ⟨hc, h⟩ | ⟨hc, h⟩
      · refine ev_ic_ne (t := 81) rfl rfl (fun c9 => absurd hc c9) (fun _ => ?_)
        refine ev_go 8 (pc' := 37) (L' := [some (.ref 0), some (.int y1725), some (.int y1726), some (.int (y1727 ||| (1 <<< (y1728 &&& 31)))), some (.int (y1728 + 1))]) (st' := []) (h' := (HX c1740.2 T)) (cs' := 0) (sl' := 0) rfl ?_
        exact ih0 _ _ _ _ _ _ _ h T
      · refine ev_ic_ne (t := 81) rfl rfl (fun _ => ?_) (fun c9 => absurd c9 hc)
        refine ev_go 2 (pc' := 37) (L' := [some (.ref 0), some (.int y1725), some (.int y1726), some (.int y1727), some (.int (y1728 + 1))]) (st' := []) (h' := (HX c1740.2 T)) (cs' := 0) (sl' := 0) rfl ?_
        exact ih0 _ _ _ _ _ _ _ h T
set_option maxHeartbeats 40000000 in
set_option maxRecDepth 100000 in
theorem Ef_wentIn_0 (n : Nat) (x1719 : Int32) (x1720 : Int32) (w : WX) (r : Int32) (w' : WX) (h : Ff_wentIn_0 n x1719 x1720 w = some (r, w')) (T : ai_H) : ai_ev D1 mf_wentIn 0 [some (.ref 0), some (.int x1719), some (.int x1720), none, none] [] (HX w T) 0 0 (some (.int r), HX w' T) := by
  unfold Ff_wentIn_0 at h
  have ih0 := EGf_wentIn_0 n
  refine ev_go 4 (pc' := 8) (L' := [some (.ref 0), some (.int x1719), some (.int x1720), none, none]) (st' := [.int x1719, .ref 7]) (h' := (HX w T)) (cs' := 0) (sl' := 0) rfl ?_
  obtain ⟨c1721, hq, h⟩ := ai_bdE h
  refine ev_call (M' := mthg_has) (L' := [some (.ref 7), some (.int x1719)]) (rest := []) (rv := some (.int c1721.1)) (h' := (HX c1721.2 T)) rfl (Ethg_has_7 x1719 w _ _ hq T) ?_
  show ai_ev D1 mf_wentIn 11 [some (.ref 0), some (.int x1719), some (.int x1720), none, none] [.int c1721.1] (HX c1721.2 T) 0 0 _
  rcases ai_ifE h with ⟨hc, h⟩ | ⟨hc, h⟩
  · refine ev_if_eq (t := 25) rfl rfl (fun _ => ?_) (fun c9 => absurd hc c9)
    refine ev_go 2 (pc' := 28) (L' := [some (.ref 0), some (.int x1719), some (.int x1720), none, none]) (st' := [.int (-2), .ref 0]) (h' := (HX c1721.2 T)) (cs' := 0) (sl' := 0) rfl ?_
    obtain ⟨c1722, hq, h⟩ := ai_bdE h
    refine ev_call (M' := mf_bad) (L' := [some (.ref 0), some (.int (-2))]) (rest := []) (rv := some (.int c1722.1)) (h' := (HX c1722.2 T)) rfl (Ef_bad_0 (-2) c1721.2 _ _ hq T) ?_
    show ai_ev D1 mf_wentIn 31 [some (.ref 0), some (.int x1719), some (.int x1720), none, none] [.int c1722.1] (HX c1722.2 T) 0 0 _
    obtain ⟨rfl, rfl⟩ := ai_smP h
    exact ev_end rfl
  · refine ev_if_eq (t := 25) rfl rfl (fun c9 => absurd c9 hc) (fun _ => ?_)
    refine ev_go 3 (pc' := 19) (L' := [some (.ref 0), some (.int x1719), some (.int x1720), none, none]) (st' := [.int x1720, .ref 1]) (h' := (HX c1721.2 T)) (cs' := 0) (sl' := 0) rfl ?_
    obtain ⟨c1723, hq, h⟩ := ai_bdE h
    refine ev_call (M' := msea_hasCell) (L' := [some (.ref 1), some (.int x1720)]) (rest := []) (rv := some (.int c1723.1)) (h' := (HX c1723.2 T)) rfl (Esea_hasCell_1 x1720 c1721.2 _ _ hq T) ?_
    show ai_ev D1 mf_wentIn 22 [some (.ref 0), some (.int x1719), some (.int x1720), none, none] [.int c1723.1] (HX c1723.2 T) 0 0 _
    rcases ai_ifE h with ⟨hc, h⟩ | ⟨hc, h⟩
    · refine ev_if_ne (t := 32) rfl rfl (fun c9 => absurd hc c9) (fun _ => ?_)
      refine ev_go 2 (pc' := 28) (L' := [some (.ref 0), some (.int x1719), some (.int x1720), none, none]) (st' := [.int (-2), .ref 0]) (h' := (HX c1723.2 T)) (cs' := 0) (sl' := 0) rfl ?_
      obtain ⟨c1724, hq, h⟩ := ai_bdE h
      refine ev_call (M' := mf_bad) (L' := [some (.ref 0), some (.int (-2))]) (rest := []) (rv := some (.int c1724.1)) (h' := (HX c1724.2 T)) rfl (Ef_bad_0 (-2) c1723.2 _ _ hq T) ?_
      show ai_ev D1 mf_wentIn 31 [some (.ref 0), some (.int x1719), some (.int x1720), none, none] [.int c1724.1] (HX c1724.2 T) 0 0 _
      obtain ⟨rfl, rfl⟩ := ai_smP h
      exact ev_end rfl
    · refine ev_if_ne (t := 32) rfl rfl (fun _ => ?_) (fun c9 => absurd c9 hc)
      refine ev_go 4 (pc' := 37) (L' := [some (.ref 0), some (.int x1719), some (.int x1720), some (.int 0), some (.int 0)]) (st' := []) (h' := (HX c1723.2 T)) (cs' := 0) (sl' := 0) rfl ?_
      exact ih0 _ _ _ _ _ _ _ h T
set_option maxHeartbeats 40000000 in
set_option maxRecDepth 100000 in
theorem EGf_areFish_0 : ∀ n : Nat, (∀ (y1748 : Int32) (y1749 : Int32) (w : WX) (r : Int32) (w' : WX), Gf_areFish_0 n 0 y1748 y1749 w = some (r, w') → ∀ (T : ai_H), ai_ev D1 mf_areFish 26 [some (.ref 0), some (.int y1748), some (.int y1749)] [] (HX w T) 0 0 (some (.int r), HX w' T)) := by
  intro n
  induction n with
  | zero =>
    exact (fun _ _ _ _ _ h => by cases h)
  | succ n ih0 =>
    intro y1748 y1749 w r w' h T
    simp only [Gf_areFish_0] at h
    refine ev_go 5 (pc' := 37) (L' := [some (.ref 0), some (.int y1748), some (.int y1749)]) (st' := [.int (a_s1things_count w), .int y1749]) (h' := (HX w T)) (cs' := 0) (sl' := 0) rfl ?_
    rcases ai_ifE h with ⟨hc, h⟩ | ⟨hc, h⟩
    · refine ev_ic_ge (t := 73) rfl rfl (fun _ => ?_) (fun c9 => absurd hc c9)
      refine ev_go 1 (pc' := 74) (L' := [some (.ref 0), some (.int y1748), some (.int y1749)]) (st' := [.int 1]) (h' := (HX w T)) (cs' := 0) (sl' := 0) rfl ?_
      obtain ⟨rfl, rfl⟩ := ai_smP h
      exact ev_end rfl
    · refine ev_ic_ge (t := 73) rfl rfl (fun c9 => absurd c9 hc) (fun _ => ?_)
      refine ev_go 6 (pc' := 46) (L' := [some (.ref 0), some (.int y1748), some (.int y1749)]) (st' := [.int 1, .int ((y1748 >>> (y1749 &&& 31)) &&& 1)]) (h' := (HX w T)) (cs' := 0) (sl' := 0) rfl ?_
      rcases ai_ifE h with ⟨hc, h⟩ | ⟨hc, h⟩
      · refine ev_ic_ne (t := 67) rfl rfl (fun c9 => absurd hc c9) (fun _ => ?_)
        refine ev_go 5 (pc' := 60) (L' := [some (.ref 0), some (.int y1748), some (.int y1749)]) (st' := [.int y1749, .ref 8]) (h' := (HX w T)) (cs' := 0) (sl' := 0) rfl ?_
        obtain ⟨v1750, hq, h⟩ := ai_bdE h
        refine ev_iald rfl rfl hq ?_
        refine ev_go 1 (pc' := 62) (L' := [some (.ref 0), some (.int y1748), some (.int y1749)]) (st' := [.int 5, .int v1750]) (h' := (HX w T)) (cs' := 0) (sl' := 0) rfl ?_
        rcases ai_ifE h with ⟨hc, h⟩ | ⟨hc, h⟩
        · refine ev_ic_eq (t := 67) rfl rfl (fun _ => ?_) (fun c9 => absurd hc c9)
          refine ev_go 2 (pc' := 26) (L' := [some (.ref 0), some (.int y1748), some (.int (y1749 + 1))]) (st' := []) (h' := (HX w T)) (cs' := 0) (sl' := 0) rfl ?_
          exact ih0 _ _ _ _ _ h T
        · refine ev_ic_eq (t := 67) rfl rfl (fun c9 => absurd c9 hc) (fun _ => ?_)
          refine ev_go 1 (pc' := 66) (L' := [some (.ref 0), some (.int y1748), some (.int y1749)]) (st' := [.int 0]) (h' := (HX w T)) (cs' := 0) (sl' := 0) rfl ?_
          obtain ⟨rfl, rfl⟩ := ai_smP h
          exact ev_end rfl
      · refine ev_ic_ne (t := 67) rfl rfl (fun _ => ?_) (fun c9 => absurd c9 hc)
        refine ev_go 2 (pc' := 26) (L' := [some (.ref 0), some (.int y1748), some (.int (y1749 + 1))]) (st' := []) (h' := (HX w T)) (cs' := 0) (sl' := 0) rfl ?_
        exact ih0 _ _ _ _ _ h T
set_option maxHeartbeats 40000000 in
set_option maxRecDepth 100000 in
theorem Ef_areFish_0 (n : Nat) (x1746 : Int32) (w : WX) (r : Int32) (w' : WX) (h : Ff_areFish_0 n x1746 w = some (r, w')) (T : ai_H) : ai_ev D1 mf_areFish 0 [some (.ref 0), some (.int x1746), none] [] (HX w T) 0 0 (some (.int r), HX w' T) := by
  unfold Ff_areFish_0 at h
  have ih0 := EGf_areFish_0 n
  refine ev_go 10 (pc' := 16) (L' := [some (.ref 0), some (.int x1746), none]) (st' := [.int ((1 <<< ((a_s1things_count w) &&& 31)) - 1), .int 0, .int x1746]) (h' := (HX w T)) (cs' := 0) (sl' := 0) rfl ?_
  obtain ⟨c1747, hq, h⟩ := ai_bdE h
  refine ev_call (M' := mf_within) (L' := [some (.int x1746), some (.int 0), some (.int ((1 <<< ((a_s1things_count w) &&& 31)) - 1))]) (rest := []) (rv := some (.int c1747)) (h' := (HX w T)) rfl (Ef_within x1746 0 ((1 <<< ((a_s1things_count w) &&& 31)) - 1) _ hq (HX w T)) ?_
  show ai_ev D1 mf_areFish 19 [some (.ref 0), some (.int x1746), none] [.int c1747] (HX w T) 0 0 _
  rcases ai_ifE h with ⟨hc, h⟩ | ⟨hc, h⟩
  · refine ev_if_ne (t := 24) rfl rfl (fun c9 => absurd hc c9) (fun _ => ?_)
    refine ev_go 1 (pc' := 23) (L' := [some (.ref 0), some (.int x1746), none]) (st' := [.int 0]) (h' := (HX w T)) (cs' := 0) (sl' := 0) rfl ?_
    obtain ⟨rfl, rfl⟩ := ai_smP h
    exact ev_end rfl
  · refine ev_if_ne (t := 24) rfl rfl (fun _ => ?_) (fun c9 => absurd c9 hc)
    refine ev_go 2 (pc' := 26) (L' := [some (.ref 0), some (.int x1746), some (.int 0)]) (st' := []) (h' := (HX w T)) (cs' := 0) (sl' := 0) rfl ?_
    exact ih0 _ _ _ _ _ h T
set_option maxHeartbeats 40000000 in
set_option maxRecDepth 100000 in
theorem EGf_fillDowns_0 : ∀ n : Nat, (∀ (y1755 : Int32) (y1756 : Int32) (w : WX) (w' : WX), Gf_fillDowns_0 n 0 y1755 y1756 w = some w' → ∀ (T : ai_H), ai_ev D1 mf_fillDowns 2 [some (.ref 0), some (.int y1755), some (.int y1756)] [] (HX w T) 0 0 (none, HX w' T)) := by
  intro n
  induction n with
  | zero =>
    exact (fun _ _ _ _ h => by cases h)
  | succ n ih0 =>
    intro y1755 y1756 w w' h T
    simp only [Gf_fillDowns_0] at h
    refine ev_go 5 (pc' := 13) (L' := [some (.ref 0), some (.int y1755), some (.int y1756)]) (st' := [.int (a_s1things_count w), .int y1756]) (h' := (HX w T)) (cs' := 0) (sl' := 0) rfl ?_
    rcases ai_ifE h with ⟨hc, h⟩ | ⟨hc, h⟩
    · refine ev_ic_ge (t := 65) rfl rfl (fun _ => ?_) (fun c9 => absurd hc c9)
      obtain rfl := Option.some.inj h
      exact ev_end rfl
    · refine ev_ic_ge (t := 65) rfl rfl (fun c9 => absurd c9 hc) (fun _ => ?_)
      refine ev_go 4 (pc' := 22) (L' := [some (.ref 0), some (.int y1755), some (.int y1756)]) (st' := [.int (-1), .int y1756, .ref 88]) (h' := (HX w T)) (cs' := 0) (sl' := 0) rfl ?_
      obtain ⟨q1757, hq, h⟩ := ai_bdE h
      refine ev_iast rfl rfl hq ?_
      rw [HXs_88]
      refine ev_go 5 (pc' := 34) (L' := [some (.ref 0), some (.int y1755), some (.int y1756)]) (st' := [.int y1756, .ref 8]) (h' := (HX (u_f_downs w q1757) T)) (cs' := 0) (sl' := 0) rfl ?_
      obtain ⟨v1758, hq, h⟩ := ai_bdE h
      refine ev_iald rfl rfl hq ?_
      refine ev_go 1 (pc' := 36) (L' := [some (.ref 0), some (.int y1755), some (.int y1756)]) (st' := [.int 5, .int v1758]) (h' := (HX (u_f_downs w q1757) T)) (cs' := 0) (sl' := 0) rfl ?_
      rcases ai_ifE h with ⟨hc, h⟩ | ⟨hc, h⟩
      · refine ev_ic_ne (t := 59) rfl rfl (fun c9 => absurd hc c9) (fun _ => ?_)
        refine ev_go 4 (pc' := 43) (L' := [some (.ref 0), some (.int y1755), some (.int y1756)]) (st' := [.int 0, .int y1755, .int y1756, .ref 0]) (h' := (HX (u_f_downs w q1757) T)) (cs' := 0) (sl' := 0) rfl ?_
        obtain ⟨c1759, hq, h⟩ := ai_bdE h
        refine ev_call (M' := mf_letGoNow) (L' := [some (.ref 0), some (.int y1756), some (.int y1755), some (.int 0)]) (rest := []) (rv := none) (h' := (HX c1759 T)) rfl (Ef_letGoNow_0 n y1756 y1755 0 (u_f_downs w q1757) _ hq T) ?_
        show ai_ev D1 mf_fillDowns 46 [some (.ref 0), some (.int y1755), some (.int y1756)] [] (HX c1759 T) 0 0 _
        refine ev_go 6 (pc' := 58) (L' := [some (.ref 0), some (.int y1755), some (.int y1756)]) (st' := [.int (a_fall_down c1759), .int y1756, .ref 88]) (h' := (HX c1759 T)) (cs' := 0) (sl' := 0) rfl ?_
        obtain ⟨q1760, hq, h⟩ := ai_bdE h
        refine ev_iast rfl rfl hq ?_
        rw [HXs_88]
        refine ev_go 2 (pc' := 2) (L' := [some (.ref 0), some (.int y1755), some (.int (y1756 + 1))]) (st' := []) (h' := (HX (u_f_downs c1759 q1760) T)) (cs' := 0) (sl' := 0) rfl ?_
        exact ih0 _ _ _ _ h T
      · refine ev_ic_ne (t := 59) rfl rfl (fun _ => ?_) (fun c9 => absurd c9 hc)
        refine ev_go 2 (pc' := 2) (L' := [some (.ref 0), some (.int y1755), some (.int (y1756 + 1))]) (st' := []) (h' := (HX (u_f_downs w q1757) T)) (cs' := 0) (sl' := 0) rfl ?_
        exact ih0 _ _ _ _ h T
set_option maxHeartbeats 40000000 in
set_option maxRecDepth 100000 in
theorem Ef_fillDowns_0 (n : Nat) (x1754 : Int32) (w : WX) (w' : WX) (h : Ff_fillDowns_0 n x1754 w = some w') (T : ai_H) : ai_ev D1 mf_fillDowns 0 [some (.ref 0), some (.int x1754), none] [] (HX w T) 0 0 (none, HX w' T) := by
  unfold Ff_fillDowns_0 at h
  have ih0 := EGf_fillDowns_0 n
  refine ev_go 2 (pc' := 2) (L' := [some (.ref 0), some (.int x1754), some (.int 0)]) (st' := []) (h' := (HX w T)) (cs' := 0) (sl' := 0) rfl ?_
  exact ih0 _ _ _ _ h T
set_option maxHeartbeats 40000000 in
set_option maxRecDepth 100000 in
theorem EGf_caught_0 : ∀ n : Nat, (∀ (y1778 : Int32) (y1779 : Int32) (y1780 : Int32) (y1781 : Int32) (w : WX) (r : Int32) (w' : WX), Gf_caught_0 n 0 y1778 y1779 y1780 y1781 w = some (r, w') → ∀ (T : ai_H), ai_ev D1 mf_caught 5 [some (.ref 0), some (.int y1778), some (.int y1779), some (.int y1780), some (.int y1781)] [] (HX w T) 0 0 (some (.int r), HX w' T)) := by
  intro n
  induction n with
  | zero =>
    exact (fun _ _ _ _ _ _ _ h => by cases h)
  | succ n ih0 =>
    intro y1778 y1779 y1780 y1781 w r w' h T
    simp only [Gf_caught_0] at h
    refine ev_go 5 (pc' := 17) (L' := [some (.ref 0), some (.int y1778), some (.int y1779), some (.int y1780), some (.int y1781)]) (st' := [.int (a_s1things_count w), .int y1781]) (h' := (HX w T)) (cs' := 0) (sl' := 0) rfl ?_
    rcases ai_ifE h with ⟨hc, h⟩ | ⟨hc, h⟩
    · refine ev_ic_ge (t := 48) rfl rfl (fun _ => ?_) (fun c9 => absurd hc c9)
      refine ev_go 1 (pc' := 49) (L' := [some (.ref 0), some (.int y1778), some (.int y1779), some (.int y1780), some (.int y1781)]) (st' := [.int y1780]) (h' := (HX w T)) (cs' := 0) (sl' := 0) rfl ?_
      obtain ⟨rfl, rfl⟩ := ai_smP h
      exact ev_end rfl
    · refine ev_ic_ge (t := 48) rfl rfl (fun c9 => absurd c9 hc) (fun _ => ?_)
      refine ev_go 3 (pc' := 26) (L' := [some (.ref 0), some (.int y1778), some (.int y1779), some (.int y1780), some (.int y1781)]) (st' := [.int y1781, .ref 88]) (h' := (HX w T)) (cs' := 0) (sl' := 0) rfl ?_
      obtain ⟨v1782, hq, h⟩ := ai_bdE h
      refine ev_iald rfl rfl hq ?_
      refine ev_go 2 (pc' := 29) (L' := [some (.ref 0), some (.int y1778), some (.int y1779), some (.int y1780), some (.int y1781)]) (st' := [.int y1779, .int y1778, .int v1782]) (h' := (HX w T)) (cs' := 0) (sl' := 0) rfl ?_
      obtain ⟨c1783, hq, h⟩ := ai_bdE h
      refine ev_call (M' := mf_within) (L' := [some (.int v1782), some (.int y1778), some (.int y1779)]) (rest := []) (rv := some (.int c1783)) (h' := (HX w T)) rfl (Ef_within v1782 y1778 y1779 _ hq (HX w T)) ?_
      show ai_ev D1 mf_caught 32 [some (.ref 0), some (.int y1778), some (.int y1779), some (.int y1780), some (.int y1781)] [.int c1783] (HX w T) 0 0 _
      rcases ai_ifE h with ⟨hc, h⟩ | ⟨hc, h⟩
      · refine ev_if_eq (t := 42) rfl rfl (fun _ => ?_) (fun c9 => absurd hc c9)
        refine ev_go 2 (pc' := 5) (L' := [some (.ref 0), some (.int y1778), some (.int y1779), some (.int y1780), some (.int (y1781 + 1))]) (st' := []) (h' := (HX w T)) (cs' := 0) (sl' := 0) rfl ?_
        exact ih0 _ _ _ _ _ _ _ h T
      · refine ev_if_eq (t := 42) rfl rfl (fun c9 => absurd c9 hc) (fun _ => ?_)
        refine ev_go 8 (pc' := 5) (L' := [some (.ref 0), some (.int y1778), some (.int y1779), some (.int (y1780 ||| (1 <<< (y1781 &&& 31)))), some (.int (y1781 + 1))]) (st' := []) (h' := (HX w T)) (cs' := 0) (sl' := 0) rfl ?_
        exact ih0 _ _ _ _ _ _ _ h T
set_option maxHeartbeats 40000000 in
set_option maxRecDepth 100000 in
theorem Ef_caught_0 (n : Nat) (x1776 : Int32) (x1777 : Int32) (w : WX) (r : Int32) (w' : WX) (h : Ff_caught_0 n x1776 x1777 w = some (r, w')) (T : ai_H) : ai_ev D1 mf_caught 0 [some (.ref 0), some (.int x1776), some (.int x1777), none, none] [] (HX w T) 0 0 (some (.int r), HX w' T) := by
  unfold Ff_caught_0 at h
  have ih0 := EGf_caught_0 n
  refine ev_go 4 (pc' := 5) (L' := [some (.ref 0), some (.int x1776), some (.int x1777), some (.int 0), some (.int 0)]) (st' := []) (h' := (HX w T)) (cs' := 0) (sl' := 0) rfl ?_
  exact ih0 _ _ _ _ _ _ _ h T
set_option maxHeartbeats 40000000 in
set_option maxRecDepth 100000 in
theorem EGf_nets_0 : ∀ n : Nat, (∀ (y1763 : Int32) (y1764 : Int32) (y1765 : Int32) (y1766 : Int32) (y1767 : Int32) (y1768 : Int32) (w : WX) (r : Int32) (w' : WX), Gf_nets_0 n 0 y1763 y1764 y1765 y1766 y1767 y1768 0 w = some (r, w') → ∀ (T : ai_H) (o7 : Option Value), ai_ev D1 mf_nets 49 [some (.ref 0), some (.int y1763), some (.int y1764), some (.int y1765), some (.int y1766), some (.int y1767), some (.int y1768), o7] [] (HX w T) 0 0 (some (.int r), HX w' T)) ∧ (∀ (y1769 : Int32) (y1770 : Int32) (y1771 : Int32) (y1772 : Int32) (y1773 : Int32) (y1774 : Int32) (y1775 : Int32) (w : WX) (r : Int32) (w' : WX), Gf_nets_0 n 1 y1769 y1770 y1771 y1772 y1773 y1774 y1775 w = some (r, w') → ∀ (T : ai_H), ai_ev D1 mf_nets 60 [some (.ref 0), some (.int y1769), some (.int y1770), some (.int y1771), some (.int y1772), some (.int y1773), some (.int y1774), some (.int y1775)] [] (HX w T) 0 0 (some (.int r), HX w' T)) := by
  intro n
  induction n with
  | zero =>
    exact ⟨(fun _ _ _ _ _ _ _ _ _ h => by cases h), (fun _ _ _ _ _ _ _ _ _ _ h => by cases h)⟩
  | succ n ih =>
    obtain ⟨ih0, ih1⟩ := ih
    refine ⟨?_, ?_⟩
    · intro y1763 y1764 y1765 y1766 y1767 y1768 w r w' h T o7
      simp only [Gf_nets_0] at h
      refine ev_go 2 (pc' := 53) (L' := [some (.ref 0), some (.int y1763), some (.int y1764), some (.int y1765), some (.int y1766), some (.int y1767), some (.int y1768), o7]) (st' := [.int 60, .int y1768]) (h' := (HX w T)) (cs' := 0) (sl' := 0) rfl ?_
      rcases ai_ifE h with ⟨hc, h⟩ | ⟨hc, h⟩
      · refine ev_ic_gt (t := 115) rfl rfl (fun _ => ?_) (fun c9 => absurd hc c9)
        refine ev_go 1 (pc' := 116) (L' := [some (.ref 0), some (.int y1763), some (.int y1764), some (.int y1765), some (.int y1766), some (.int y1767), some (.int y1768), o7]) (st' := [.int y1765]) (h' := (HX w T)) (cs' := 0) (sl' := 0) rfl ?_
        rcases ai_ifE h with ⟨hc, h⟩ | ⟨hc, h⟩
        · refine ev_if_ne (t := 124) rfl rfl (fun c9 => absurd hc c9) (fun _ => ?_)
          refine ev_go 2 (pc' := 126) (L' := [some (.ref 0), some (.int y1763), some (.int y1764), some (.int y1765), some (.int y1766), some (.int y1767), some (.int y1768), o7]) (st' := [.int y1766]) (h' := (HX w T)) (cs' := 0) (sl' := 0) rfl ?_
          obtain ⟨rfl, rfl⟩ := ai_smP h
          exact ev_end rfl
        · refine ev_if_ne (t := 124) rfl rfl (fun _ => ?_) (fun c9 => absurd c9 hc)
          refine ev_go 1 (pc' := 126) (L' := [some (.ref 0), some (.int y1763), some (.int y1764), some (.int y1765), some (.int y1766), some (.int y1767), some (.int y1768), o7]) (st' := [.int y1767]) (h' := (HX w T)) (cs' := 0) (sl' := 0) rfl ?_
          obtain ⟨rfl, rfl⟩ := ai_smP h
          exact ev_end rfl
      · refine ev_ic_gt (t := 115) rfl rfl (fun c9 => absurd c9 hc) (fun _ => ?_)
        refine ev_go 2 (pc' := 60) (L' := [some (.ref 0), some (.int y1763), some (.int y1764), some (.int y1765), some (.int y1766), some (.int y1767), some (.int y1768), some (.int y1768)]) (st' := []) (h' := (HX w T)) (cs' := 0) (sl' := 0) rfl ?_
        exact ih1 _ _ _ _ _ _ _ _ _ _ h T
    · intro y1769 y1770 y1771 y1772 y1773 y1774 y1775 w r w' h T
      simp only [Gf_nets_0] at h
      refine ev_go 2 (pc' := 64) (L' := [some (.ref 0), some (.int y1769), some (.int y1770), some (.int y1771), some (.int y1772), some (.int y1773), some (.int y1774), some (.int y1775)]) (st' := [.int 60, .int y1775]) (h' := (HX w T)) (cs' := 0) (sl' := 0) rfl ?_
      rcases ai_ifE h with ⟨hc, h⟩ | ⟨hc, h⟩
      · refine ev_ic_gt (t := 109) rfl rfl (fun _ => ?_) (fun c9 => absurd hc c9)
        refine ev_go 2 (pc' := 49) (L' := [some (.ref 0), some (.int y1769), some (.int y1770), some (.int y1771), some (.int y1772), some (.int y1773), some (.int (y1774 + 1)), some (.int y1775)]) (st' := []) (h' := (HX w T)) (cs' := 0) (sl' := 0) rfl ?_
        exact ih0 _ _ _ _ _ _ _ _ _ h T _
      · refine ev_ic_gt (t := 109) rfl rfl (fun c9 => absurd c9 hc) (fun _ => ?_)
        refine ev_go 3 (pc' := 72) (L' := [some (.ref 0), some (.int y1769), some (.int y1770), some (.int y1771), some (.int y1772), some (.int y1773), some (.int y1774), some (.int y1775)]) (st' := [.int y1775, .int y1774, .ref 0]) (h' := (HX w T)) (cs' := 0) (sl' := 0) rfl ?_
        obtain ⟨c1784, hq, h⟩ := ai_bdE h
        refine ev_call (M' := mf_caught) (L' := [some (.ref 0), some (.int y1774), some (.int y1775), none, none]) (rest := []) (rv := some (.int c1784.1)) (h' := (HX c1784.2 T)) rfl (Ef_caught_0 n y1774 y1775 w _ _ hq T) ?_
        show ai_ev D1 mf_nets 75 [some (.ref 0), some (.int y1769), some (.int y1770), some (.int y1771), some (.int y1772), some (.int y1773), some (.int y1774), some (.int y1775)] [.int c1784.1] (HX c1784.2 T) 0 0 _
        refine ev_go 1 (pc' := 76) (L' := [some (.ref 0), some (.int y1769), some (.int y1770), some (.int y1771), some (.int y1772), some (.int y1773), some (.int y1774), some (.int y1775)]) (st' := [.int y1770, .int c1784.1]) (h' := (HX c1784.2 T)) (cs' := 0) (sl' := 0) rfl ?_
        rcases ai_ifE h with ⟨hc, h⟩ | ⟨hc, h⟩
        · refine ev_ic_ne (t := 103) rfl rfl (fun c9 => absurd hc c9) (fun _ => ?_)
          refine ev_go 3 (pc' := 85) (L' := [some (.ref 0), some (.int y1769), some (.int y1770), some (.int y1771), some (.int (y1772 + 1)), some (.int y1773), some (.int y1774), some (.int y1775)]) (st' := [.int (-1), .int y1773]) (h' := (HX c1784.2 T)) (cs' := 0) (sl' := 0) rfl ?_
          rcases ai_ifE h with ⟨hc, h⟩ | ⟨hc, h⟩
          · refine ev_ic_ne (t := 99) rfl rfl (fun c9 => absurd hc c9) (fun _ => ?_)
            refine ev_go 9 (pc' := 60) (L' := [some (.ref 0), some (.int y1769), some (.int y1770), some (.int y1771), some (.int (y1772 + 1)), some (.int ((100 * y1774) + y1775)), some (.int y1774), some (.int (y1775 + 1))]) (st' := []) (h' := (HX c1784.2 T)) (cs' := 0) (sl' := 0) rfl ?_
            exact ih1 _ _ _ _ _ _ _ _ _ _ h T
          · refine ev_ic_ne (t := 99) rfl rfl (fun _ => ?_) (fun c9 => absurd c9 hc)
            refine ev_go 4 (pc' := 60) (L' := [some (.ref 0), some (.int y1769), some (.int y1770), some (.int y1771), some (.int (y1772 + 1)), some (.int y1773), some (.int y1774), some (.int (y1775 + 1))]) (st' := []) (h' := (HX c1784.2 T)) (cs' := 0) (sl' := 0) rfl ?_
            exact ih1 _ _ _ _ _ _ _ _ _ _ h T
        · refine ev_ic_ne (t := 103) rfl rfl (fun _ => ?_) (fun c9 => absurd c9 hc)
          refine ev_go 2 (pc' := 60) (L' := [some (.ref 0), some (.int y1769), some (.int y1770), some (.int y1771), some (.int y1772), some (.int y1773), some (.int y1774), some (.int (y1775 + 1))]) (st' := []) (h' := (HX c1784.2 T)) (cs' := 0) (sl' := 0) rfl ?_
          exact ih1 _ _ _ _ _ _ _ _ _ _ h T
set_option maxHeartbeats 40000000 in
set_option maxRecDepth 100000 in
theorem Ef_nets_0 (n : Nat) (x1741 : Int32) (x1742 : Int32) (x1743 : Int32) (w : WX) (r : Int32) (w' : WX) (h : Ff_nets_0 n x1741 x1742 x1743 w = some (r, w')) (T : ai_H) : ai_ev D1 mf_nets 0 [some (.ref 0), some (.int x1741), some (.int x1742), some (.int x1743), none, none, none, none] [] (HX w T) 0 0 (some (.int r), HX w' T) := by
  unfold Ff_nets_0 at h
  obtain ⟨ih0, ih1⟩ := EGf_nets_0 n
  refine ev_go 3 (pc' := 5) (L' := [some (.ref 0), some (.int x1741), some (.int x1742), some (.int x1743), none, none, none, none]) (st' := [.int x1741, .ref 1]) (h' := (HX w T)) (cs' := 0) (sl' := 0) rfl ?_
  obtain ⟨c1744, hq, h⟩ := ai_bdE h
  refine ev_call (M' := msea_hasCell) (L' := [some (.ref 1), some (.int x1741)]) (rest := []) (rv := some (.int c1744.1)) (h' := (HX c1744.2 T)) rfl (Esea_hasCell_1 x1741 w _ _ hq T) ?_
  show ai_ev D1 mf_nets 8 [some (.ref 0), some (.int x1741), some (.int x1742), some (.int x1743), none, none, none, none] [.int c1744.1] (HX c1744.2 T) 0 0 _
  rcases ai_ifE h with ⟨hc, h⟩ | ⟨hc, h⟩
  · refine ev_if_eq (t := 28) rfl rfl (fun _ => ?_) (fun c9 => absurd hc c9)
    refine ev_go 2 (pc' := 31) (L' := [some (.ref 0), some (.int x1741), some (.int x1742), some (.int x1743), none, none, none, none]) (st' := [.int (-10), .ref 0]) (h' := (HX c1744.2 T)) (cs' := 0) (sl' := 0) rfl ?_
    obtain ⟨c1745, hq, h⟩ := ai_bdE h
    refine ev_call (M' := mf_bad) (L' := [some (.ref 0), some (.int (-10))]) (rest := []) (rv := some (.int c1745.1)) (h' := (HX c1745.2 T)) rfl (Ef_bad_0 (-10) c1744.2 _ _ hq T) ?_
    show ai_ev D1 mf_nets 34 [some (.ref 0), some (.int x1741), some (.int x1742), some (.int x1743), none, none, none, none] [.int c1745.1] (HX c1745.2 T) 0 0 _
    obtain ⟨rfl, rfl⟩ := ai_smP h
    exact ev_end rfl
  · refine ev_if_eq (t := 28) rfl rfl (fun c9 => absurd c9 hc) (fun _ => ?_)
    refine ev_go 2 (pc' := 13) (L' := [some (.ref 0), some (.int x1741), some (.int x1742), some (.int x1743), none, none, none, none]) (st' := [.int x1742, .ref 0]) (h' := (HX c1744.2 T)) (cs' := 0) (sl' := 0) rfl ?_
    obtain ⟨c1751, hq, h⟩ := ai_bdE h
    refine ev_call (M' := mf_areFish) (L' := [some (.ref 0), some (.int x1742), none]) (rest := []) (rv := some (.int c1751.1)) (h' := (HX c1751.2 T)) rfl (Ef_areFish_0 n x1742 c1744.2 _ _ hq T) ?_
    show ai_ev D1 mf_nets 16 [some (.ref 0), some (.int x1741), some (.int x1742), some (.int x1743), none, none, none, none] [.int c1751.1] (HX c1751.2 T) 0 0 _
    rcases ai_ifE h with ⟨hc, h⟩ | ⟨hc, h⟩
    · refine ev_if_eq (t := 28) rfl rfl (fun _ => ?_) (fun c9 => absurd hc c9)
      refine ev_go 2 (pc' := 31) (L' := [some (.ref 0), some (.int x1741), some (.int x1742), some (.int x1743), none, none, none, none]) (st' := [.int (-10), .ref 0]) (h' := (HX c1751.2 T)) (cs' := 0) (sl' := 0) rfl ?_
      obtain ⟨c1752, hq, h⟩ := ai_bdE h
      refine ev_call (M' := mf_bad) (L' := [some (.ref 0), some (.int (-10))]) (rest := []) (rv := some (.int c1752.1)) (h' := (HX c1752.2 T)) rfl (Ef_bad_0 (-10) c1751.2 _ _ hq T) ?_
      show ai_ev D1 mf_nets 34 [some (.ref 0), some (.int x1741), some (.int x1742), some (.int x1743), none, none, none, none] [.int c1752.1] (HX c1752.2 T) 0 0 _
      obtain ⟨rfl, rfl⟩ := ai_smP h
      exact ev_end rfl
    · refine ev_if_eq (t := 28) rfl rfl (fun c9 => absurd c9 hc) (fun _ => ?_)
      refine ev_go 3 (pc' := 22) (L' := [some (.ref 0), some (.int x1741), some (.int x1742), some (.int x1743), none, none, none, none]) (st' := [.int 1, .int 0, .int x1743]) (h' := (HX c1751.2 T)) (cs' := 0) (sl' := 0) rfl ?_
      obtain ⟨c1753, hq, h⟩ := ai_bdE h
      refine ev_call (M' := mf_within) (L' := [some (.int x1743), some (.int 0), some (.int 1)]) (rest := []) (rv := some (.int c1753)) (h' := (HX c1751.2 T)) rfl (Ef_within x1743 0 1 _ hq (HX c1751.2 T)) ?_
      show ai_ev D1 mf_nets 25 [some (.ref 0), some (.int x1741), some (.int x1742), some (.int x1743), none, none, none, none] [.int c1753] (HX c1751.2 T) 0 0 _
      rcases ai_ifE h with ⟨hc, h⟩ | ⟨hc, h⟩
      · refine ev_if_ne (t := 35) rfl rfl (fun c9 => absurd hc c9) (fun _ => ?_)
        refine ev_go 2 (pc' := 31) (L' := [some (.ref 0), some (.int x1741), some (.int x1742), some (.int x1743), none, none, none, none]) (st' := [.int (-10), .ref 0]) (h' := (HX c1751.2 T)) (cs' := 0) (sl' := 0) rfl ?_
        obtain ⟨c1762, hq, h⟩ := ai_bdE h
        refine ev_call (M' := mf_bad) (L' := [some (.ref 0), some (.int (-10))]) (rest := []) (rv := some (.int c1762.1)) (h' := (HX c1762.2 T)) rfl (Ef_bad_0 (-10) c1751.2 _ _ hq T) ?_
        show ai_ev D1 mf_nets 34 [some (.ref 0), some (.int x1741), some (.int x1742), some (.int x1743), none, none, none, none] [.int c1762.1] (HX c1762.2 T) 0 0 _
        obtain ⟨rfl, rfl⟩ := ai_smP h
        exact ev_end rfl
      · refine ev_if_ne (t := 35) rfl rfl (fun _ => ?_) (fun c9 => absurd c9 hc)
        refine ev_go 2 (pc' := 37) (L' := [some (.ref 0), some (.int x1741), some (.int x1742), some (.int x1743), none, none, none, none]) (st' := [.int x1741, .ref 0]) (h' := (HX c1751.2 T)) (cs' := 0) (sl' := 0) rfl ?_
        obtain ⟨c1761, hq, h⟩ := ai_bdE h
        refine ev_call (M' := mf_fillDowns) (L' := [some (.ref 0), some (.int x1741), none]) (rest := []) (rv := none) (h' := (HX c1761 T)) rfl (Ef_fillDowns_0 n x1741 c1751.2 _ hq T) ?_
        show ai_ev D1 mf_nets 40 [some (.ref 0), some (.int x1741), some (.int x1742), some (.int x1743), none, none, none, none] [] (HX c1761 T) 0 0 _
        refine ev_go 6 (pc' := 49) (L' := [some (.ref 0), some (.int x1741), some (.int x1742), some (.int x1743), some (.int 0), some (.int (-1)), some (.int 0), none]) (st' := []) (h' := (HX c1761 T)) (cs' := 0) (sl' := 0) rfl ?_
        exact ih0 _ _ _ _ _ _ _ _ _ h T _
set_option maxHeartbeats 40000000 in
set_option maxRecDepth 100000 in
theorem EGsea_sweetInAll_1 : ∀ n : Nat, (∀ (y1787 : Int32) (y1788 : Int32) (w : WX) (r : Int32) (w' : WX), Gsea_sweetInAll_1 n 0 y1787 y1788 w = some (r, w') → ∀ (T : ai_H), ai_ev D1 msea_sweetInAll 4 [some (.ref 1), some (.int y1787), some (.int y1788)] [] (HX w T) 0 0 (some (.int r), HX w' T)) := by
  intro n
  induction n with
  | zero =>
    exact (fun _ _ _ _ _ h => by cases h)
  | succ n ih0 =>
    intro y1787 y1788 w r w' h T
    simp only [Gsea_sweetInAll_1] at h
    refine ev_go 3 (pc' := 9) (L' := [some (.ref 1), some (.int y1787), some (.int y1788)]) (st' := [.int (a_s1_cells w), .int y1788]) (h' := (HX w T)) (cs' := 0) (sl' := 0) rfl ?_
    rcases ai_ifE h with ⟨hc, h⟩ | ⟨hc, h⟩
    · refine ev_ic_ge (t := 31) rfl rfl (fun _ => ?_) (fun c9 => absurd hc c9)
      refine ev_go 1 (pc' := 32) (L' := [some (.ref 1), some (.int y1787), some (.int y1788)]) (st' := [.int y1787]) (h' := (HX w T)) (cs' := 0) (sl' := 0) rfl ?_
      obtain ⟨rfl, rfl⟩ := ai_smP h
      exact ev_end rfl
    · refine ev_ic_ge (t := 31) rfl rfl (fun c9 => absurd c9 hc) (fun _ => ?_)
      refine ev_go 6 (pc' := 20) (L' := [some (.ref 1), some (.int y1787), some (.int y1788)]) (st' := [.int (a_s1_hour w), .int y1788, .int 0, .ref 1, .int y1787]) (h' := (HX w T)) (cs' := 0) (sl' := 0) rfl ?_
      obtain ⟨c1789, hq, h⟩ := ai_bdE h
      refine ev_call (M' := msea_thickAt) (L' := [some (.ref 1), some (.int 0), some (.int y1788), some (.int (a_s1_hour w))]) (rest := [.int y1787]) (rv := some (.int c1789.1)) (h' := (HX c1789.2 T)) rfl (Esea_thickAt_1 0 y1788 (a_s1_hour w) w _ _ hq T) ?_
      show ai_ev D1 msea_sweetInAll 23 [some (.ref 1), some (.int y1787), some (.int y1788)] [.int c1789.1, .int y1787] (HX c1789.2 T) 0 0 _
      refine ev_go 4 (pc' := 4) (L' := [some (.ref 1), some (.int (y1787 + c1789.1)), some (.int (y1788 + 1))]) (st' := []) (h' := (HX c1789.2 T)) (cs' := 0) (sl' := 0) rfl ?_
      exact ih0 _ _ _ _ _ h T
set_option maxHeartbeats 40000000 in
set_option maxRecDepth 100000 in
theorem Esea_sweetInAll_1 (n : Nat) (w : WX) (r : Int32) (w' : WX) (h : Fsea_sweetInAll_1 n w = some (r, w')) (T : ai_H) : ai_ev D1 msea_sweetInAll 0 [some (.ref 1), none, none] [] (HX w T) 0 0 (some (.int r), HX w' T) := by
  unfold Fsea_sweetInAll_1 at h
  have ih0 := EGsea_sweetInAll_1 n
  refine ev_go 4 (pc' := 4) (L' := [some (.ref 1), some (.int 0), some (.int 0)]) (st' := []) (h' := (HX w T)) (cs' := 0) (sl' := 0) rfl ?_
  exact ih0 _ _ _ _ _ h T
set_option maxHeartbeats 40000000 in
set_option maxRecDepth 100000 in
theorem Ef_tapped (x1806 : Int32) (x1807 : Int32) (x1808 : Int32) (r : Int32) (h : Ff_tapped x1806 x1807 x1808 = some r) (hh : ai_H) : ai_ev D1 mf_tapped 0 [some (.int x1806), some (.int x1807), some (.int x1808)] [] hh 0 0 (some (.int r), hh) := by
  unfold Ff_tapped at h
  refine ev_go 11 (pc' := 13) (L' := [some (.int x1806), some (.int x1807), some (.int x1808)]) (st' := [.int (x1806 - (2 * (if 0 < ((x1806 + x1807) - x1808) then ((x1806 + x1807) - x1808) else 0)))]) (h' := hh) (cs' := 0) (sl' := 0) rfl ?_
  obtain rfl := Option.some.inj h
  exact ev_end rfl
set_option maxHeartbeats 40000000 in
set_option maxRecDepth 100000 in
theorem EGf_isBestTap : ∀ n : Nat, (∀ (y1810 : Int32) (y1811 : Int32) (y1812 : Int32) (y1813 : Int32) (y1814 : Int32) (r : Int32), Gf_isBestTap n 0 y1810 y1811 y1812 y1813 y1814 = some r → ∀ (hh : ai_H), ai_ev D1 mf_isBestTap 10 [some (.int y1810), some (.int y1811), some (.int y1812), some (.int y1813), some (.int y1814)] [] hh 0 0 (some (.int r), hh)) := by
  intro n
  induction n with
  | zero =>
    exact (fun _ _ _ _ _ _ h => by cases h)
  | succ n ih0 =>
    intro y1810 y1811 y1812 y1813 y1814 r h hh
    simp only [Gf_isBestTap] at h
    refine ev_go 2 (pc' := 14) (L' := [some (.int y1810), some (.int y1811), some (.int y1812), some (.int y1813), some (.int y1814)]) (st' := [.int 9, .int y1814]) (h' := hh) (cs' := 0) (sl' := 0) rfl ?_
    rcases ai_ifE h with ⟨hc, h⟩ | ⟨hc, h⟩
    · refine ev_ic_gt (t := 36) rfl rfl (fun _ => ?_) (fun c9 => absurd hc c9)
      refine ev_go 1 (pc' := 37) (L' := [some (.int y1810), some (.int y1811), some (.int y1812), some (.int y1813), some (.int y1814)]) (st' := [.int 1]) (h' := hh) (cs' := 0) (sl' := 0) rfl ?_
      obtain rfl := Option.some.inj h
      exact ev_end rfl
    · refine ev_ic_gt (t := 36) rfl rfl (fun c9 => absurd c9 hc) (fun _ => ?_)
      refine ev_go 3 (pc' := 21) (L' := [some (.int y1810), some (.int y1811), some (.int y1812), some (.int y1813), some (.int y1814)]) (st' := [.int y1812, .int y1811, .int y1814]) (h' := hh) (cs' := 0) (sl' := 0) rfl ?_
      obtain ⟨c1815, hq, h⟩ := ai_bdE h
      refine ev_call (M' := mf_tapped) (L' := [some (.int y1814), some (.int y1811), some (.int y1812)]) (rest := []) (rv := some (.int c1815)) (h' := hh) rfl (Ef_tapped y1814 y1811 y1812 _ hq hh) ?_
      show ai_ev D1 mf_isBestTap 24 [some (.int y1810), some (.int y1811), some (.int y1812), some (.int y1813), some (.int y1814)] [.int c1815] hh 0 0 _
      refine ev_go 1 (pc' := 25) (L' := [some (.int y1810), some (.int y1811), some (.int y1812), some (.int y1813), some (.int y1814)]) (st' := [.int y1813, .int c1815]) (h' := hh) (cs' := 0) (sl' := 0) rfl ?_
      rcases ai_ifE h with ⟨hc, h⟩ | ⟨hc, h⟩
      · refine ev_ic_le (t := 30) rfl rfl (fun _ => ?_) (fun c9 => absurd hc c9)
        refine ev_go 2 (pc' := 10) (L' := [some (.int y1810), some (.int y1811), some (.int y1812), some (.int y1813), some (.int (y1814 + 1))]) (st' := []) (h' := hh) (cs' := 0) (sl' := 0) rfl ?_
        exact ih0 _ _ _ _ _ _ h hh
      · refine ev_ic_le (t := 30) rfl rfl (fun c9 => absurd c9 hc) (fun _ => ?_)
        refine ev_go 1 (pc' := 29) (L' := [some (.int y1810), some (.int y1811), some (.int y1812), some (.int y1813), some (.int y1814)]) (st' := [.int 0]) (h' := hh) (cs' := 0) (sl' := 0) rfl ?_
        obtain rfl := Option.some.inj h
        exact ev_end rfl
set_option maxHeartbeats 40000000 in
set_option maxRecDepth 100000 in
theorem Ef_isBestTap (n : Nat) (x1803 : Int32) (x1804 : Int32) (x1805 : Int32) (r : Int32) (h : Ff_isBestTap n x1803 x1804 x1805 = some r) (hh : ai_H) : ai_ev D1 mf_isBestTap 0 [some (.int x1803), some (.int x1804), some (.int x1805), none, none] [] hh 0 0 (some (.int r), hh) := by
  unfold Ff_isBestTap at h
  have ih0 := EGf_isBestTap n
  refine ev_go 3 (pc' := 3) (L' := [some (.int x1803), some (.int x1804), some (.int x1805), none, none]) (st' := [.int x1805, .int x1804, .int x1803]) (h' := hh) (cs' := 0) (sl' := 0) rfl ?_
  obtain ⟨c1809, hq, h⟩ := ai_bdE h
  refine ev_call (M' := mf_tapped) (L' := [some (.int x1803), some (.int x1804), some (.int x1805)]) (rest := []) (rv := some (.int c1809)) (h' := hh) rfl (Ef_tapped x1803 x1804 x1805 _ hq hh) ?_
  show ai_ev D1 mf_isBestTap 6 [some (.int x1803), some (.int x1804), some (.int x1805), none, none] [.int c1809] hh 0 0 _
  refine ev_go 3 (pc' := 10) (L' := [some (.int x1803), some (.int x1804), some (.int x1805), some (.int c1809), some (.int 0)]) (st' := []) (h' := hh) (cs' := 0) (sl' := 0) rfl ?_
  exact ih0 _ _ _ _ _ _ h hh
set_option maxHeartbeats 40000000 in
set_option maxRecDepth 100000 in
theorem EGf_tap_0 : ∀ n : Nat, (∀ (y1792 : Int32) (y1793 : Int32) (y1794 : Int32) (y1795 : Int32) (y1796 : Int32) (w : WX) (r : Int32) (w' : WX), Gf_tap_0 n 0 y1792 y1793 y1794 y1795 y1796 0 w = some (r, w') → ∀ (T : ai_H) (o6 : Option Value), ai_ev D1 mf_tap 32 [some (.ref 0), some (.int y1792), some (.int y1793), some (.int y1794), some (.int y1795), some (.int y1796), o6] [] (HX w T) 0 0 (some (.int r), HX w' T)) ∧ (∀ (y1797 : Int32) (y1798 : Int32) (y1799 : Int32) (y1800 : Int32) (y1801 : Int32) (y1802 : Int32) (w : WX) (r : Int32) (w' : WX), Gf_tap_0 n 1 y1797 y1798 y1799 y1800 y1801 y1802 w = some (r, w') → ∀ (T : ai_H), ai_ev D1 mf_tap 42 [some (.ref 0), some (.int y1797), some (.int y1798), some (.int y1799), some (.int y1800), some (.int y1801), some (.int y1802)] [] (HX w T) 0 0 (some (.int r), HX w' T)) := by
  intro n
  induction n with
  | zero =>
    exact ⟨(fun _ _ _ _ _ _ _ _ h => by cases h), (fun _ _ _ _ _ _ _ _ _ h => by cases h)⟩
  | succ n ih =>
    obtain ⟨ih0, ih1⟩ := ih
    refine ⟨?_, ?_⟩
    · intro y1792 y1793 y1794 y1795 y1796 w r w' h T o6
      simp only [Gf_tap_0] at h
      refine ev_go 2 (pc' := 36) (L' := [some (.ref 0), some (.int y1792), some (.int y1793), some (.int y1794), some (.int y1795), some (.int y1796), o6]) (st' := [.int 9, .int y1796]) (h' := (HX w T)) (cs' := 0) (sl' := 0) rfl ?_
      rcases ai_ifE h with ⟨hc, h⟩ | ⟨hc, h⟩
      · refine ev_ic_gt (t := 107) rfl rfl (fun _ => ?_) (fun c9 => absurd hc c9)
        refine ev_go 1 (pc' := 108) (L' := [some (.ref 0), some (.int y1792), some (.int y1793), some (.int y1794), some (.int y1795), some (.int y1796), o6]) (st' := [.int y1792]) (h' := (HX w T)) (cs' := 0) (sl' := 0) rfl ?_
        rcases ai_ifE h with ⟨hc, h⟩ | ⟨hc, h⟩
        · refine ev_if_ne (t := 115) rfl rfl (fun c9 => absurd hc c9) (fun _ => ?_)
          refine ev_go 2 (pc' := 117) (L' := [some (.ref 0), some (.int y1792), some (.int y1793), some (.int y1794), some (.int y1795), some (.int y1796), o6]) (st' := [.int y1794]) (h' := (HX w T)) (cs' := 0) (sl' := 0) rfl ?_
          obtain ⟨rfl, rfl⟩ := ai_smP h
          exact ev_end rfl
        · refine ev_if_ne (t := 115) rfl rfl (fun _ => ?_) (fun c9 => absurd c9 hc)
          refine ev_go 1 (pc' := 117) (L' := [some (.ref 0), some (.int y1792), some (.int y1793), some (.int y1794), some (.int y1795), some (.int y1796), o6]) (st' := [.int y1795]) (h' := (HX w T)) (cs' := 0) (sl' := 0) rfl ?_
          obtain ⟨rfl, rfl⟩ := ai_smP h
          exact ev_end rfl
      · refine ev_ic_gt (t := 107) rfl rfl (fun c9 => absurd c9 hc) (fun _ => ?_)
        refine ev_go 2 (pc' := 42) (L' := [some (.ref 0), some (.int y1792), some (.int y1793), some (.int y1794), some (.int y1795), some (.int y1796), some (.int 0)]) (st' := []) (h' := (HX w T)) (cs' := 0) (sl' := 0) rfl ?_
        exact ih1 _ _ _ _ _ _ _ _ _ h T
    · intro y1797 y1798 y1799 y1800 y1801 y1802 w r w' h T
      simp only [Gf_tap_0] at h
      refine ev_go 2 (pc' := 46) (L' := [some (.ref 0), some (.int y1797), some (.int y1798), some (.int y1799), some (.int y1800), some (.int y1801), some (.int y1802)]) (st' := [.int 9, .int y1802]) (h' := (HX w T)) (cs' := 0) (sl' := 0) rfl ?_
      rcases ai_ifE h with ⟨hc, h⟩ | ⟨hc, h⟩
      · refine ev_ic_gt (t := 101) rfl rfl (fun _ => ?_) (fun c9 => absurd hc c9)
        refine ev_go 2 (pc' := 32) (L' := [some (.ref 0), some (.int y1797), some (.int y1798), some (.int y1799), some (.int y1800), some (.int (y1801 + 1)), some (.int y1802)]) (st' := []) (h' := (HX w T)) (cs' := 0) (sl' := 0) rfl ?_
        exact ih0 _ _ _ _ _ _ _ _ h T _
      · refine ev_ic_gt (t := 101) rfl rfl (fun c9 => absurd c9 hc) (fun _ => ?_)
        refine ev_go 3 (pc' := 54) (L' := [some (.ref 0), some (.int y1797), some (.int y1798), some (.int y1799), some (.int y1800), some (.int y1801), some (.int y1802)]) (st' := [.int y1798, .int y1802, .int y1801]) (h' := (HX w T)) (cs' := 0) (sl' := 0) rfl ?_
        obtain ⟨c1816, hq, h⟩ := ai_bdE h
        refine ev_call (M' := mf_isBestTap) (L' := [some (.int y1801), some (.int y1802), some (.int y1798), none, none]) (rest := []) (rv := some (.int c1816)) (h' := (HX w T)) rfl (Ef_isBestTap n y1801 y1802 y1798 _ hq (HX w T)) ?_
        show ai_ev D1 mf_tap 57 [some (.ref 0), some (.int y1797), some (.int y1798), some (.int y1799), some (.int y1800), some (.int y1801), some (.int y1802)] [.int c1816] (HX w T) 0 0 _
        rcases ai_ifE h with ⟨hc, h⟩ | ⟨hc, h⟩
        · refine ev_if_eq (t := 95) rfl rfl (fun _ => ?_) (fun c9 => absurd hc c9)
          refine ev_go 2 (pc' := 42) (L' := [some (.ref 0), some (.int y1797), some (.int y1798), some (.int y1799), some (.int y1800), some (.int y1801), some (.int (y1802 + 1))]) (st' := []) (h' := (HX w T)) (cs' := 0) (sl' := 0) rfl ?_
          exact ih1 _ _ _ _ _ _ _ _ _ h T
        · refine ev_if_eq (t := 95) rfl rfl (fun c9 => absurd c9 hc) (fun _ => ?_)
          refine ev_go 3 (pc' := 65) (L' := [some (.ref 0), some (.int y1797), some (.int y1798), some (.int y1799), some (.int y1800), some (.int y1801), some (.int y1802)]) (st' := [.int y1798, .int y1801, .int y1802]) (h' := (HX w T)) (cs' := 0) (sl' := 0) rfl ?_
          obtain ⟨c1817, hq, h⟩ := ai_bdE h
          refine ev_call (M' := mf_isBestTap) (L' := [some (.int y1802), some (.int y1801), some (.int y1798), none, none]) (rest := []) (rv := some (.int c1817)) (h' := (HX w T)) rfl (Ef_isBestTap n y1802 y1801 y1798 _ hq (HX w T)) ?_
          show ai_ev D1 mf_tap 68 [some (.ref 0), some (.int y1797), some (.int y1798), some (.int y1799), some (.int y1800), some (.int y1801), some (.int y1802)] [.int c1817] (HX w T) 0 0 _
          rcases ai_ifE h with ⟨hc, h⟩ | ⟨hc, h⟩
          · refine ev_if_eq (t := 95) rfl rfl (fun _ => ?_) (fun c9 => absurd hc c9)
            refine ev_go 2 (pc' := 42) (L' := [some (.ref 0), some (.int y1797), some (.int y1798), some (.int y1799), some (.int y1800), some (.int y1801), some (.int (y1802 + 1))]) (st' := []) (h' := (HX w T)) (cs' := 0) (sl' := 0) rfl ?_
            exact ih1 _ _ _ _ _ _ _ _ _ h T
          · refine ev_if_eq (t := 95) rfl rfl (fun c9 => absurd c9 hc) (fun _ => ?_)
            refine ev_go 3 (pc' := 77) (L' := [some (.ref 0), some (.int y1797), some (.int y1798), some (.int (y1799 + 1)), some (.int y1800), some (.int y1801), some (.int y1802)]) (st' := [.int (-1), .int y1800]) (h' := (HX w T)) (cs' := 0) (sl' := 0) rfl ?_
            rcases ai_ifE h with ⟨hc, h⟩ | ⟨hc, h⟩
            · refine ev_ic_ne (t := 91) rfl rfl (fun c9 => absurd hc c9) (fun _ => ?_)
              refine ev_go 9 (pc' := 42) (L' := [some (.ref 0), some (.int y1797), some (.int y1798), some (.int (y1799 + 1)), some (.int ((10 * y1801) + y1802)), some (.int y1801), some (.int (y1802 + 1))]) (st' := []) (h' := (HX w T)) (cs' := 0) (sl' := 0) rfl ?_
              exact ih1 _ _ _ _ _ _ _ _ _ h T
            · refine ev_ic_ne (t := 91) rfl rfl (fun _ => ?_) (fun c9 => absurd c9 hc)
              refine ev_go 4 (pc' := 42) (L' := [some (.ref 0), some (.int y1797), some (.int y1798), some (.int (y1799 + 1)), some (.int y1800), some (.int y1801), some (.int (y1802 + 1))]) (st' := []) (h' := (HX w T)) (cs' := 0) (sl' := 0) rfl ?_
              exact ih1 _ _ _ _ _ _ _ _ _ h T
set_option maxHeartbeats 40000000 in
set_option maxRecDepth 100000 in
theorem Ef_tap_0 (n : Nat) (x1785 : Int32) (w : WX) (r : Int32) (w' : WX) (h : Ff_tap_0 n x1785 w = some (r, w')) (T : ai_H) : ai_ev D1 mf_tap 0 [some (.ref 0), some (.int x1785), none, none, none, none, none] [] (HX w T) 0 0 (some (.int r), HX w' T) := by
  unfold Ff_tap_0 at h
  obtain ⟨ih0, ih1⟩ := EGf_tap_0 n
  refine ev_go 3 (pc' := 3) (L' := [some (.ref 0), some (.int x1785), none, none, none, none, none]) (st' := [.int 1, .int 0, .int x1785]) (h' := (HX w T)) (cs' := 0) (sl' := 0) rfl ?_
  obtain ⟨c1786, hq, h⟩ := ai_bdE h
  refine ev_call (M' := mf_within) (L' := [some (.int x1785), some (.int 0), some (.int 1)]) (rest := []) (rv := some (.int c1786)) (h' := (HX w T)) rfl (Ef_within x1785 0 1 _ hq (HX w T)) ?_
  show ai_ev D1 mf_tap 6 [some (.ref 0), some (.int x1785), none, none, none, none, none] [.int c1786] (HX w T) 0 0 _
  rcases ai_ifE h with ⟨hc, h⟩ | ⟨hc, h⟩
  · refine ev_if_ne (t := 16) rfl rfl (fun c9 => absurd hc c9) (fun _ => ?_)
    refine ev_go 2 (pc' := 12) (L' := [some (.ref 0), some (.int x1785), none, none, none, none, none]) (st' := [.int (-10), .ref 0]) (h' := (HX w T)) (cs' := 0) (sl' := 0) rfl ?_
    obtain ⟨c1791, hq, h⟩ := ai_bdE h
    refine ev_call (M' := mf_bad) (L' := [some (.ref 0), some (.int (-10))]) (rest := []) (rv := some (.int c1791.1)) (h' := (HX c1791.2 T)) rfl (Ef_bad_0 (-10) w _ _ hq T) ?_
    show ai_ev D1 mf_tap 15 [some (.ref 0), some (.int x1785), none, none, none, none, none] [.int c1791.1] (HX c1791.2 T) 0 0 _
    obtain ⟨rfl, rfl⟩ := ai_smP h
    exact ev_end rfl
  · refine ev_if_ne (t := 16) rfl rfl (fun _ => ?_) (fun c9 => absurd c9 hc)
    refine ev_go 2 (pc' := 20) (L' := [some (.ref 0), some (.int x1785), none, none, none, none, none]) (st' := [.ref 1]) (h' := (HX w T)) (cs' := 0) (sl' := 0) rfl ?_
    obtain ⟨c1790, hq, h⟩ := ai_bdE h
    refine ev_call (M' := msea_sweetInAll) (L' := [some (.ref 1), none, none]) (rest := []) (rv := some (.int c1790.1)) (h' := (HX c1790.2 T)) rfl (Esea_sweetInAll_1 n w _ _ hq T) ?_
    show ai_ev D1 mf_tap 23 [some (.ref 0), some (.int x1785), none, none, none, none, none] [.int c1790.1] (HX c1790.2 T) 0 0 _
    refine ev_go 7 (pc' := 32) (L' := [some (.ref 0), some (.int x1785), some (.int c1790.1), some (.int 0), some (.int (-1)), some (.int 0), none]) (st' := []) (h' := (HX c1790.2 T)) (cs' := 0) (sl' := 0) rfl ?_
    exact ih0 _ _ _ _ _ _ _ _ h T _
set_option maxHeartbeats 40000000 in
set_option maxRecDepth 100000 in
theorem EGsea_fitsDrops_1 : ∀ n : Nat, (∀ (y1844 : Int32) (y1845 : Int32) (y1846 : Int32) (w : WX) (r : Int32) (w' : WX), Gsea_fitsDrops_1 n 0 y1844 y1845 y1846 w = some (r, w') → ∀ (T : ai_H) (o4 : Option Value), ai_ev D1 msea_fitsDrops 2 [some (.ref 1), some (.int y1844), some (.int y1845), some (.int y1846), o4] [] (HX w T) 0 0 (some (.int r), HX w' T)) := by
  intro n
  induction n with
  | zero =>
    exact (fun _ _ _ _ _ _ h => by cases h)
  | succ n ih0 =>
    intro y1844 y1845 y1846 w r w' h T o4
    simp only [Gsea_fitsDrops_1] at h
    refine ev_go 3 (pc' := 7) (L' := [some (.ref 1), some (.int y1844), some (.int y1845), some (.int y1846), o4]) (st' := [.int (a_s1_drops w), .int y1846]) (h' := (HX w T)) (cs' := 0) (sl' := 0) rfl ?_
    rcases ai_ifE h with ⟨hc, h⟩ | ⟨hc, h⟩
    · refine ev_ic_ge (t := 62) rfl rfl (fun _ => ?_) (fun c9 => absurd hc c9)
      refine ev_go 1 (pc' := 63) (L' := [some (.ref 1), some (.int y1844), some (.int y1845), some (.int y1846), o4]) (st' := [.int 1]) (h' := (HX w T)) (cs' := 0) (sl' := 0) rfl ?_
      obtain ⟨rfl, rfl⟩ := ai_smP h
      exact ev_end rfl
    · refine ev_ic_ge (t := 62) rfl rfl (fun c9 => absurd c9 hc) (fun _ => ?_)
      refine ev_go 7 (pc' := 21) (L' := [some (.ref 1), some (.int y1844), some (.int y1845), some (.int y1846), o4]) (st' := [.int y1846, .ref 17, .ref 2, .int y1844, .int y1845]) (h' := (HX w T)) (cs' := 0) (sl' := 0) rfl ?_
      obtain ⟨v1847, hq, h⟩ := ai_bdE h
      refine ev_iald rfl rfl hq ?_
      obtain ⟨v1848, hq, h⟩ := ai_bdE h
      refine ev_iald rfl rfl hq ?_
      refine ev_go 1 (pc' := 24) (L' := [some (.ref 1), some (.int y1844), some (.int y1845), some (.int y1846), o4]) (st' := [.int (y1844 * v1848), .int y1845]) (h' := (HX w T)) (cs' := 0) (sl' := 0) rfl ?_
      rcases ai_ifE h with ⟨hc, h⟩ | ⟨hc, h⟩
      · refine ev_ic_gt (t := 31) rfl rfl (fun _ => ?_) (fun c9 => absurd hc c9)
        refine ev_go 6 (pc' := 41) (L' := [some (.ref 1), some (.int y1844), some (.int y1845), some (.int y1846), some (.int 0)]) (st' := [.int y1846, .ref 18, .int 0]) (h' := (HX w T)) (cs' := 0) (sl' := 0) rfl ?_
        obtain ⟨v1849, hq, h⟩ := ai_bdE h
        refine ev_iald rfl rfl hq ?_
        refine ev_go 1 (pc' := 43) (L' := [some (.ref 1), some (.int y1844), some (.int y1845), some (.int y1846), some (.int 0)]) (st' := [.int 1, .int v1849, .int 0]) (h' := (HX w T)) (cs' := 0) (sl' := 0) rfl ?_
        rcases ai_ifE h with ⟨hc, h⟩ | ⟨hc, h⟩
        · refine ev_ic_ne (t := 50) rfl rfl (fun c9 => absurd hc c9) (fun _ => ?_)
          refine ev_go 4 (pc' := 55) (L' := [some (.ref 1), some (.int y1844), some (.int y1845), some (.int y1846), some (.int 0)]) (st' := [.int 0]) (h' := (HX w T)) (cs' := 0) (sl' := 0) rfl ?_
          obtain ⟨rfl, rfl⟩ := ai_smP h
          exact ev_end rfl
        · refine ev_ic_ne (t := 50) rfl rfl (fun _ => ?_) (fun c9 => absurd c9 hc)
          refine ev_go 4 (pc' := 2) (L' := [some (.ref 1), some (.int y1844), some (.int y1845), some (.int (y1846 + 1)), some (.int 0)]) (st' := []) (h' := (HX w T)) (cs' := 0) (sl' := 0) rfl ?_
          exact ih0 _ _ _ _ _ _ h T _
      · refine ev_ic_gt (t := 31) rfl rfl (fun c9 => absurd c9 hc) (fun _ => ?_)
        refine ev_go 7 (pc' := 41) (L' := [some (.ref 1), some (.int y1844), some (.int y1845), some (.int y1846), some (.int 1)]) (st' := [.int y1846, .ref 18, .int 1]) (h' := (HX w T)) (cs' := 0) (sl' := 0) rfl ?_
        obtain ⟨v1850, hq, h⟩ := ai_bdE h
        refine ev_iald rfl rfl hq ?_
        refine ev_go 1 (pc' := 43) (L' := [some (.ref 1), some (.int y1844), some (.int y1845), some (.int y1846), some (.int 1)]) (st' := [.int 1, .int v1850, .int 1]) (h' := (HX w T)) (cs' := 0) (sl' := 0) rfl ?_
        rcases ai_ifE h with ⟨hc, h⟩ | ⟨hc, h⟩
        · refine ev_ic_ne (t := 50) rfl rfl (fun c9 => absurd hc c9) (fun _ => ?_)
          refine ev_go 5 (pc' := 2) (L' := [some (.ref 1), some (.int y1844), some (.int y1845), some (.int (y1846 + 1)), some (.int 1)]) (st' := []) (h' := (HX w T)) (cs' := 0) (sl' := 0) rfl ?_
          exact ih0 _ _ _ _ _ _ h T _
        · refine ev_ic_ne (t := 50) rfl rfl (fun _ => ?_) (fun c9 => absurd c9 hc)
          refine ev_go 3 (pc' := 55) (L' := [some (.ref 1), some (.int y1844), some (.int y1845), some (.int y1846), some (.int 1)]) (st' := [.int 0]) (h' := (HX w T)) (cs' := 0) (sl' := 0) rfl ?_
          obtain ⟨rfl, rfl⟩ := ai_smP h
          exact ev_end rfl
set_option maxHeartbeats 40000000 in
set_option maxRecDepth 100000 in
theorem Esea_fitsDrops_1 (n : Nat) (x1842 : Int32) (x1843 : Int32) (w : WX) (r : Int32) (w' : WX) (h : Fsea_fitsDrops_1 n x1842 x1843 w = some (r, w')) (T : ai_H) : ai_ev D1 msea_fitsDrops 0 [some (.ref 1), some (.int x1842), some (.int x1843), none, none] [] (HX w T) 0 0 (some (.int r), HX w' T) := by
  unfold Fsea_fitsDrops_1 at h
  have ih0 := EGsea_fitsDrops_1 n
  refine ev_go 2 (pc' := 2) (L' := [some (.ref 1), some (.int x1842), some (.int x1843), some (.int 0), none]) (st' := []) (h' := (HX w T)) (cs' := 0) (sl' := 0) rfl ?_
  exact ih0 _ _ _ _ _ _ h T _
set_option maxHeartbeats 40000000 in
set_option maxRecDepth 100000 in
theorem EGf_nextToTry_0 : ∀ n : Nat, (∀ (y1830 : Int32) (y1831 : Int32) (y1832 : Int32) (y1833 : Int32) (y1834 : Int32) (w : WX) (r : Int32) (w' : WX), Gf_nextToTry_0 n 0 y1830 y1831 y1832 y1833 y1834 0 0 w = some (r, w') → ∀ (T : ai_H) (o6 o7 : Option Value), ai_ev D1 mf_nextToTry 10 [some (.ref 0), some (.int y1830), some (.int y1831), some (.int y1832), some (.int y1833), some (.int y1834), o6, o7] [] (HX w T) 0 0 (some (.int r), HX w' T)) ∧ (∀ (y1835 : Int32) (y1836 : Int32) (y1837 : Int32) (y1838 : Int32) (y1839 : Int32) (y1840 : Int32) (y1841 : Int32) (w : WX) (r : Int32) (w' : WX), Gf_nextToTry_0 n 1 y1835 y1836 y1837 y1838 y1839 y1840 y1841 w = some (r, w') → ∀ (T : ai_H), ai_ev D1 mf_nextToTry 22 [some (.ref 0), some (.int y1835), some (.int y1836), some (.int y1837), some (.int y1838), some (.int y1839), some (.int y1840), some (.int y1841)] [] (HX w T) 0 0 (some (.int r), HX w' T)) := by
  intro n
  induction n with
  | zero =>
    exact ⟨(fun _ _ _ _ _ _ _ _ h => by cases h), (fun _ _ _ _ _ _ _ _ _ _ h => by cases h)⟩
  | succ n ih =>
    obtain ⟨ih0, ih1⟩ := ih
    refine ⟨?_, ?_⟩
    · intro y1830 y1831 y1832 y1833 y1834 w r w' h T o6 o7
      simp only [Gf_nextToTry_0] at h
      refine ev_go 2 (pc' := 13) (L' := [some (.ref 0), some (.int y1830), some (.int y1831), some (.int y1832), some (.int y1833), some (.int y1834), o6, o7]) (st' := [.int 4, .int y1834]) (h' := (HX w T)) (cs' := 0) (sl' := 0) rfl ?_
      rcases ai_ifE h with ⟨hc, h⟩ | ⟨hc, h⟩
      · refine ev_ic_ge (t := 99) rfl rfl (fun _ => ?_) (fun c9 => absurd hc c9)
        refine ev_go 1 (pc' := 100) (L' := [some (.ref 0), some (.int y1830), some (.int y1831), some (.int y1832), some (.int y1833), some (.int y1834), o6, o7]) (st' := [.int y1832]) (h' := (HX w T)) (cs' := 0) (sl' := 0) rfl ?_
        obtain ⟨rfl, rfl⟩ := ai_smP h
        exact ev_end rfl
      · refine ev_ic_ge (t := 99) rfl rfl (fun c9 => absurd c9 hc) (fun _ => ?_)
        refine ev_go 4 (pc' := 22) (L' := [some (.ref 0), some (.int y1830), some (.int y1831), some (.int y1832), some (.int y1833), some (.int y1834), some (.int 0), some (.int 1)]) (st' := []) (h' := (HX w T)) (cs' := 0) (sl' := 0) rfl ?_
        exact ih1 _ _ _ _ _ _ _ _ _ _ h T
    · intro y1835 y1836 y1837 y1838 y1839 y1840 y1841 w r w' h T
      simp only [Gf_nextToTry_0] at h
      refine ev_go 2 (pc' := 26) (L' := [some (.ref 0), some (.int y1835), some (.int y1836), some (.int y1837), some (.int y1838), some (.int y1839), some (.int y1840), some (.int y1841)]) (st' := [.int 99, .int y1841]) (h' := (HX w T)) (cs' := 0) (sl' := 0) rfl ?_
      rcases ai_ifE h with ⟨hc, h⟩ | ⟨hc, h⟩
      · refine ev_ic_gt (t := 68) rfl rfl (fun _ => ?_) (fun c9 => absurd hc c9)
        refine ev_go 8 (pc' := 83) (L' := [some (.ref 0), some (.int y1835), some (.int y1836), some (.int y1837), some (.int y1838), some (.int y1839), some (.int y1840), some (.int (if y1840 < (y1836 - y1840) then (y1836 - y1840) else y1840))]) (st' := [.int y1838, .int (if y1840 < (y1836 - y1840) then (y1836 - y1840) else y1840)]) (h' := (HX w T)) (cs' := 0) (sl' := 0) rfl ?_
        rcases ai_ifE h with ⟨hc, h⟩ | ⟨hc, h⟩
        · refine ev_ic_ge (t := 93) rfl rfl (fun _ => ?_) (fun c9 => absurd hc c9)
          refine ev_go 2 (pc' := 10) (L' := [some (.ref 0), some (.int y1835), some (.int y1836), some (.int y1837), some (.int y1838), some (.int (y1839 + 1)), some (.int y1840), some (.int (if y1840 < (y1836 - y1840) then (y1836 - y1840) else y1840))]) (st' := []) (h' := (HX w T)) (cs' := 0) (sl' := 0) rfl ?_
          exact ih0 _ _ _ _ _ _ _ _ h T _ _
        · refine ev_ic_ge (t := 93) rfl rfl (fun c9 => absurd c9 hc) (fun _ => ?_)
          refine ev_go 6 (pc' := 10) (L' := [some (.ref 0), some (.int y1835), some (.int y1836), some (.int y1839), some (.int (if y1840 < (y1836 - y1840) then (y1836 - y1840) else y1840)), some (.int (y1839 + 1)), some (.int y1840), some (.int (if y1840 < (y1836 - y1840) then (y1836 - y1840) else y1840))]) (st' := []) (h' := (HX w T)) (cs' := 0) (sl' := 0) rfl ?_
          exact ih0 _ _ _ _ _ _ _ _ h T _ _
      · refine ev_ic_gt (t := 68) rfl rfl (fun c9 => absurd c9 hc) (fun _ => ?_)
        refine ev_go 4 (pc' := 36) (L' := [some (.ref 0), some (.int y1835), some (.int y1836), some (.int y1837), some (.int y1838), some (.int y1839), some (.int y1840), some (.int y1841)]) (st' := [.int y1841, .int y1835, .ref 1]) (h' := (HX w T)) (cs' := 0) (sl' := 0) rfl ?_
        obtain ⟨c1851, hq, h⟩ := ai_bdE h
        refine ev_call (M' := msea_fitsDrops) (L' := [some (.ref 1), some (.int y1835), some (.int y1841), none, none]) (rest := []) (rv := some (.int c1851.1)) (h' := (HX c1851.2 T)) rfl (Esea_fitsDrops_1 n y1835 y1841 w _ _ hq T) ?_
        show ai_ev D1 mf_nextToTry 39 [some (.ref 0), some (.int y1835), some (.int y1836), some (.int y1837), some (.int y1838), some (.int y1839), some (.int y1840), some (.int y1841)] [.int c1851.1] (HX c1851.2 T) 0 0 _
        rcases ai_ifE h with ⟨hc, h⟩ | ⟨hc, h⟩
        · refine ev_if_eq (t := 62) rfl rfl (fun _ => ?_) (fun c9 => absurd hc c9)
          refine ev_go 2 (pc' := 22) (L' := [some (.ref 0), some (.int y1835), some (.int y1836), some (.int y1837), some (.int y1838), some (.int y1839), some (.int y1840), some (.int (y1841 + 1))]) (st' := []) (h' := (HX c1851.2 T)) (cs' := 0) (sl' := 0) rfl ?_
          exact ih1 _ _ _ _ _ _ _ _ _ _ h T
        · refine ev_if_eq (t := 62) rfl rfl (fun c9 => absurd c9 hc) (fun _ => ?_)
          refine ev_go 6 (pc' := 54) (L' := [some (.ref 0), some (.int y1835), some (.int y1836), some (.int y1837), some (.int y1838), some (.int y1839), some (.int y1840), some (.int y1841)]) (st' := [.int y1839, .ref 2, .int y1835, .int y1841]) (h' := (HX c1851.2 T)) (cs' := 0) (sl' := 0) rfl ?_
          obtain ⟨v1852, hq, h⟩ := ai_bdE h
          refine ev_iald rfl rfl hq ?_
          refine ev_go 1 (pc' := 56) (L' := [some (.ref 0), some (.int y1835), some (.int y1836), some (.int y1837), some (.int y1838), some (.int y1839), some (.int y1840), some (.int y1841)]) (st' := [.int (y1835 * v1852), .int y1841]) (h' := (HX c1851.2 T)) (cs' := 0) (sl' := 0) rfl ?_
          rcases ai_ifE h with ⟨hc, h⟩ | ⟨hc, h⟩
          · refine ev_ic_gt (t := 62) rfl rfl (fun _ => ?_) (fun c9 => absurd hc c9)
            refine ev_go 2 (pc' := 22) (L' := [some (.ref 0), some (.int y1835), some (.int y1836), some (.int y1837), some (.int y1838), some (.int y1839), some (.int y1840), some (.int (y1841 + 1))]) (st' := []) (h' := (HX c1851.2 T)) (cs' := 0) (sl' := 0) rfl ?_
            exact ih1 _ _ _ _ _ _ _ _ _ _ h T
          · refine ev_ic_gt (t := 62) rfl rfl (fun c9 => absurd c9 hc) (fun _ => ?_)
            refine ev_go 3 (pc' := 22) (L' := [some (.ref 0), some (.int y1835), some (.int y1836), some (.int y1837), some (.int y1838), some (.int y1839), some (.int (y1840 + 1)), some (.int (y1841 + 1))]) (st' := []) (h' := (HX c1851.2 T)) (cs' := 0) (sl' := 0) rfl ?_
            exact ih1 _ _ _ _ _ _ _ _ _ _ h T
set_option maxHeartbeats 40000000 in
set_option maxRecDepth 100000 in
theorem Ef_nextToTry_0 (n : Nat) (x1828 : Int32) (x1829 : Int32) (w : WX) (r : Int32) (w' : WX) (h : Ff_nextToTry_0 n x1828 x1829 w = some (r, w')) (T : ai_H) : ai_ev D1 mf_nextToTry 0 [some (.ref 0), some (.int x1828), some (.int x1829), none, none, none, none, none] [] (HX w T) 0 0 (some (.int r), HX w' T) := by
  unfold Ff_nextToTry_0 at h
  obtain ⟨ih0, ih1⟩ := EGf_nextToTry_0 n
  refine ev_go 8 (pc' := 10) (L' := [some (.ref 0), some (.int x1828), some (.int x1829), some (.int (-1)), some (.int (x1829 + 1)), some (.int 0), none, none]) (st' := []) (h' := (HX w T)) (cs' := 0) (sl' := 0) rfl ?_
  exact ih0 _ _ _ _ _ _ _ _ h T _ _
set_option maxHeartbeats 40000000 in
set_option maxRecDepth 100000 in
theorem EGf_known_0 : ∀ n : Nat, (∀ (y1824 : Int32) (y1825 : Int32) (y1826 : Int32) (y1827 : Int32) (w : WX) (r : Int32) (w' : WX), Gf_known_0 n 0 y1824 y1825 y1826 y1827 w = some (r, w') → ∀ (T : ai_H), ai_ev D1 mf_known 31 [some (.ref 0), some (.int y1824), some (.int y1825), some (.int y1826), some (.int y1827)] [] (HX w T) 0 0 (some (.int r), HX w' T)) := by
  intro n
  induction n with
  | zero =>
    exact (fun _ _ _ _ _ _ _ h => by cases h)
  | succ n ih0 =>
    intro y1824 y1825 y1826 y1827 w r w' h T
    simp only [Gf_known_0] at h
    refine ev_go 2 (pc' := 35) (L' := [some (.ref 0), some (.int y1824), some (.int y1825), some (.int y1826), some (.int y1827)]) (st' := [.int 99, .int y1827]) (h' := (HX w T)) (cs' := 0) (sl' := 0) rfl ?_
    rcases ai_ifE h with ⟨hc, h⟩ | ⟨hc, h⟩
    · refine ev_ic_gt (t := 60) rfl rfl (fun _ => ?_) (fun c9 => absurd hc c9)
      refine ev_go 1 (pc' := 61) (L' := [some (.ref 0), some (.int y1824), some (.int y1825), some (.int y1826), some (.int y1827)]) (st' := [.int y1825]) (h' := (HX w T)) (cs' := 0) (sl' := 0) rfl ?_
      rcases ai_ifE h with ⟨hc, h⟩ | ⟨hc, h⟩
      · refine ev_if_ne (t := 66) rfl rfl (fun c9 => absurd hc c9) (fun _ => ?_)
        refine ev_go 1 (pc' := 65) (L' := [some (.ref 0), some (.int y1824), some (.int y1825), some (.int y1826), some (.int y1827)]) (st' := [.int y1826]) (h' := (HX w T)) (cs' := 0) (sl' := 0) rfl ?_
        obtain ⟨rfl, rfl⟩ := ai_smP h
        exact ev_end rfl
      · refine ev_if_ne (t := 66) rfl rfl (fun _ => ?_) (fun c9 => absurd c9 hc)
        refine ev_go 1 (pc' := 67) (L' := [some (.ref 0), some (.int y1824), some (.int y1825), some (.int y1826), some (.int y1827)]) (st' := [.int y1826]) (h' := (HX w T)) (cs' := 0) (sl' := 0) rfl ?_
        rcases ai_ifE h with ⟨hc, h⟩ | ⟨hc, h⟩
        · refine ev_if_ne (t := 74) rfl rfl (fun c9 => absurd hc c9) (fun _ => ?_)
          refine ev_go 2 (pc' := 80) (L' := [some (.ref 0), some (.int y1824), some (.int y1825), some (.int y1826), some (.int y1827)]) (st' := [.int (-1)]) (h' := (HX w T)) (cs' := 0) (sl' := 0) rfl ?_
          obtain ⟨rfl, rfl⟩ := ai_smP h
          exact ev_end rfl
        · refine ev_if_ne (t := 74) rfl rfl (fun _ => ?_) (fun c9 => absurd c9 hc)
          refine ev_go 3 (pc' := 77) (L' := [some (.ref 0), some (.int y1824), some (.int y1825), some (.int y1826), some (.int y1827)]) (st' := [.int y1826, .int y1824, .ref 0]) (h' := (HX w T)) (cs' := 0) (sl' := 0) rfl ?_
          obtain ⟨c1853, hq, h⟩ := ai_bdE h
          refine ev_call (M' := mf_nextToTry) (L' := [some (.ref 0), some (.int y1824), some (.int y1826), none, none, none, none, none]) (rest := []) (rv := some (.int c1853.1)) (h' := (HX c1853.2 T)) rfl (Ef_nextToTry_0 n y1824 y1826 w _ _ hq T) ?_
          show ai_ev D1 mf_known 80 [some (.ref 0), some (.int y1824), some (.int y1825), some (.int y1826), some (.int y1827)] [.int c1853.1] (HX c1853.2 T) 0 0 _
          obtain ⟨rfl, rfl⟩ := ai_smP h
          exact ev_end rfl
    · refine ev_ic_gt (t := 60) rfl rfl (fun c9 => absurd c9 hc) (fun _ => ?_)
      refine ev_go 4 (pc' := 45) (L' := [some (.ref 0), some (.int y1824), some (.int y1825), some (.int y1826), some (.int y1827)]) (st' := [.int y1827, .int y1824, .ref 1]) (h' := (HX w T)) (cs' := 0) (sl' := 0) rfl ?_
      obtain ⟨c1854, hq, h⟩ := ai_bdE h
      refine ev_call (M' := msea_fitsDrops) (L' := [some (.ref 1), some (.int y1824), some (.int y1827), none, none]) (rest := []) (rv := some (.int c1854.1)) (h' := (HX c1854.2 T)) rfl (Esea_fitsDrops_1 n y1824 y1827 w _ _ hq T) ?_
      show ai_ev D1 mf_known 48 [some (.ref 0), some (.int y1824), some (.int y1825), some (.int y1826), some (.int y1827)] [.int c1854.1] (HX c1854.2 T) 0 0 _
      rcases ai_ifE h with ⟨hc, h⟩ | ⟨hc, h⟩
      · refine ev_if_eq (t := 54) rfl rfl (fun _ => ?_) (fun c9 => absurd hc c9)
        refine ev_go 2 (pc' := 31) (L' := [some (.ref 0), some (.int y1824), some (.int y1825), some (.int y1826), some (.int (y1827 + 1))]) (st' := []) (h' := (HX c1854.2 T)) (cs' := 0) (sl' := 0) rfl ?_
        exact ih0 _ _ _ _ _ _ _ h T
      · refine ev_if_eq (t := 54) rfl rfl (fun c9 => absurd c9 hc) (fun _ => ?_)
        refine ev_go 3 (pc' := 31) (L' := [some (.ref 0), some (.int y1824), some (.int y1825), some (.int (y1826 + 1)), some (.int (y1827 + 1))]) (st' := []) (h' := (HX c1854.2 T)) (cs' := 0) (sl' := 0) rfl ?_
        exact ih0 _ _ _ _ _ _ _ h T
set_option maxHeartbeats 40000000 in
set_option maxRecDepth 100000 in
theorem Ef_known_0 (n : Nat) (x1818 : Int32) (x1819 : Int32) (w : WX) (r : Int32) (w' : WX) (h : Ff_known_0 n x1818 x1819 w = some (r, w')) (T : ai_H) : ai_ev D1 mf_known 0 [some (.ref 0), some (.int x1818), some (.int x1819), none, none] [] (HX w T) 0 0 (some (.int r), HX w' T) := by
  unfold Ff_known_0 at h
  have ih0 := EGf_known_0 n
  refine ev_go 3 (pc' := 4) (L' := [some (.ref 0), some (.int x1818), some (.int x1819), none, none]) (st' := [.int 9, .int 1, .int x1818]) (h' := (HX w T)) (cs' := 0) (sl' := 0) rfl ?_
  obtain ⟨c1820, hq, h⟩ := ai_bdE h
  refine ev_call (M' := mf_within) (L' := [some (.int x1818), some (.int 1), some (.int 9)]) (rest := []) (rv := some (.int c1820)) (h' := (HX w T)) rfl (Ef_within x1818 1 9 _ hq (HX w T)) ?_
  show ai_ev D1 mf_known 7 [some (.ref 0), some (.int x1818), some (.int x1819), none, none] [.int c1820] (HX w T) 0 0 _
  rcases ai_ifE h with ⟨hc, h⟩ | ⟨hc, h⟩
  · refine ev_if_eq (t := 19) rfl rfl (fun _ => ?_) (fun c9 => absurd hc c9)
    refine ev_go 2 (pc' := 22) (L' := [some (.ref 0), some (.int x1818), some (.int x1819), none, none]) (st' := [.int (-10), .ref 0]) (h' := (HX w T)) (cs' := 0) (sl' := 0) rfl ?_
    obtain ⟨c1821, hq, h⟩ := ai_bdE h
    refine ev_call (M' := mf_bad) (L' := [some (.ref 0), some (.int (-10))]) (rest := []) (rv := some (.int c1821.1)) (h' := (HX c1821.2 T)) rfl (Ef_bad_0 (-10) w _ _ hq T) ?_
    show ai_ev D1 mf_known 25 [some (.ref 0), some (.int x1818), some (.int x1819), none, none] [.int c1821.1] (HX c1821.2 T) 0 0 _
    obtain ⟨rfl, rfl⟩ := ai_smP h
    exact ev_end rfl
  · refine ev_if_eq (t := 19) rfl rfl (fun c9 => absurd c9 hc) (fun _ => ?_)
    refine ev_go 3 (pc' := 13) (L' := [some (.ref 0), some (.int x1818), some (.int x1819), none, none]) (st' := [.int 1, .int 0, .int x1819]) (h' := (HX w T)) (cs' := 0) (sl' := 0) rfl ?_
    obtain ⟨c1822, hq, h⟩ := ai_bdE h
    refine ev_call (M' := mf_within) (L' := [some (.int x1819), some (.int 0), some (.int 1)]) (rest := []) (rv := some (.int c1822)) (h' := (HX w T)) rfl (Ef_within x1819 0 1 _ hq (HX w T)) ?_
    show ai_ev D1 mf_known 16 [some (.ref 0), some (.int x1818), some (.int x1819), none, none] [.int c1822] (HX w T) 0 0 _
    rcases ai_ifE h with ⟨hc, h⟩ | ⟨hc, h⟩
    · refine ev_if_ne (t := 26) rfl rfl (fun c9 => absurd hc c9) (fun _ => ?_)
      refine ev_go 2 (pc' := 22) (L' := [some (.ref 0), some (.int x1818), some (.int x1819), none, none]) (st' := [.int (-10), .ref 0]) (h' := (HX w T)) (cs' := 0) (sl' := 0) rfl ?_
      obtain ⟨c1823, hq, h⟩ := ai_bdE h
      refine ev_call (M' := mf_bad) (L' := [some (.ref 0), some (.int (-10))]) (rest := []) (rv := some (.int c1823.1)) (h' := (HX c1823.2 T)) rfl (Ef_bad_0 (-10) w _ _ hq T) ?_
      show ai_ev D1 mf_known 25 [some (.ref 0), some (.int x1818), some (.int x1819), none, none] [.int c1823.1] (HX c1823.2 T) 0 0 _
      obtain ⟨rfl, rfl⟩ := ai_smP h
      exact ev_end rfl
    · refine ev_if_ne (t := 26) rfl rfl (fun _ => ?_) (fun c9 => absurd c9 hc)
      refine ev_go 4 (pc' := 31) (L' := [some (.ref 0), some (.int x1818), some (.int x1819), some (.int 0), some (.int 1)]) (st' := []) (h' := (HX w T)) (cs' := 0) (sl' := 0) rfl ?_
      exact ih0 _ _ _ _ _ _ _ h T
set_option maxHeartbeats 40000000 in
set_option maxRecDepth 100000 in
theorem EGf_putFraction_0 : ∀ n : Nat, (∀ (y1886 : Int64) (y1887 : Int64) (y1888 : Int64) (y1889 : Int64) (y1890 : Int32) (w : WX) (w' : WX), Gf_putFraction_0 n 0 y1890 y1886 y1887 y1888 y1889 w = some w' → ∀ (T : ai_H) (o10 o11 : Option Value), ai_ev D1 mf_putFraction 9 [some (.ref 0), some (.long y1886), none, some (.long y1887), none, some (.long y1888), none, some (.long y1889), none, some (.int y1890), o10, o11] [] (HX w T) 0 0 (none, HX w' T)) := by
  intro n
  induction n with
  | zero =>
    exact (fun _ _ _ _ _ _ _ h => by cases h)
  | succ n ih0 =>
    intro y1886 y1887 y1888 y1889 y1890 w w' h T o10 o11
    simp only [Gf_putFraction_0] at h
    refine ev_go 2 (pc' := 14) (L' := [some (.ref 0), some (.long y1886), none, some (.long y1887), none, some (.long y1888), none, some (.long y1889), none, some (.int y1890), o10, o11]) (st' := [.int 1000, .int y1890]) (h' := (HX w T)) (cs' := 0) (sl' := 0) rfl ?_
    rcases ai_ifE h with ⟨hc, h⟩ | ⟨hc, h⟩
    · refine ev_ic_ge (t := 45) rfl rfl (fun _ => ?_) (fun c9 => absurd hc c9)
      refine ev_go 3 (pc' := 49) (L' := [some (.ref 0), some (.long y1886), none, some (.long y1887), none, some (.long y1888), none, some (.long y1889), none, some (.int y1890), o10, o11]) (st' := [.int (lg_cmp y1888 0)]) (h' := (HX w T)) (cs' := 0) (sl' := 0) rfl ?_
      rcases ai_ifE h with ⟨hc, h⟩ | ⟨hc, h⟩
      · refine ev_if_ne (t := 56) rfl rfl (fun c9 => absurd hc c9) (fun _ => ?_)
        refine ev_go 7 (pc' := 65) (L' := [some (.ref 0), some (.long y1886), none, some (.long y1887), none, some (.long y1888), none, some (.long y1889), none, some (.long 1), none, o11]) (st' := [.long (y1886 / 1), .ref 0]) (h' := (HX w T)) (cs' := 0) (sl' := 0) rfl ?_
        refine ev_step rfl rfl rfl (PFX_7_61_0 rfl) ?_
        refine ev_go 4 (pc' := 73) (L' := [some (.ref 0), some (.long y1886), none, some (.long y1887), none, some (.long y1888), none, some (.long y1889), none, some (.long 1), none, o11]) (st' := [.long (y1887 / 1), .ref 0]) (h' := (HX (u_f_above w (y1886 / 1)) T)) (cs' := 0) (sl' := 0) rfl ?_
        refine ev_step rfl rfl rfl (PFX_7_65_0 rfl) ?_
        obtain rfl := Option.some.inj h
        exact ev_end rfl
      · refine ev_if_ne (t := 56) rfl rfl (fun _ => ?_) (fun c9 => absurd c9 hc)
        refine ev_go 5 (pc' := 64) (L' := [some (.ref 0), some (.long y1886), none, some (.long y1887), none, some (.long y1888), none, some (.long y1889), none, some (.long y1888), none, o11]) (st' := [.long y1888, .long y1886, .ref 0]) (h' := (HX w T)) (cs' := 0) (sl' := 0) rfl ?_
        obtain ⟨hc, h⟩ := ai_ifN h
        refine ev_ldiv rfl hc ?_
        refine ev_step rfl rfl rfl (PFX_7_61_0 rfl) ?_
        refine ev_go 3 (pc' := 72) (L' := [some (.ref 0), some (.long y1886), none, some (.long y1887), none, some (.long y1888), none, some (.long y1889), none, some (.long y1888), none, o11]) (st' := [.long y1888, .long y1887, .ref 0]) (h' := (HX (u_f_above w (y1886 / y1888)) T)) (cs' := 0) (sl' := 0) rfl ?_
        obtain ⟨hc, h⟩ := ai_ifN h
        refine ev_ldiv rfl hc ?_
        refine ev_step rfl rfl rfl (PFX_7_65_0 rfl) ?_
        obtain rfl := Option.some.inj h
        exact ev_end rfl
    · refine ev_ic_ge (t := 45) rfl rfl (fun c9 => absurd c9 hc) (fun _ => ?_)
      refine ev_go 3 (pc' := 21) (L' := [some (.ref 0), some (.long y1886), none, some (.long y1887), none, some (.long y1888), none, some (.long y1889), none, some (.int y1890), o10, o11]) (st' := [.int (lg_cmp y1889 0)]) (h' := (HX w T)) (cs' := 0) (sl' := 0) rfl ?_
      rcases ai_ifE h with ⟨hc, h⟩ | ⟨hc, h⟩
      · refine ev_if_eq (t := 45) rfl rfl (fun _ => ?_) (fun c9 => absurd hc c9)
        refine ev_go 3 (pc' := 49) (L' := [some (.ref 0), some (.long y1886), none, some (.long y1887), none, some (.long y1888), none, some (.long y1889), none, some (.int y1890), o10, o11]) (st' := [.int (lg_cmp y1888 0)]) (h' := (HX w T)) (cs' := 0) (sl' := 0) rfl ?_
        rcases ai_ifE h with ⟨hc, h⟩ | ⟨hc, h⟩
        · refine ev_if_ne (t := 56) rfl rfl (fun c9 => absurd hc c9) (fun _ => ?_)
          refine ev_go 7 (pc' := 65) (L' := [some (.ref 0), some (.long y1886), none, some (.long y1887), none, some (.long y1888), none, some (.long y1889), none, some (.long 1), none, o11]) (st' := [.long (y1886 / 1), .ref 0]) (h' := (HX w T)) (cs' := 0) (sl' := 0) rfl ?_
          refine ev_step rfl rfl rfl (PFX_7_61_0 rfl) ?_
          refine ev_go 4 (pc' := 73) (L' := [some (.ref 0), some (.long y1886), none, some (.long y1887), none, some (.long y1888), none, some (.long y1889), none, some (.long 1), none, o11]) (st' := [.long (y1887 / 1), .ref 0]) (h' := (HX (u_f_above w (y1886 / 1)) T)) (cs' := 0) (sl' := 0) rfl ?_
          refine ev_step rfl rfl rfl (PFX_7_65_0 rfl) ?_
          obtain rfl := Option.some.inj h
          exact ev_end rfl
        · refine ev_if_ne (t := 56) rfl rfl (fun _ => ?_) (fun c9 => absurd c9 hc)
          refine ev_go 5 (pc' := 64) (L' := [some (.ref 0), some (.long y1886), none, some (.long y1887), none, some (.long y1888), none, some (.long y1889), none, some (.long y1888), none, o11]) (st' := [.long y1888, .long y1886, .ref 0]) (h' := (HX w T)) (cs' := 0) (sl' := 0) rfl ?_
          obtain ⟨hc, h⟩ := ai_ifN h
          refine ev_ldiv rfl hc ?_
          refine ev_step rfl rfl rfl (PFX_7_61_0 rfl) ?_
          refine ev_go 3 (pc' := 72) (L' := [some (.ref 0), some (.long y1886), none, some (.long y1887), none, some (.long y1888), none, some (.long y1889), none, some (.long y1888), none, o11]) (st' := [.long y1888, .long y1887, .ref 0]) (h' := (HX (u_f_above w (y1886 / y1888)) T)) (cs' := 0) (sl' := 0) rfl ?_
          obtain ⟨hc, h⟩ := ai_ifN h
          refine ev_ldiv rfl hc ?_
          refine ev_step rfl rfl rfl (PFX_7_65_0 rfl) ?_
          obtain rfl := Option.some.inj h
          exact ev_end rfl
      · refine ev_if_eq (t := 45) rfl rfl (fun c9 => absurd c9 hc) (fun _ => ?_)
        refine ev_go 2 (pc' := 28) (L' := [some (.ref 0), some (.long y1886), none, some (.long y1887), none, some (.long y1888), none, some (.long y1889), none, some (.int y1890), o10, o11]) (st' := [.long y1889, .long y1888]) (h' := (HX w T)) (cs' := 0) (sl' := 0) rfl ?_
        obtain ⟨hc, h⟩ := ai_ifN h
        refine ev_lrem rfl hc ?_
        refine ev_go 7 (pc' := 9) (L' := [some (.ref 0), some (.long y1886), none, some (.long y1887), none, some (.long y1889), none, some (.long (y1888 - y1888 / y1889 * y1889)), none, some (.int (y1890 + 1)), some (.long (y1888 - y1888 / y1889 * y1889)), none]) (st' := []) (h' := (HX w T)) (cs' := 0) (sl' := 0) rfl ?_
        exact ih0 _ _ _ _ _ _ _ h T _ _
set_option maxHeartbeats 40000000 in
set_option maxRecDepth 100000 in
theorem Ef_putFraction_0 (n : Nat) (x1884 : Int64) (x1885 : Int64) (w : WX) (w' : WX) (h : Ff_putFraction_0 n x1884 x1885 w = some w') (T : ai_H) : ai_ev D1 mf_putFraction 0 [some (.ref 0), some (.long x1884), none, some (.long x1885), none, none, none, none, none, none, none, none] [] (HX w T) 0 0 (none, HX w' T) := by
  unfold Ff_putFraction_0 at h
  have ih0 := EGf_putFraction_0 n
  refine ev_go 6 (pc' := 9) (L' := [some (.ref 0), some (.long x1884), none, some (.long x1885), none, some (.long x1885), none, some (.long x1884), none, some (.int 0), none, none]) (st' := []) (h' := (HX w T)) (cs' := 0) (sl' := 0) rfl ?_
  exact ih0 _ _ _ _ _ _ _ h T _ _
set_option maxHeartbeats 40000000 in
set_option maxRecDepth 100000 in
theorem EGf_chanceOf : ∀ n : Nat, (∀ (y1896 : Int32) (y1897 : Int64) (y1898 : Int64) (y1899 : Int64) (y1900 : Int32) (r : Int64), Gf_chanceOf n 0 y1896 y1900 y1897 y1898 y1899 = some r → ∀ (hh : ai_H), ai_ev D1 mf_chanceOf 6 [some (.int y1896), some (.long y1897), none, some (.long y1898), none, some (.long y1899), none, some (.int y1900)] [] hh 0 0 (some (.long r), hh)) := by
  intro n
  induction n with
  | zero =>
    exact (fun _ _ _ _ _ _ h => by cases h)
  | succ n ih0 =>
    intro y1896 y1897 y1898 y1899 y1900 r h hh
    simp only [Gf_chanceOf] at h
    refine ev_go 2 (pc' := 9) (L' := [some (.int y1896), some (.long y1897), none, some (.long y1898), none, some (.long y1899), none, some (.int y1900)]) (st' := [.int 3, .int y1900]) (h' := hh) (cs' := 0) (sl' := 0) rfl ?_
    rcases ai_ifE h with ⟨hc, h⟩ | ⟨hc, h⟩
    · refine ev_ic_ge (t := 40) rfl rfl (fun _ => ?_) (fun c9 => absurd hc c9)
      refine ev_go 1 (pc' := 42) (L' := [some (.int y1896), some (.long y1897), none, some (.long y1898), none, some (.long y1899), none, some (.int y1900)]) (st' := [.long y1899]) (h' := hh) (cs' := 0) (sl' := 0) rfl ?_
      obtain rfl := Option.some.inj h
      exact ev_end rfl
    · refine ev_ic_ge (t := 40) rfl rfl (fun c9 => absurd c9 hc) (fun _ => ?_)
      refine ev_go 7 (pc' := 21) (L' := [some (.int y1896), some (.long y1897), none, some (.long y1898), none, some (.long y1899), none, some (.int y1900)]) (st' := [.int 1, .int ((y1896 >>> (y1900 &&& 31)) &&& 1), .long y1899]) (h' := hh) (cs' := 0) (sl' := 0) rfl ?_
      rcases ai_ifE h with ⟨hc, h⟩ | ⟨hc, h⟩
      · refine ev_ic_ne (t := 30) rfl rfl (fun c9 => absurd hc c9) (fun _ => ?_)
        refine ev_go 8 (pc' := 6) (L' := [some (.int y1896), some (.long y1897), none, some (.long y1898), none, some (.long (y1899 * (y1897 - y1898))), none, some (.int (y1900 + 1))]) (st' := []) (h' := hh) (cs' := 0) (sl' := 0) rfl ?_
        exact ih0 _ _ _ _ _ _ h hh
      · refine ev_ic_ne (t := 30) rfl rfl (fun _ => ?_) (fun c9 => absurd c9 hc)
        refine ev_go 5 (pc' := 6) (L' := [some (.int y1896), some (.long y1897), none, some (.long y1898), none, some (.long (y1899 * y1898)), none, some (.int (y1900 + 1))]) (st' := []) (h' := hh) (cs' := 0) (sl' := 0) rfl ?_
        exact ih0 _ _ _ _ _ _ h hh
set_option maxHeartbeats 40000000 in
set_option maxRecDepth 100000 in
theorem Ef_chanceOf (n : Nat) (x1893 : Int32) (x1894 : Int64) (x1895 : Int64) (r : Int64) (h : Ff_chanceOf n x1893 x1894 x1895 = some r) (hh : ai_H) : ai_ev D1 mf_chanceOf 0 [some (.int x1893), some (.long x1894), none, some (.long x1895), none, none, none, none] [] hh 0 0 (some (.long r), hh) := by
  unfold Ff_chanceOf at h
  have ih0 := EGf_chanceOf n
  refine ev_go 4 (pc' := 6) (L' := [some (.int x1893), some (.long x1894), none, some (.long x1895), none, some (.long 1), none, some (.int 0)]) (st' := []) (h' := hh) (cs' := 0) (sl' := 0) rfl ?_
  exact ih0 _ _ _ _ _ _ h hh
set_option maxHeartbeats 40000000 in
set_option maxRecDepth 100000 in
theorem EGf_storm_0 : ∀ n : Nat, (∀ (y1867 : Int32) (y1868 : Int32) (y1869 : Int32) (y1870 : Int32) (y1871 : Int64) (y1872 : Int64) (y1873 : Int32) (w : WX) (r : Int32) (w' : WX), Gf_storm_0 n 0 y1867 y1868 y1869 y1870 y1873 0 y1871 y1872 0 w = some (r, w') → ∀ (T : ai_H) (o10 o11 o12 : Option Value), ai_ev D1 mf_storm 61 [some (.ref 0), some (.int y1867), some (.int y1868), some (.int y1869), some (.int y1870), some (.long y1871), none, some (.long y1872), none, some (.int y1873), o10, o11, o12] [] (HX w T) 0 0 (some (.int r), HX w' T)) ∧ (∀ (y1875 : Int32) (y1876 : Int32) (y1877 : Int32) (y1878 : Int32) (y1879 : Int64) (y1880 : Int64) (y1881 : Int32) (y1882 : Int64) (y1883 : Int32) (w : WX) (r : Int32) (w' : WX), Gf_storm_0 n 1 y1875 y1876 y1877 y1878 y1881 y1883 y1879 y1880 y1882 w = some (r, w') → ∀ (T : ai_H), ai_ev D1 mf_storm 114 [some (.ref 0), some (.int y1875), some (.int y1876), some (.int y1877), some (.int y1878), some (.long y1879), none, some (.long y1880), none, some (.int y1881), some (.long y1882), none, some (.int y1883)] [] (HX w T) 0 0 (some (.int r), HX w' T)) := by
  intro n
  induction n with
  | zero =>
    exact ⟨(fun _ _ _ _ _ _ _ _ _ _ h => by cases h), (fun _ _ _ _ _ _ _ _ _ _ _ _ h => by cases h)⟩
  | succ n ih =>
    obtain ⟨ih0, ih1⟩ := ih
    refine ⟨?_, ?_⟩
    · intro y1867 y1868 y1869 y1870 y1871 y1872 y1873 w r w' h T o10 o11 o12
      simp only [Gf_storm_0] at h
      refine ev_go 2 (pc' := 64) (L' := [some (.ref 0), some (.int y1867), some (.int y1868), some (.int y1869), some (.int y1870), some (.long y1871), none, some (.long y1872), none, some (.int y1873), o10, o11, o12]) (st' := [.int y1869, .int y1873]) (h' := (HX w T)) (cs' := 0) (sl' := 0) rfl ?_
      rcases ai_ifE h with ⟨hc, h⟩ | ⟨hc, h⟩
      · refine ev_ic_ge (t := 92) rfl rfl (fun _ => ?_) (fun c9 => absurd hc c9)
        refine ev_go 4 (pc' := 96) (L' := [some (.ref 0), some (.int y1867), some (.int y1868), some (.int y1869), some (.int y1870), some (.long y1871), none, some (.long y1872), none, some (.int y1873), o10, o11, o12]) (st' := [.int 0, .int y1868, .int y1867, .ref 0]) (h' := (HX w T)) (cs' := 0) (sl' := 0) rfl ?_
        obtain ⟨c1874, hq, h⟩ := ai_bdE h
        refine ev_call (M' := mf_letGoNow) (L' := [some (.ref 0), some (.int y1867), some (.int y1868), some (.int 0)]) (rest := []) (rv := none) (h' := (HX c1874 T)) rfl (Ef_letGoNow_0 n y1867 y1868 0 w _ hq T) ?_
        show ai_ev D1 mf_storm 99 [some (.ref 0), some (.int y1867), some (.int y1868), some (.int y1869), some (.int y1870), some (.long y1871), none, some (.long y1872), none, some (.int y1873), o10, o11, o12] [] (HX c1874 T) 0 0 _
        refine ev_go 8 (pc' := 114) (L' := [some (.ref 0), some (.int y1867), some (.int y1868), some (.int y1869), some (.int y1870), some (.long y1871), none, some (.long y1872), none, some (.int (a_fall_layer c1874)), some (.long 0), none, some (.int 0)]) (st' := []) (h' := (HX c1874 T)) (cs' := 0) (sl' := 0) rfl ?_
        exact ih1 _ _ _ _ _ _ _ _ _ _ _ _ h T
      · refine ev_ic_ge (t := 92) rfl rfl (fun c9 => absurd c9 hc) (fun _ => ?_)
        refine ev_go 13 (pc' := 61) (L' := [some (.ref 0), some (.int y1867), some (.int y1868), some (.int y1869), some (.int y1870), some (.long (y1871 * 10)), none, some (.long (y1872 * ((10 - y1870)).toInt64)), none, some (.int (y1873 + 1)), o10, o11, o12]) (st' := []) (h' := (HX w T)) (cs' := 0) (sl' := 0) rfl ?_
        exact ih0 _ _ _ _ _ _ _ _ _ _ h T _ _ _
    · intro y1875 y1876 y1877 y1878 y1879 y1880 y1881 y1882 y1883 w r w' h T
      simp only [Gf_storm_0] at h
      refine ev_go 2 (pc' := 118) (L' := [some (.ref 0), some (.int y1875), some (.int y1876), some (.int y1877), some (.int y1878), some (.long y1879), none, some (.long y1880), none, some (.int y1881), some (.long y1882), none, some (.int y1883)]) (st' := [.int 8, .int y1883]) (h' := (HX w T)) (cs' := 0) (sl' := 0) rfl ?_
      rcases ai_ifE h with ⟨hc, h⟩ | ⟨hc, h⟩
      · refine ev_ic_ge (t := 161) rfl rfl (fun _ => ?_) (fun c9 => absurd hc c9)
        refine ev_go 7 (pc' := 172) (L' := [some (.ref 0), some (.int y1875), some (.int y1876), some (.int y1877), some (.int y1878), some (.long y1879), none, some (.long y1880), none, some (.int y1881), some (.long y1882), none, some (.int y1883)]) (st' := [.long ((y1879 * y1879) * y1879), .long y1882, .ref 0]) (h' := (HX w T)) (cs' := 0) (sl' := 0) rfl ?_
        obtain ⟨c1891, hq, h⟩ := ai_bdE h
        refine ev_call (M' := mf_putFraction) (L' := [some (.ref 0), some (.long y1882), none, some (.long ((y1879 * y1879) * y1879)), none, none, none, none, none, none, none, none]) (rest := []) (rv := none) (h' := (HX c1891 T)) rfl (Ef_putFraction_0 n y1882 ((y1879 * y1879) * y1879) w _ hq T) ?_
        show ai_ev D1 mf_storm 175 [some (.ref 0), some (.int y1875), some (.int y1876), some (.int y1877), some (.int y1878), some (.long y1879), none, some (.long y1880), none, some (.int y1881), some (.long y1882), none, some (.int y1883)] [] (HX c1891 T) 0 0 _
        refine ev_go 1 (pc' := 176) (L' := [some (.ref 0), some (.int y1875), some (.int y1876), some (.int y1877), some (.int y1878), some (.long y1879), none, some (.long y1880), none, some (.int y1881), some (.long y1882), none, some (.int y1883)]) (st' := [.int 1]) (h' := (HX c1891 T)) (cs' := 0) (sl' := 0) rfl ?_
        obtain ⟨rfl, rfl⟩ := ai_smP h
        exact ev_end rfl
      · refine ev_ic_ge (t := 161) rfl rfl (fun c9 => absurd c9 hc) (fun _ => ?_)
        refine ev_go 4 (pc' := 126) (L' := [some (.ref 0), some (.int y1875), some (.int y1876), some (.int y1877), some (.int y1878), some (.long y1879), none, some (.long y1880), none, some (.int y1881), some (.long y1882), none, some (.int y1883)]) (st' := [.int y1883, .int y1876, .int y1875, .ref 0]) (h' := (HX w T)) (cs' := 0) (sl' := 0) rfl ?_
        obtain ⟨c1892, hq, h⟩ := ai_bdE h
        refine ev_call (M' := mf_letGoNow) (L' := [some (.ref 0), some (.int y1875), some (.int y1876), some (.int y1883)]) (rest := []) (rv := none) (h' := (HX c1892 T)) rfl (Ef_letGoNow_0 n y1875 y1876 y1883 w _ hq T) ?_
        show ai_ev D1 mf_storm 129 [some (.ref 0), some (.int y1875), some (.int y1876), some (.int y1877), some (.int y1878), some (.long y1879), none, some (.long y1880), none, some (.int y1881), some (.long y1882), none, some (.int y1883)] [] (HX c1892 T) 0 0 _
        refine ev_go 4 (pc' := 138) (L' := [some (.ref 0), some (.int y1875), some (.int y1876), some (.int y1877), some (.int y1878), some (.long y1879), none, some (.long y1880), none, some (.int y1881), some (.long y1882), none, some (.int y1883)]) (st' := [.int y1881, .int (a_fall_layer c1892)]) (h' := (HX c1892 T)) (cs' := 0) (sl' := 0) rfl ?_
        rcases ai_ifE h with ⟨hc, h⟩ | ⟨hc, h⟩
        · refine ev_ic_le (t := 155) rfl rfl (fun _ => ?_) (fun c9 => absurd hc c9)
          refine ev_go 2 (pc' := 114) (L' := [some (.ref 0), some (.int y1875), some (.int y1876), some (.int y1877), some (.int y1878), some (.long y1879), none, some (.long y1880), none, some (.int y1881), some (.long y1882), none, some (.int (y1883 + 1))]) (st' := []) (h' := (HX c1892 T)) (cs' := 0) (sl' := 0) rfl ?_
          exact ih1 _ _ _ _ _ _ _ _ _ _ _ _ h T
        · refine ev_ic_le (t := 155) rfl rfl (fun c9 => absurd c9 hc) (fun _ => ?_)
          refine ev_go 4 (pc' := 149) (L' := [some (.ref 0), some (.int y1875), some (.int y1876), some (.int y1877), some (.int y1878), some (.long y1879), none, some (.long y1880), none, some (.int y1881), some (.long y1882), none, some (.int y1883)]) (st' := [.long y1880, .long y1879, .int y1883, .long y1882]) (h' := (HX c1892 T)) (cs' := 0) (sl' := 0) rfl ?_
          obtain ⟨c1901, hq, h⟩ := ai_bdE h
          refine ev_call (M' := mf_chanceOf) (L' := [some (.int y1883), some (.long y1879), none, some (.long y1880), none, none, none, none]) (rest := [.long y1882]) (rv := some (.long c1901)) (h' := (HX c1892 T)) rfl (Ef_chanceOf n y1883 y1879 y1880 _ hq (HX c1892 T)) ?_
          show ai_ev D1 mf_storm 152 [some (.ref 0), some (.int y1875), some (.int y1876), some (.int y1877), some (.int y1878), some (.long y1879), none, some (.long y1880), none, some (.int y1881), some (.long y1882), none, some (.int y1883)] [.long c1901, .long y1882] (HX c1892 T) 0 0 _
          refine ev_go 4 (pc' := 114) (L' := [some (.ref 0), some (.int y1875), some (.int y1876), some (.int y1877), some (.int y1878), some (.long y1879), none, some (.long y1880), none, some (.int y1881), some (.long (y1882 + c1901)), none, some (.int (y1883 + 1))]) (st' := []) (h' := (HX c1892 T)) (cs' := 0) (sl' := 0) rfl ?_
          exact ih1 _ _ _ _ _ _ _ _ _ _ _ _ h T
set_option maxHeartbeats 40000000 in
set_option maxRecDepth 100000 in
theorem Ef_storm_0 (n : Nat) (x1855 : Int32) (x1856 : Int32) (x1857 : Int32) (x1858 : Int32) (w : WX) (r : Int32) (w' : WX) (h : Ff_storm_0 n x1855 x1856 x1857 x1858 w = some (r, w')) (T : ai_H) : ai_ev D1 mf_storm 0 [some (.ref 0), some (.int x1855), some (.int x1856), some (.int x1857), some (.int x1858), none, none, none, none, none, none, none, none] [] (HX w T) 0 0 (some (.int r), HX w' T) := by
  unfold Ff_storm_0 at h
  obtain ⟨ih0, ih1⟩ := EGf_storm_0 n
  refine ev_go 4 (pc' := 8) (L' := [some (.ref 0), some (.int x1855), some (.int x1856), some (.int x1857), some (.int x1858), none, none, none, none, none, none, none, none]) (st' := [.int x1855, .ref 7]) (h' := (HX w T)) (cs' := 0) (sl' := 0) rfl ?_
  obtain ⟨c1859, hq, h⟩ := ai_bdE h
  refine ev_call (M' := mthg_has) (L' := [some (.ref 7), some (.int x1855)]) (rest := []) (rv := some (.int c1859.1)) (h' := (HX c1859.2 T)) rfl (Ethg_has_7 x1855 w _ _ hq T) ?_
  show ai_ev D1 mf_storm 11 [some (.ref 0), some (.int x1855), some (.int x1856), some (.int x1857), some (.int x1858), none, none, none, none, none, none, none, none] [.int c1859.1] (HX c1859.2 T) 0 0 _
  rcases ai_ifE h with ⟨hc, h⟩ | ⟨hc, h⟩
  · refine ev_if_eq (t := 45) rfl rfl (fun _ => ?_) (fun c9 => absurd hc c9)
    refine ev_go 2 (pc' := 48) (L' := [some (.ref 0), some (.int x1855), some (.int x1856), some (.int x1857), some (.int x1858), none, none, none, none, none, none, none, none]) (st' := [.int (-2), .ref 0]) (h' := (HX c1859.2 T)) (cs' := 0) (sl' := 0) rfl ?_
    obtain ⟨c1860, hq, h⟩ := ai_bdE h
    refine ev_call (M' := mf_bad) (L' := [some (.ref 0), some (.int (-2))]) (rest := []) (rv := some (.int c1860.1)) (h' := (HX c1860.2 T)) rfl (Ef_bad_0 (-2) c1859.2 _ _ hq T) ?_
    show ai_ev D1 mf_storm 51 [some (.ref 0), some (.int x1855), some (.int x1856), some (.int x1857), some (.int x1858), none, none, none, none, none, none, none, none] [.int c1860.1] (HX c1860.2 T) 0 0 _
    obtain ⟨rfl, rfl⟩ := ai_smP h
    exact ev_end rfl
  · refine ev_if_eq (t := 45) rfl rfl (fun c9 => absurd c9 hc) (fun _ => ?_)
    refine ev_go 3 (pc' := 19) (L' := [some (.ref 0), some (.int x1855), some (.int x1856), some (.int x1857), some (.int x1858), none, none, none, none, none, none, none, none]) (st' := [.int x1856, .ref 1]) (h' := (HX c1859.2 T)) (cs' := 0) (sl' := 0) rfl ?_
    obtain ⟨c1861, hq, h⟩ := ai_bdE h
    refine ev_call (M' := msea_hasCell) (L' := [some (.ref 1), some (.int x1856)]) (rest := []) (rv := some (.int c1861.1)) (h' := (HX c1861.2 T)) rfl (Esea_hasCell_1 x1856 c1859.2 _ _ hq T) ?_
    show ai_ev D1 mf_storm 22 [some (.ref 0), some (.int x1855), some (.int x1856), some (.int x1857), some (.int x1858), none, none, none, none, none, none, none, none] [.int c1861.1] (HX c1861.2 T) 0 0 _
    rcases ai_ifE h with ⟨hc, h⟩ | ⟨hc, h⟩
    · refine ev_if_eq (t := 45) rfl rfl (fun _ => ?_) (fun c9 => absurd hc c9)
      refine ev_go 2 (pc' := 48) (L' := [some (.ref 0), some (.int x1855), some (.int x1856), some (.int x1857), some (.int x1858), none, none, none, none, none, none, none, none]) (st' := [.int (-2), .ref 0]) (h' := (HX c1861.2 T)) (cs' := 0) (sl' := 0) rfl ?_
      obtain ⟨c1862, hq, h⟩ := ai_bdE h
      refine ev_call (M' := mf_bad) (L' := [some (.ref 0), some (.int (-2))]) (rest := []) (rv := some (.int c1862.1)) (h' := (HX c1862.2 T)) rfl (Ef_bad_0 (-2) c1861.2 _ _ hq T) ?_
      show ai_ev D1 mf_storm 51 [some (.ref 0), some (.int x1855), some (.int x1856), some (.int x1857), some (.int x1858), none, none, none, none, none, none, none, none] [.int c1862.1] (HX c1862.2 T) 0 0 _
      obtain ⟨rfl, rfl⟩ := ai_smP h
      exact ev_end rfl
    · refine ev_if_eq (t := 45) rfl rfl (fun c9 => absurd c9 hc) (fun _ => ?_)
      refine ev_go 3 (pc' := 28) (L' := [some (.ref 0), some (.int x1855), some (.int x1856), some (.int x1857), some (.int x1858), none, none, none, none, none, none, none, none]) (st' := [.int 5, .int 0, .int x1857]) (h' := (HX c1861.2 T)) (cs' := 0) (sl' := 0) rfl ?_
      obtain ⟨c1863, hq, h⟩ := ai_bdE h
      refine ev_call (M' := mf_within) (L' := [some (.int x1857), some (.int 0), some (.int 5)]) (rest := []) (rv := some (.int c1863)) (h' := (HX c1861.2 T)) rfl (Ef_within x1857 0 5 _ hq (HX c1861.2 T)) ?_
      show ai_ev D1 mf_storm 31 [some (.ref 0), some (.int x1855), some (.int x1856), some (.int x1857), some (.int x1858), none, none, none, none, none, none, none, none] [.int c1863] (HX c1861.2 T) 0 0 _
      rcases ai_ifE h with ⟨hc, h⟩ | ⟨hc, h⟩
      · refine ev_if_eq (t := 45) rfl rfl (fun _ => ?_) (fun c9 => absurd hc c9)
        refine ev_go 2 (pc' := 48) (L' := [some (.ref 0), some (.int x1855), some (.int x1856), some (.int x1857), some (.int x1858), none, none, none, none, none, none, none, none]) (st' := [.int (-2), .ref 0]) (h' := (HX c1861.2 T)) (cs' := 0) (sl' := 0) rfl ?_
        obtain ⟨c1864, hq, h⟩ := ai_bdE h
        refine ev_call (M' := mf_bad) (L' := [some (.ref 0), some (.int (-2))]) (rest := []) (rv := some (.int c1864.1)) (h' := (HX c1864.2 T)) rfl (Ef_bad_0 (-2) c1861.2 _ _ hq T) ?_
        show ai_ev D1 mf_storm 51 [some (.ref 0), some (.int x1855), some (.int x1856), some (.int x1857), some (.int x1858), none, none, none, none, none, none, none, none] [.int c1864.1] (HX c1864.2 T) 0 0 _
        obtain ⟨rfl, rfl⟩ := ai_smP h
        exact ev_end rfl
      · refine ev_if_eq (t := 45) rfl rfl (fun c9 => absurd c9 hc) (fun _ => ?_)
        refine ev_go 3 (pc' := 39) (L' := [some (.ref 0), some (.int x1855), some (.int x1856), some (.int x1857), some (.int x1858), none, none, none, none, none, none, none, none]) (st' := [.int 10, .int 0, .int x1858]) (h' := (HX c1861.2 T)) (cs' := 0) (sl' := 0) rfl ?_
        obtain ⟨c1865, hq, h⟩ := ai_bdE h
        refine ev_call (M' := mf_within) (L' := [some (.int x1858), some (.int 0), some (.int 10)]) (rest := []) (rv := some (.int c1865)) (h' := (HX c1861.2 T)) rfl (Ef_within x1858 0 10 _ hq (HX c1861.2 T)) ?_
        show ai_ev D1 mf_storm 42 [some (.ref 0), some (.int x1855), some (.int x1856), some (.int x1857), some (.int x1858), none, none, none, none, none, none, none, none] [.int c1865] (HX c1861.2 T) 0 0 _
        rcases ai_ifE h with ⟨hc, h⟩ | ⟨hc, h⟩
        · refine ev_if_ne (t := 52) rfl rfl (fun c9 => absurd hc c9) (fun _ => ?_)
          refine ev_go 2 (pc' := 48) (L' := [some (.ref 0), some (.int x1855), some (.int x1856), some (.int x1857), some (.int x1858), none, none, none, none, none, none, none, none]) (st' := [.int (-2), .ref 0]) (h' := (HX c1861.2 T)) (cs' := 0) (sl' := 0) rfl ?_
          obtain ⟨c1866, hq, h⟩ := ai_bdE h
          refine ev_call (M' := mf_bad) (L' := [some (.ref 0), some (.int (-2))]) (rest := []) (rv := some (.int c1866.1)) (h' := (HX c1866.2 T)) rfl (Ef_bad_0 (-2) c1861.2 _ _ hq T) ?_
          show ai_ev D1 mf_storm 51 [some (.ref 0), some (.int x1855), some (.int x1856), some (.int x1857), some (.int x1858), none, none, none, none, none, none, none, none] [.int c1866.1] (HX c1866.2 T) 0 0 _
          obtain ⟨rfl, rfl⟩ := ai_smP h
          exact ev_end rfl
        · refine ev_if_ne (t := 52) rfl rfl (fun _ => ?_) (fun c9 => absurd c9 hc)
          refine ev_go 6 (pc' := 61) (L' := [some (.ref 0), some (.int x1855), some (.int x1856), some (.int x1857), some (.int x1858), some (.long 1), none, some (.long 1), none, some (.int 0), none, none, none]) (st' := []) (h' := (HX c1861.2 T)) (cs' := 0) (sl' := 0) rfl ?_
          exact ih0 _ _ _ _ _ _ _ _ _ _ h T _ _ _
set_option maxHeartbeats 40000000 in
set_option maxRecDepth 100000 in
theorem Ef_part_0 (x1902 : Int32) (w : WX) (r : Int64) (w' : WX) (h : Ff_part_0 x1902 w = some (r, w')) (T : ai_H) : ai_ev D1 mf_part 0 [some (.ref 0), some (.int x1902)] [] (HX w T) 0 0 (some (.long r), HX w' T) := by
  unfold Ff_part_0 at h
  refine ev_go 3 (pc' := 3) (L' := [some (.ref 0), some (.int x1902)]) (st' := [.int 1, .int 0, .int x1902]) (h' := (HX w T)) (cs' := 0) (sl' := 0) rfl ?_
  obtain ⟨c1903, hq, h⟩ := ai_bdE h
  refine ev_call (M' := mf_within) (L' := [some (.int x1902), some (.int 0), some (.int 1)]) (rest := []) (rv := some (.int c1903)) (h' := (HX w T)) rfl (Ef_within x1902 0 1 _ hq (HX w T)) ?_
  show ai_ev D1 mf_part 6 [some (.ref 0), some (.int x1902)] [.int c1903] (HX w T) 0 0 _
  rcases ai_ifE h with ⟨hc, h⟩ | ⟨hc, h⟩
  · refine ev_if_ne (t := 17) rfl rfl (fun c9 => absurd hc c9) (fun _ => ?_)
    refine ev_go 2 (pc' := 12) (L' := [some (.ref 0), some (.int x1902)]) (st' := [.int (-2), .ref 0]) (h' := (HX w T)) (cs' := 0) (sl' := 0) rfl ?_
    obtain ⟨c1904, hq, h⟩ := ai_bdE h
    refine ev_call (M' := mf_bad) (L' := [some (.ref 0), some (.int (-2))]) (rest := []) (rv := some (.int c1904.1)) (h' := (HX c1904.2 T)) rfl (Ef_bad_0 (-2) w _ _ hq T) ?_
    show ai_ev D1 mf_part 15 [some (.ref 0), some (.int x1902)] [.int c1904.1] (HX c1904.2 T) 0 0 _
    refine ev_go 1 (pc' := 16) (L' := [some (.ref 0), some (.int x1902)]) (st' := [.long (c1904.1).toInt64]) (h' := (HX c1904.2 T)) (cs' := 0) (sl' := 0) rfl ?_
    obtain ⟨rfl, rfl⟩ := ai_smP h
    exact ev_end rfl
  · refine ev_if_ne (t := 17) rfl rfl (fun _ => ?_) (fun c9 => absurd c9 hc)
    refine ev_go 1 (pc' := 18) (L' := [some (.ref 0), some (.int x1902)]) (st' := [.int x1902]) (h' := (HX w T)) (cs' := 0) (sl' := 0) rfl ?_
    rcases ai_ifE h with ⟨hc, h⟩ | ⟨hc, h⟩
    · refine ev_if_ne (t := 28) rfl rfl (fun c9 => absurd hc c9) (fun _ => ?_)
      refine ev_go 3 (pc' := 32) (L' := [some (.ref 0), some (.int x1902)]) (st' := [.long (a_f_above w)]) (h' := (HX w T)) (cs' := 0) (sl' := 0) rfl ?_
      obtain ⟨rfl, rfl⟩ := ai_smP h
      exact ev_end rfl
    · refine ev_if_ne (t := 28) rfl rfl (fun _ => ?_) (fun c9 => absurd c9 hc)
      refine ev_go 2 (pc' := 32) (L' := [some (.ref 0), some (.int x1902)]) (st' := [.long (a_f_below w)]) (h' := (HX w T)) (cs' := 0) (sl' := 0) rfl ?_
      obtain ⟨rfl, rfl⟩ := ai_smP h
      exact ev_end rfl
set_option maxHeartbeats 40000000 in
set_option maxRecDepth 100000 in
theorem Ethg_copyFrom_45_7 (w : WX) (w' : WX) (h : Fthg_copyFrom_45_7 w = some w') (T : ai_H) : ai_ev D1 mthg_copyFrom 0 [some (.ref 45), some (.ref 7)] [] (HX w T) 0 0 (none, HX w' T) := by
  unfold Fthg_copyFrom_45_7 at h
  refine ev_go 3 (pc' := 5) (L' := [some (.ref 45), some (.ref 7)]) (st' := [.int (a_s1things_count w), .ref 45]) (h' := (HX w T)) (cs' := 0) (sl' := 0) rfl ?_
  refine ev_step rfl rfl rfl (PFX_5_9_45 rfl) ?_
  refine ev_go 7 (pc' := 20) (L' := [some (.ref 45), some (.ref 7)]) (st' := [.int 6, .int 0, .ref 46, .int 0, .ref 8]) (h' := (HX (u_s3things_count w (a_s1things_count w)) T)) (cs' := 0) (sl' := 0) rfl ?_
  obtain ⟨q1912, hq, h⟩ := ai_bdE h
  refine ev_cpy rfl rfl rfl rfl rfl rfl hq ?_
  rw [HXs_46]
  refine ev_go 7 (pc' := 35) (L' := [some (.ref 45), some (.ref 7)]) (st' := [.int 6, .int 0, .ref 47, .int 0, .ref 9]) (h' := (HX (u_s3things_kinds (u_s3things_count w (a_s1things_count w)) q1912) T)) (cs' := 0) (sl' := 0) rfl ?_
  obtain ⟨q1913, hq, h⟩ := ai_bdE h
  refine ev_cpy rfl rfl rfl rfl rfl rfl hq ?_
  rw [HXs_47]
  refine ev_go 7 (pc' := 50) (L' := [some (.ref 45), some (.ref 7)]) (st' := [.int 6, .int 0, .ref 48, .int 0, .ref 10]) (h' := (HX (u_s3things_weights (u_s3things_kinds (u_s3things_count w (a_s1things_count w)) q1912) q1913) T)) (cs' := 0) (sl' := 0) rfl ?_
  obtain ⟨q1914, hq, h⟩ := ai_bdE h
  refine ev_cpy rfl rfl rfl rfl rfl rfl hq ?_
  rw [HXs_48]
  refine ev_go 7 (pc' := 65) (L' := [some (.ref 45), some (.ref 7)]) (st' := [.int 6, .int 0, .ref 49, .int 0, .ref 11]) (h' := (HX (u_s3things_volumes (u_s3things_weights (u_s3things_kinds (u_s3things_count w (a_s1things_count w)) q1912) q1913) q1914) T)) (cs' := 0) (sl' := 0) rfl ?_
  obtain ⟨q1915, hq, h⟩ := ai_bdE h
  refine ev_cpy rfl rfl rfl rfl rfl rfl hq ?_
  rw [HXs_49]
  obtain rfl := Option.some.inj h
  exact ev_end rfl
set_option maxHeartbeats 40000000 in
set_option maxRecDepth 100000 in
theorem Elift_copyFrom_50_12 (w : WX) (w' : WX) (h : Flift_copyFrom_50_12 w = some w') (T : ai_H) : ai_ev D1 mlift_copyFrom 0 [some (.ref 50), some (.ref 12)] [] (HX w T) 0 0 (none, HX w' T) := by
  unfold Flift_copyFrom_50_12 at h
  refine ev_go 3 (pc' := 5) (L' := [some (.ref 50), some (.ref 12)]) (st' := [.int (a_s1lifts_count w), .ref 50]) (h' := (HX w T)) (cs' := 0) (sl' := 0) rfl ?_
  refine ev_step rfl rfl rfl (PFX_1_9_50 rfl) ?_
  refine ev_go 7 (pc' := 20) (L' := [some (.ref 50), some (.ref 12)]) (st' := [.int 10, .int 0, .ref 51, .int 0, .ref 13]) (h' := (HX (u_s3lifts_count w (a_s1lifts_count w)) T)) (cs' := 0) (sl' := 0) rfl ?_
  obtain ⟨q1917, hq, h⟩ := ai_bdE h
  refine ev_cpy rfl rfl rfl rfl rfl rfl hq ?_
  rw [HXs_51]
  refine ev_go 7 (pc' := 35) (L' := [some (.ref 50), some (.ref 12)]) (st' := [.int 10, .int 0, .ref 52, .int 0, .ref 14]) (h' := (HX (u_s3lifts_froms (u_s3lifts_count w (a_s1lifts_count w)) q1917) T)) (cs' := 0) (sl' := 0) rfl ?_
  obtain ⟨q1918, hq, h⟩ := ai_bdE h
  refine ev_cpy rfl rfl rfl rfl rfl rfl hq ?_
  rw [HXs_52]
  refine ev_go 7 (pc' := 50) (L' := [some (.ref 50), some (.ref 12)]) (st' := [.int 10, .int 0, .ref 53, .int 0, .ref 15]) (h' := (HX (u_s3lifts_tos (u_s3lifts_froms (u_s3lifts_count w (a_s1lifts_count w)) q1917) q1918) T)) (cs' := 0) (sl' := 0) rfl ?_
  obtain ⟨q1919, hq, h⟩ := ai_bdE h
  refine ev_cpy rfl rfl rfl rfl rfl rfl hq ?_
  rw [HXs_53]
  obtain rfl := Option.some.inj h
  exact ev_end rfl
set_option maxHeartbeats 40000000 in
set_option maxRecDepth 100000 in
theorem Esea_copyFrom_39_1 (w : WX) (w' : WX) (h : Fsea_copyFrom_39_1 w = some w') (T : ai_H) : ai_ev D1 msea_copyFrom 0 [some (.ref 39), some (.ref 1)] [] (HX w T) 0 0 (none, HX w' T) := by
  unfold Fsea_copyFrom_39_1 at h
  refine ev_go 3 (pc' := 5) (L' := [some (.ref 39), some (.ref 1)]) (st' := [.int (a_s1_cells w), .ref 39]) (h' := (HX w T)) (cs' := 0) (sl' := 0) rfl ?_
  refine ev_step rfl rfl rfl (PFX_2_9_39 rfl) ?_
  refine ev_go 3 (pc' := 13) (L' := [some (.ref 39), some (.ref 1)]) (st' := [.int (a_s1_hour w), .ref 39]) (h' := (HX (u_s3_cells w (a_s1_cells w)) T)) (cs' := 0) (sl' := 0) rfl ?_
  refine ev_step rfl rfl rfl (PFX_2_15_39 rfl) ?_
  refine ev_go 3 (pc' := 21) (L' := [some (.ref 39), some (.ref 1)]) (st' := [.int (a_s1_dams w), .ref 39]) (h' := (HX (u_s3_hour (u_s3_cells w (a_s1_cells w)) (a_s1_hour w)) T)) (cs' := 0) (sl' := 0) rfl ?_
  refine ev_step rfl rfl rfl (PFX_2_18_39 rfl) ?_
  refine ev_go 7 (pc' := 35) (L' := [some (.ref 39), some (.ref 1)]) (st' := [.int 4, .int 0, .ref 40, .int 0, .ref 2]) (h' := (HX (u_s3_dams (u_s3_hour (u_s3_cells w (a_s1_cells w)) (a_s1_hour w)) (a_s1_dams w)) T)) (cs' := 0) (sl' := 0) rfl ?_
  obtain ⟨q1907, hq, h⟩ := ai_bdE h
  refine ev_cpy rfl rfl rfl rfl rfl rfl hq ?_
  rw [HXs_40]
  refine ev_go 7 (pc' := 49) (L' := [some (.ref 39), some (.ref 1)]) (st' := [.int 4, .int 0, .ref 41, .int 0, .ref 3]) (h' := (HX (u_s3_densities (u_s3_dams (u_s3_hour (u_s3_cells w (a_s1_cells w)) (a_s1_hour w)) (a_s1_dams w)) q1907) T)) (cs' := 0) (sl' := 0) rfl ?_
  obtain ⟨q1908, hq, h⟩ := ai_bdE h
  refine ev_cpy rfl rfl rfl rfl rfl rfl hq ?_
  rw [HXs_41]
  refine ev_go 7 (pc' := 64) (L' := [some (.ref 39), some (.ref 1)]) (st' := [.int 24, .int 0, .ref 42, .int 0, .ref 4]) (h' := (HX (u_s3_currents (u_s3_densities (u_s3_dams (u_s3_hour (u_s3_cells w (a_s1_cells w)) (a_s1_hour w)) (a_s1_dams w)) q1907) q1908) T)) (cs' := 0) (sl' := 0) rfl ?_
  obtain ⟨q1909, hq, h⟩ := ai_bdE h
  refine ev_cpy rfl rfl rfl rfl rfl rfl hq ?_
  rw [HXs_42]
  refine ev_go 7 (pc' := 79) (L' := [some (.ref 39), some (.ref 1)]) (st' := [.int 24, .int 0, .ref 43, .int 0, .ref 5]) (h' := (HX (u_s3_tides (u_s3_currents (u_s3_densities (u_s3_dams (u_s3_hour (u_s3_cells w (a_s1_cells w)) (a_s1_hour w)) (a_s1_dams w)) q1907) q1908) q1909) T)) (cs' := 0) (sl' := 0) rfl ?_
  obtain ⟨q1910, hq, h⟩ := ai_bdE h
  refine ev_cpy rfl rfl rfl rfl rfl rfl hq ?_
  rw [HXs_43]
  refine ev_go 7 (pc' := 93) (L' := [some (.ref 39), some (.ref 1)]) (st' := [.int 3, .int 0, .ref 44, .int 0, .ref 6]) (h' := (HX (u_s3_thicks (u_s3_tides (u_s3_currents (u_s3_densities (u_s3_dams (u_s3_hour (u_s3_cells w (a_s1_cells w)) (a_s1_hour w)) (a_s1_dams w)) q1907) q1908) q1909) q1910) T)) (cs' := 0) (sl' := 0) rfl ?_
  obtain ⟨q1911, hq, h⟩ := ai_bdE h
  refine ev_cpy rfl rfl rfl rfl rfl rfl hq ?_
  rw [HXs_44]
  refine ev_go 4 (pc' := 104) (L' := [some (.ref 39), some (.ref 1)]) (st' := [.ref 7, .ref 45]) (h' := (HX (u_s3_skins (u_s3_thicks (u_s3_tides (u_s3_currents (u_s3_densities (u_s3_dams (u_s3_hour (u_s3_cells w (a_s1_cells w)) (a_s1_hour w)) (a_s1_dams w)) q1907) q1908) q1909) q1910) q1911) T)) (cs' := 0) (sl' := 0) rfl ?_
  obtain ⟨c1916, hq, h⟩ := ai_bdE h
  refine ev_call (M' := mthg_copyFrom) (L' := [some (.ref 45), some (.ref 7)]) (rest := []) (rv := none) (h' := (HX c1916 T)) rfl (Ethg_copyFrom_45_7 (u_s3_skins (u_s3_thicks (u_s3_tides (u_s3_currents (u_s3_densities (u_s3_dams (u_s3_hour (u_s3_cells w (a_s1_cells w)) (a_s1_hour w)) (a_s1_dams w)) q1907) q1908) q1909) q1910) q1911) _ hq T) ?_
  show ai_ev D1 msea_copyFrom 107 [some (.ref 39), some (.ref 1)] [] (HX c1916 T) 0 0 _
  refine ev_go 4 (pc' := 115) (L' := [some (.ref 39), some (.ref 1)]) (st' := [.ref 12, .ref 50]) (h' := (HX c1916 T)) (cs' := 0) (sl' := 0) rfl ?_
  obtain ⟨c1920, hq, h⟩ := ai_bdE h
  refine ev_call (M' := mlift_copyFrom) (L' := [some (.ref 50), some (.ref 12)]) (rest := []) (rv := none) (h' := (HX c1920 T)) rfl (Elift_copyFrom_50_12 c1916 _ hq T) ?_
  show ai_ev D1 msea_copyFrom 118 [some (.ref 39), some (.ref 1)] [] (HX c1920 T) 0 0 _
  refine ev_go 3 (pc' := 123) (L' := [some (.ref 39), some (.ref 1)]) (st' := [.int (a_s1_towns c1920), .ref 39]) (h' := (HX c1920 T)) (cs' := 0) (sl' := 0) rfl ?_
  refine ev_step rfl rfl rfl (PFX_2_51_39 rfl) ?_
  refine ev_go 7 (pc' := 138) (L' := [some (.ref 39), some (.ref 1)]) (st' := [.int 6, .int 0, .ref 54, .int 0, .ref 16]) (h' := (HX (u_s3_towns c1920 (a_s1_towns c1920)) T)) (cs' := 0) (sl' := 0) rfl ?_
  obtain ⟨q1921, hq, h⟩ := ai_bdE h
  refine ev_cpy rfl rfl rfl rfl rfl rfl hq ?_
  rw [HXs_54]
  refine ev_go 3 (pc' := 146) (L' := [some (.ref 39), some (.ref 1)]) (st' := [.int (a_s1_drops c1920), .ref 39]) (h' := (HX (u_s3_townPlaces (u_s3_towns c1920 (a_s1_towns c1920)) q1921) T)) (cs' := 0) (sl' := 0) rfl ?_
  refine ev_step rfl rfl rfl (PFX_2_57_39 rfl) ?_
  refine ev_go 7 (pc' := 161) (L' := [some (.ref 39), some (.ref 1)]) (st' := [.int 6, .int 0, .ref 55, .int 0, .ref 17]) (h' := (HX (u_s3_drops (u_s3_townPlaces (u_s3_towns c1920 (a_s1_towns c1920)) q1921) (a_s1_drops c1920)) T)) (cs' := 0) (sl' := 0) rfl ?_
  obtain ⟨q1922, hq, h⟩ := ai_bdE h
  refine ev_cpy rfl rfl rfl rfl rfl rfl hq ?_
  rw [HXs_55]
  refine ev_go 7 (pc' := 176) (L' := [some (.ref 39), some (.ref 1)]) (st' := [.int 6, .int 0, .ref 56, .int 0, .ref 18]) (h' := (HX (u_s3_dropLayers (u_s3_drops (u_s3_townPlaces (u_s3_towns c1920 (a_s1_towns c1920)) q1921) (a_s1_drops c1920)) q1922) T)) (cs' := 0) (sl' := 0) rfl ?_
  obtain ⟨q1923, hq, h⟩ := ai_bdE h
  refine ev_cpy rfl rfl rfl rfl rfl rfl hq ?_
  rw [HXs_56]
  refine ev_go 3 (pc' := 184) (L' := [some (.ref 39), some (.ref 1)]) (st' := [.int (a_s1_undos c1920), .ref 39]) (h' := (HX (u_s3_dropFloats (u_s3_dropLayers (u_s3_drops (u_s3_townPlaces (u_s3_towns c1920 (a_s1_towns c1920)) q1921) (a_s1_drops c1920)) q1922) q1923) T)) (cs' := 0) (sl' := 0) rfl ?_
  refine ev_step rfl rfl rfl (PFX_2_66_39 rfl) ?_
  refine ev_go 7 (pc' := 199) (L' := [some (.ref 39), some (.ref 1)]) (st' := [.int 10, .int 0, .ref 57, .int 0, .ref 19]) (h' := (HX (u_s3_undos (u_s3_dropFloats (u_s3_dropLayers (u_s3_drops (u_s3_townPlaces (u_s3_towns c1920 (a_s1_towns c1920)) q1921) (a_s1_drops c1920)) q1922) q1923) (a_s1_undos c1920)) T)) (cs' := 0) (sl' := 0) rfl ?_
  obtain ⟨q1924, hq, h⟩ := ai_bdE h
  refine ev_cpy rfl rfl rfl rfl rfl rfl hq ?_
  rw [HXs_57]
  obtain rfl := Option.some.inj h
  exact ev_end rfl
set_option maxHeartbeats 40000000 in
set_option maxRecDepth 100000 in
theorem Ethg_copyFrom_64_7 (w : WX) (w' : WX) (h : Fthg_copyFrom_64_7 w = some w') (T : ai_H) : ai_ev D1 mthg_copyFrom 0 [some (.ref 64), some (.ref 7)] [] (HX w T) 0 0 (none, HX w' T) := by
  unfold Fthg_copyFrom_64_7 at h
  refine ev_go 3 (pc' := 5) (L' := [some (.ref 64), some (.ref 7)]) (st' := [.int (a_s1things_count w), .ref 64]) (h' := (HX w T)) (cs' := 0) (sl' := 0) rfl ?_
  refine ev_step rfl rfl rfl (PFX_5_9_64 rfl) ?_
  refine ev_go 7 (pc' := 20) (L' := [some (.ref 64), some (.ref 7)]) (st' := [.int 6, .int 0, .ref 65, .int 0, .ref 8]) (h' := (HX (u_s4things_count w (a_s1things_count w)) T)) (cs' := 0) (sl' := 0) rfl ?_
  obtain ⟨q1932, hq, h⟩ := ai_bdE h
  refine ev_cpy rfl rfl rfl rfl rfl rfl hq ?_
  rw [HXs_65]
  refine ev_go 7 (pc' := 35) (L' := [some (.ref 64), some (.ref 7)]) (st' := [.int 6, .int 0, .ref 66, .int 0, .ref 9]) (h' := (HX (u_s4things_kinds (u_s4things_count w (a_s1things_count w)) q1932) T)) (cs' := 0) (sl' := 0) rfl ?_
  obtain ⟨q1933, hq, h⟩ := ai_bdE h
  refine ev_cpy rfl rfl rfl rfl rfl rfl hq ?_
  rw [HXs_66]
  refine ev_go 7 (pc' := 50) (L' := [some (.ref 64), some (.ref 7)]) (st' := [.int 6, .int 0, .ref 67, .int 0, .ref 10]) (h' := (HX (u_s4things_weights (u_s4things_kinds (u_s4things_count w (a_s1things_count w)) q1932) q1933) T)) (cs' := 0) (sl' := 0) rfl ?_
  obtain ⟨q1934, hq, h⟩ := ai_bdE h
  refine ev_cpy rfl rfl rfl rfl rfl rfl hq ?_
  rw [HXs_67]
  refine ev_go 7 (pc' := 65) (L' := [some (.ref 64), some (.ref 7)]) (st' := [.int 6, .int 0, .ref 68, .int 0, .ref 11]) (h' := (HX (u_s4things_volumes (u_s4things_weights (u_s4things_kinds (u_s4things_count w (a_s1things_count w)) q1932) q1933) q1934) T)) (cs' := 0) (sl' := 0) rfl ?_
  obtain ⟨q1935, hq, h⟩ := ai_bdE h
  refine ev_cpy rfl rfl rfl rfl rfl rfl hq ?_
  rw [HXs_68]
  obtain rfl := Option.some.inj h
  exact ev_end rfl
set_option maxHeartbeats 40000000 in
set_option maxRecDepth 100000 in
theorem Elift_copyFrom_69_12 (w : WX) (w' : WX) (h : Flift_copyFrom_69_12 w = some w') (T : ai_H) : ai_ev D1 mlift_copyFrom 0 [some (.ref 69), some (.ref 12)] [] (HX w T) 0 0 (none, HX w' T) := by
  unfold Flift_copyFrom_69_12 at h
  refine ev_go 3 (pc' := 5) (L' := [some (.ref 69), some (.ref 12)]) (st' := [.int (a_s1lifts_count w), .ref 69]) (h' := (HX w T)) (cs' := 0) (sl' := 0) rfl ?_
  refine ev_step rfl rfl rfl (PFX_1_9_69 rfl) ?_
  refine ev_go 7 (pc' := 20) (L' := [some (.ref 69), some (.ref 12)]) (st' := [.int 10, .int 0, .ref 70, .int 0, .ref 13]) (h' := (HX (u_s4lifts_count w (a_s1lifts_count w)) T)) (cs' := 0) (sl' := 0) rfl ?_
  obtain ⟨q1937, hq, h⟩ := ai_bdE h
  refine ev_cpy rfl rfl rfl rfl rfl rfl hq ?_
  rw [HXs_70]
  refine ev_go 7 (pc' := 35) (L' := [some (.ref 69), some (.ref 12)]) (st' := [.int 10, .int 0, .ref 71, .int 0, .ref 14]) (h' := (HX (u_s4lifts_froms (u_s4lifts_count w (a_s1lifts_count w)) q1937) T)) (cs' := 0) (sl' := 0) rfl ?_
  obtain ⟨q1938, hq, h⟩ := ai_bdE h
  refine ev_cpy rfl rfl rfl rfl rfl rfl hq ?_
  rw [HXs_71]
  refine ev_go 7 (pc' := 50) (L' := [some (.ref 69), some (.ref 12)]) (st' := [.int 10, .int 0, .ref 72, .int 0, .ref 15]) (h' := (HX (u_s4lifts_tos (u_s4lifts_froms (u_s4lifts_count w (a_s1lifts_count w)) q1937) q1938) T)) (cs' := 0) (sl' := 0) rfl ?_
  obtain ⟨q1939, hq, h⟩ := ai_bdE h
  refine ev_cpy rfl rfl rfl rfl rfl rfl hq ?_
  rw [HXs_72]
  obtain rfl := Option.some.inj h
  exact ev_end rfl
set_option maxHeartbeats 40000000 in
set_option maxRecDepth 100000 in
theorem Esea_copyFrom_58_1 (w : WX) (w' : WX) (h : Fsea_copyFrom_58_1 w = some w') (T : ai_H) : ai_ev D1 msea_copyFrom 0 [some (.ref 58), some (.ref 1)] [] (HX w T) 0 0 (none, HX w' T) := by
  unfold Fsea_copyFrom_58_1 at h
  refine ev_go 3 (pc' := 5) (L' := [some (.ref 58), some (.ref 1)]) (st' := [.int (a_s1_cells w), .ref 58]) (h' := (HX w T)) (cs' := 0) (sl' := 0) rfl ?_
  refine ev_step rfl rfl rfl (PFX_2_9_58 rfl) ?_
  refine ev_go 3 (pc' := 13) (L' := [some (.ref 58), some (.ref 1)]) (st' := [.int (a_s1_hour w), .ref 58]) (h' := (HX (u_s4_cells w (a_s1_cells w)) T)) (cs' := 0) (sl' := 0) rfl ?_
  refine ev_step rfl rfl rfl (PFX_2_15_58 rfl) ?_
  refine ev_go 3 (pc' := 21) (L' := [some (.ref 58), some (.ref 1)]) (st' := [.int (a_s1_dams w), .ref 58]) (h' := (HX (u_s4_hour (u_s4_cells w (a_s1_cells w)) (a_s1_hour w)) T)) (cs' := 0) (sl' := 0) rfl ?_
  refine ev_step rfl rfl rfl (PFX_2_18_58 rfl) ?_
  refine ev_go 7 (pc' := 35) (L' := [some (.ref 58), some (.ref 1)]) (st' := [.int 4, .int 0, .ref 59, .int 0, .ref 2]) (h' := (HX (u_s4_dams (u_s4_hour (u_s4_cells w (a_s1_cells w)) (a_s1_hour w)) (a_s1_dams w)) T)) (cs' := 0) (sl' := 0) rfl ?_
  obtain ⟨q1927, hq, h⟩ := ai_bdE h
  refine ev_cpy rfl rfl rfl rfl rfl rfl hq ?_
  rw [HXs_59]
  refine ev_go 7 (pc' := 49) (L' := [some (.ref 58), some (.ref 1)]) (st' := [.int 4, .int 0, .ref 60, .int 0, .ref 3]) (h' := (HX (u_s4_densities (u_s4_dams (u_s4_hour (u_s4_cells w (a_s1_cells w)) (a_s1_hour w)) (a_s1_dams w)) q1927) T)) (cs' := 0) (sl' := 0) rfl ?_
  obtain ⟨q1928, hq, h⟩ := ai_bdE h
  refine ev_cpy rfl rfl rfl rfl rfl rfl hq ?_
  rw [HXs_60]
  refine ev_go 7 (pc' := 64) (L' := [some (.ref 58), some (.ref 1)]) (st' := [.int 24, .int 0, .ref 61, .int 0, .ref 4]) (h' := (HX (u_s4_currents (u_s4_densities (u_s4_dams (u_s4_hour (u_s4_cells w (a_s1_cells w)) (a_s1_hour w)) (a_s1_dams w)) q1927) q1928) T)) (cs' := 0) (sl' := 0) rfl ?_
  obtain ⟨q1929, hq, h⟩ := ai_bdE h
  refine ev_cpy rfl rfl rfl rfl rfl rfl hq ?_
  rw [HXs_61]
  refine ev_go 7 (pc' := 79) (L' := [some (.ref 58), some (.ref 1)]) (st' := [.int 24, .int 0, .ref 62, .int 0, .ref 5]) (h' := (HX (u_s4_tides (u_s4_currents (u_s4_densities (u_s4_dams (u_s4_hour (u_s4_cells w (a_s1_cells w)) (a_s1_hour w)) (a_s1_dams w)) q1927) q1928) q1929) T)) (cs' := 0) (sl' := 0) rfl ?_
  obtain ⟨q1930, hq, h⟩ := ai_bdE h
  refine ev_cpy rfl rfl rfl rfl rfl rfl hq ?_
  rw [HXs_62]
  refine ev_go 7 (pc' := 93) (L' := [some (.ref 58), some (.ref 1)]) (st' := [.int 3, .int 0, .ref 63, .int 0, .ref 6]) (h' := (HX (u_s4_thicks (u_s4_tides (u_s4_currents (u_s4_densities (u_s4_dams (u_s4_hour (u_s4_cells w (a_s1_cells w)) (a_s1_hour w)) (a_s1_dams w)) q1927) q1928) q1929) q1930) T)) (cs' := 0) (sl' := 0) rfl ?_
  obtain ⟨q1931, hq, h⟩ := ai_bdE h
  refine ev_cpy rfl rfl rfl rfl rfl rfl hq ?_
  rw [HXs_63]
  refine ev_go 4 (pc' := 104) (L' := [some (.ref 58), some (.ref 1)]) (st' := [.ref 7, .ref 64]) (h' := (HX (u_s4_skins (u_s4_thicks (u_s4_tides (u_s4_currents (u_s4_densities (u_s4_dams (u_s4_hour (u_s4_cells w (a_s1_cells w)) (a_s1_hour w)) (a_s1_dams w)) q1927) q1928) q1929) q1930) q1931) T)) (cs' := 0) (sl' := 0) rfl ?_
  obtain ⟨c1936, hq, h⟩ := ai_bdE h
  refine ev_call (M' := mthg_copyFrom) (L' := [some (.ref 64), some (.ref 7)]) (rest := []) (rv := none) (h' := (HX c1936 T)) rfl (Ethg_copyFrom_64_7 (u_s4_skins (u_s4_thicks (u_s4_tides (u_s4_currents (u_s4_densities (u_s4_dams (u_s4_hour (u_s4_cells w (a_s1_cells w)) (a_s1_hour w)) (a_s1_dams w)) q1927) q1928) q1929) q1930) q1931) _ hq T) ?_
  show ai_ev D1 msea_copyFrom 107 [some (.ref 58), some (.ref 1)] [] (HX c1936 T) 0 0 _
  refine ev_go 4 (pc' := 115) (L' := [some (.ref 58), some (.ref 1)]) (st' := [.ref 12, .ref 69]) (h' := (HX c1936 T)) (cs' := 0) (sl' := 0) rfl ?_
  obtain ⟨c1940, hq, h⟩ := ai_bdE h
  refine ev_call (M' := mlift_copyFrom) (L' := [some (.ref 69), some (.ref 12)]) (rest := []) (rv := none) (h' := (HX c1940 T)) rfl (Elift_copyFrom_69_12 c1936 _ hq T) ?_
  show ai_ev D1 msea_copyFrom 118 [some (.ref 58), some (.ref 1)] [] (HX c1940 T) 0 0 _
  refine ev_go 3 (pc' := 123) (L' := [some (.ref 58), some (.ref 1)]) (st' := [.int (a_s1_towns c1940), .ref 58]) (h' := (HX c1940 T)) (cs' := 0) (sl' := 0) rfl ?_
  refine ev_step rfl rfl rfl (PFX_2_51_58 rfl) ?_
  refine ev_go 7 (pc' := 138) (L' := [some (.ref 58), some (.ref 1)]) (st' := [.int 6, .int 0, .ref 73, .int 0, .ref 16]) (h' := (HX (u_s4_towns c1940 (a_s1_towns c1940)) T)) (cs' := 0) (sl' := 0) rfl ?_
  obtain ⟨q1941, hq, h⟩ := ai_bdE h
  refine ev_cpy rfl rfl rfl rfl rfl rfl hq ?_
  rw [HXs_73]
  refine ev_go 3 (pc' := 146) (L' := [some (.ref 58), some (.ref 1)]) (st' := [.int (a_s1_drops c1940), .ref 58]) (h' := (HX (u_s4_townPlaces (u_s4_towns c1940 (a_s1_towns c1940)) q1941) T)) (cs' := 0) (sl' := 0) rfl ?_
  refine ev_step rfl rfl rfl (PFX_2_57_58 rfl) ?_
  refine ev_go 7 (pc' := 161) (L' := [some (.ref 58), some (.ref 1)]) (st' := [.int 6, .int 0, .ref 74, .int 0, .ref 17]) (h' := (HX (u_s4_drops (u_s4_townPlaces (u_s4_towns c1940 (a_s1_towns c1940)) q1941) (a_s1_drops c1940)) T)) (cs' := 0) (sl' := 0) rfl ?_
  obtain ⟨q1942, hq, h⟩ := ai_bdE h
  refine ev_cpy rfl rfl rfl rfl rfl rfl hq ?_
  rw [HXs_74]
  refine ev_go 7 (pc' := 176) (L' := [some (.ref 58), some (.ref 1)]) (st' := [.int 6, .int 0, .ref 75, .int 0, .ref 18]) (h' := (HX (u_s4_dropLayers (u_s4_drops (u_s4_townPlaces (u_s4_towns c1940 (a_s1_towns c1940)) q1941) (a_s1_drops c1940)) q1942) T)) (cs' := 0) (sl' := 0) rfl ?_
  obtain ⟨q1943, hq, h⟩ := ai_bdE h
  refine ev_cpy rfl rfl rfl rfl rfl rfl hq ?_
  rw [HXs_75]
  refine ev_go 3 (pc' := 184) (L' := [some (.ref 58), some (.ref 1)]) (st' := [.int (a_s1_undos c1940), .ref 58]) (h' := (HX (u_s4_dropFloats (u_s4_dropLayers (u_s4_drops (u_s4_townPlaces (u_s4_towns c1940 (a_s1_towns c1940)) q1941) (a_s1_drops c1940)) q1942) q1943) T)) (cs' := 0) (sl' := 0) rfl ?_
  refine ev_step rfl rfl rfl (PFX_2_66_58 rfl) ?_
  refine ev_go 7 (pc' := 199) (L' := [some (.ref 58), some (.ref 1)]) (st' := [.int 10, .int 0, .ref 76, .int 0, .ref 19]) (h' := (HX (u_s4_undos (u_s4_dropFloats (u_s4_dropLayers (u_s4_drops (u_s4_townPlaces (u_s4_towns c1940 (a_s1_towns c1940)) q1941) (a_s1_drops c1940)) q1942) q1943) (a_s1_undos c1940)) T)) (cs' := 0) (sl' := 0) rfl ?_
  obtain ⟨q1944, hq, h⟩ := ai_bdE h
  refine ev_cpy rfl rfl rfl rfl rfl rfl hq ?_
  rw [HXs_76]
  obtain rfl := Option.some.inj h
  exact ev_end rfl
set_option maxHeartbeats 40000000 in
set_option maxRecDepth 100000 in
theorem Ef_image_0 (x1905 : Int32) (w : WX) (r : Int32) (w' : WX) (h : Ff_image_0 x1905 w = some (r, w')) (T : ai_H) : ai_ev D1 mf_image 0 [some (.ref 0), some (.int x1905)] [] (HX w T) 0 0 (some (.int r), HX w' T) := by
  unfold Ff_image_0 at h
  refine ev_go 3 (pc' := 3) (L' := [some (.ref 0), some (.int x1905)]) (st' := [.int 1, .int 0, .int x1905]) (h' := (HX w T)) (cs' := 0) (sl' := 0) rfl ?_
  obtain ⟨c1906, hq, h⟩ := ai_bdE h
  refine ev_call (M' := mf_within) (L' := [some (.int x1905), some (.int 0), some (.int 1)]) (rest := []) (rv := some (.int c1906)) (h' := (HX w T)) rfl (Ef_within x1905 0 1 _ hq (HX w T)) ?_
  show ai_ev D1 mf_image 6 [some (.ref 0), some (.int x1905)] [.int c1906] (HX w T) 0 0 _
  rcases ai_ifE h with ⟨hc, h⟩ | ⟨hc, h⟩
  · refine ev_if_ne (t := 16) rfl rfl (fun c9 => absurd hc c9) (fun _ => ?_)
    refine ev_go 2 (pc' := 12) (L' := [some (.ref 0), some (.int x1905)]) (st' := [.int (-2), .ref 0]) (h' := (HX w T)) (cs' := 0) (sl' := 0) rfl ?_
    obtain ⟨c1947, hq, h⟩ := ai_bdE h
    refine ev_call (M' := mf_bad) (L' := [some (.ref 0), some (.int (-2))]) (rest := []) (rv := some (.int c1947.1)) (h' := (HX c1947.2 T)) rfl (Ef_bad_0 (-2) w _ _ hq T) ?_
    show ai_ev D1 mf_image 15 [some (.ref 0), some (.int x1905)] [.int c1947.1] (HX c1947.2 T) 0 0 _
    obtain ⟨rfl, rfl⟩ := ai_smP h
    exact ev_end rfl
  · refine ev_if_ne (t := 16) rfl rfl (fun _ => ?_) (fun c9 => absurd c9 hc)
    refine ev_go 2 (pc' := 18) (L' := [some (.ref 0), some (.int x1905)]) (st' := [.int x1905, .ref 0]) (h' := (HX w T)) (cs' := 0) (sl' := 0) rfl ?_
    rcases ai_ifE h with ⟨hc, h⟩ | ⟨hc, h⟩
    · refine ev_call (M' := mf_imageAt) (L' := [some (.ref 0), some (.int x1905)]) (rest := []) (rv := some (.ref 39)) (h' := (HX w T)) rfl (Eimg0 hc _ T) ?_
      show ai_ev D1 mf_image 21 [some (.ref 0), some (.int x1905)] [.ref 39] (HX w T) 0 0 _
      refine ev_go 2 (pc' := 25) (L' := [some (.ref 0), some (.int x1905)]) (st' := [.ref 1, .ref 39]) (h' := (HX w T)) (cs' := 0) (sl' := 0) rfl ?_
      obtain ⟨c1925, hq, h⟩ := ai_bdE h
      refine ev_call (M' := msea_copyFrom) (L' := [some (.ref 39), some (.ref 1)]) (rest := []) (rv := none) (h' := (HX c1925 T)) rfl (Esea_copyFrom_39_1 w _ hq T) ?_
      show ai_ev D1 mf_image 28 [some (.ref 0), some (.int x1905)] [] (HX c1925 T) 0 0 _
      refine ev_go 4 (pc' := 34) (L' := [some (.ref 0), some (.int x1905)]) (st' := [.int 1, .int x1905, .ref 77]) (h' := (HX c1925 T)) (cs' := 0) (sl' := 0) rfl ?_
      obtain ⟨q1926, hq, h⟩ := ai_bdE h
      refine ev_zast rfl rfl hq ?_
      rw [HXs_77]
      refine ev_go 1 (pc' := 36) (L' := [some (.ref 0), some (.int x1905)]) (st' := [.int 1]) (h' := (HX (u_f_imageKept c1925 q1926) T)) (cs' := 0) (sl' := 0) rfl ?_
      obtain ⟨rfl, rfl⟩ := ai_smP h
      exact ev_end rfl
    · refine ev_call (M' := mf_imageAt) (L' := [some (.ref 0), some (.int x1905)]) (rest := []) (rv := some (.ref 58)) (h' := (HX w T)) rfl (Eimg1 hc _ T) ?_
      show ai_ev D1 mf_image 21 [some (.ref 0), some (.int x1905)] [.ref 58] (HX w T) 0 0 _
      refine ev_go 2 (pc' := 25) (L' := [some (.ref 0), some (.int x1905)]) (st' := [.ref 1, .ref 58]) (h' := (HX w T)) (cs' := 0) (sl' := 0) rfl ?_
      obtain ⟨c1945, hq, h⟩ := ai_bdE h
      refine ev_call (M' := msea_copyFrom) (L' := [some (.ref 58), some (.ref 1)]) (rest := []) (rv := none) (h' := (HX c1945 T)) rfl (Esea_copyFrom_58_1 w _ hq T) ?_
      show ai_ev D1 mf_image 28 [some (.ref 0), some (.int x1905)] [] (HX c1945 T) 0 0 _
      refine ev_go 4 (pc' := 34) (L' := [some (.ref 0), some (.int x1905)]) (st' := [.int 1, .int x1905, .ref 77]) (h' := (HX c1945 T)) (cs' := 0) (sl' := 0) rfl ?_
      obtain ⟨q1946, hq, h⟩ := ai_bdE h
      refine ev_zast rfl rfl hq ?_
      rw [HXs_77]
      refine ev_go 1 (pc' := 36) (L' := [some (.ref 0), some (.int x1905)]) (st' := [.int 1]) (h' := (HX (u_f_imageKept c1945 q1946) T)) (cs' := 0) (sl' := 0) rfl ?_
      obtain ⟨rfl, rfl⟩ := ai_smP h
      exact ev_end rfl
set_option maxHeartbeats 40000000 in
set_option maxRecDepth 100000 in
theorem Ethg_copyFrom_7_45 (w : WX) (w' : WX) (h : Fthg_copyFrom_7_45 w = some w') (T : ai_H) : ai_ev D1 mthg_copyFrom 0 [some (.ref 7), some (.ref 45)] [] (HX w T) 0 0 (none, HX w' T) := by
  unfold Fthg_copyFrom_7_45 at h
  refine ev_go 3 (pc' := 5) (L' := [some (.ref 7), some (.ref 45)]) (st' := [.int (a_s3things_count w), .ref 7]) (h' := (HX w T)) (cs' := 0) (sl' := 0) rfl ?_
  refine ev_step rfl rfl rfl (PFX_5_9_7 rfl) ?_
  refine ev_go 7 (pc' := 20) (L' := [some (.ref 7), some (.ref 45)]) (st' := [.int 6, .int 0, .ref 8, .int 0, .ref 46]) (h' := (HX (u_s1things_count w (a_s3things_count w)) T)) (cs' := 0) (sl' := 0) rfl ?_
  obtain ⟨q1956, hq, h⟩ := ai_bdE h
  refine ev_cpy rfl rfl rfl rfl rfl rfl hq ?_
  rw [HXs_8]
  refine ev_go 7 (pc' := 35) (L' := [some (.ref 7), some (.ref 45)]) (st' := [.int 6, .int 0, .ref 9, .int 0, .ref 47]) (h' := (HX (u_s1things_kinds (u_s1things_count w (a_s3things_count w)) q1956) T)) (cs' := 0) (sl' := 0) rfl ?_
  obtain ⟨q1957, hq, h⟩ := ai_bdE h
  refine ev_cpy rfl rfl rfl rfl rfl rfl hq ?_
  rw [HXs_9]
  refine ev_go 7 (pc' := 50) (L' := [some (.ref 7), some (.ref 45)]) (st' := [.int 6, .int 0, .ref 10, .int 0, .ref 48]) (h' := (HX (u_s1things_weights (u_s1things_kinds (u_s1things_count w (a_s3things_count w)) q1956) q1957) T)) (cs' := 0) (sl' := 0) rfl ?_
  obtain ⟨q1958, hq, h⟩ := ai_bdE h
  refine ev_cpy rfl rfl rfl rfl rfl rfl hq ?_
  rw [HXs_10]
  refine ev_go 7 (pc' := 65) (L' := [some (.ref 7), some (.ref 45)]) (st' := [.int 6, .int 0, .ref 11, .int 0, .ref 49]) (h' := (HX (u_s1things_volumes (u_s1things_weights (u_s1things_kinds (u_s1things_count w (a_s3things_count w)) q1956) q1957) q1958) T)) (cs' := 0) (sl' := 0) rfl ?_
  obtain ⟨q1959, hq, h⟩ := ai_bdE h
  refine ev_cpy rfl rfl rfl rfl rfl rfl hq ?_
  rw [HXs_11]
  obtain rfl := Option.some.inj h
  exact ev_end rfl
set_option maxHeartbeats 40000000 in
set_option maxRecDepth 100000 in
theorem Elift_copyFrom_12_50 (w : WX) (w' : WX) (h : Flift_copyFrom_12_50 w = some w') (T : ai_H) : ai_ev D1 mlift_copyFrom 0 [some (.ref 12), some (.ref 50)] [] (HX w T) 0 0 (none, HX w' T) := by
  unfold Flift_copyFrom_12_50 at h
  refine ev_go 3 (pc' := 5) (L' := [some (.ref 12), some (.ref 50)]) (st' := [.int (a_s3lifts_count w), .ref 12]) (h' := (HX w T)) (cs' := 0) (sl' := 0) rfl ?_
  refine ev_step rfl rfl rfl (PFX_1_9_12 rfl) ?_
  refine ev_go 7 (pc' := 20) (L' := [some (.ref 12), some (.ref 50)]) (st' := [.int 10, .int 0, .ref 13, .int 0, .ref 51]) (h' := (HX (u_s1lifts_count w (a_s3lifts_count w)) T)) (cs' := 0) (sl' := 0) rfl ?_
  obtain ⟨q1961, hq, h⟩ := ai_bdE h
  refine ev_cpy rfl rfl rfl rfl rfl rfl hq ?_
  rw [HXs_13]
  refine ev_go 7 (pc' := 35) (L' := [some (.ref 12), some (.ref 50)]) (st' := [.int 10, .int 0, .ref 14, .int 0, .ref 52]) (h' := (HX (u_s1lifts_froms (u_s1lifts_count w (a_s3lifts_count w)) q1961) T)) (cs' := 0) (sl' := 0) rfl ?_
  obtain ⟨q1962, hq, h⟩ := ai_bdE h
  refine ev_cpy rfl rfl rfl rfl rfl rfl hq ?_
  rw [HXs_14]
  refine ev_go 7 (pc' := 50) (L' := [some (.ref 12), some (.ref 50)]) (st' := [.int 10, .int 0, .ref 15, .int 0, .ref 53]) (h' := (HX (u_s1lifts_tos (u_s1lifts_froms (u_s1lifts_count w (a_s3lifts_count w)) q1961) q1962) T)) (cs' := 0) (sl' := 0) rfl ?_
  obtain ⟨q1963, hq, h⟩ := ai_bdE h
  refine ev_cpy rfl rfl rfl rfl rfl rfl hq ?_
  rw [HXs_15]
  obtain rfl := Option.some.inj h
  exact ev_end rfl
set_option maxHeartbeats 40000000 in
set_option maxRecDepth 100000 in
theorem Esea_copyFrom_1_39 (w : WX) (w' : WX) (h : Fsea_copyFrom_1_39 w = some w') (T : ai_H) : ai_ev D1 msea_copyFrom 0 [some (.ref 1), some (.ref 39)] [] (HX w T) 0 0 (none, HX w' T) := by
  unfold Fsea_copyFrom_1_39 at h
  refine ev_go 3 (pc' := 5) (L' := [some (.ref 1), some (.ref 39)]) (st' := [.int (a_s3_cells w), .ref 1]) (h' := (HX w T)) (cs' := 0) (sl' := 0) rfl ?_
  refine ev_step rfl rfl rfl (PFX_2_9_1 rfl) ?_
  refine ev_go 3 (pc' := 13) (L' := [some (.ref 1), some (.ref 39)]) (st' := [.int (a_s3_hour w), .ref 1]) (h' := (HX (u_s1_cells w (a_s3_cells w)) T)) (cs' := 0) (sl' := 0) rfl ?_
  refine ev_step rfl rfl rfl (PFX_2_15_1 rfl) ?_
  refine ev_go 3 (pc' := 21) (L' := [some (.ref 1), some (.ref 39)]) (st' := [.int (a_s3_dams w), .ref 1]) (h' := (HX (u_s1_hour (u_s1_cells w (a_s3_cells w)) (a_s3_hour w)) T)) (cs' := 0) (sl' := 0) rfl ?_
  refine ev_step rfl rfl rfl (PFX_2_18_1 rfl) ?_
  refine ev_go 7 (pc' := 35) (L' := [some (.ref 1), some (.ref 39)]) (st' := [.int 4, .int 0, .ref 2, .int 0, .ref 40]) (h' := (HX (u_s1_dams (u_s1_hour (u_s1_cells w (a_s3_cells w)) (a_s3_hour w)) (a_s3_dams w)) T)) (cs' := 0) (sl' := 0) rfl ?_
  obtain ⟨q1951, hq, h⟩ := ai_bdE h
  refine ev_cpy rfl rfl rfl rfl rfl rfl hq ?_
  rw [HXs_2]
  refine ev_go 7 (pc' := 49) (L' := [some (.ref 1), some (.ref 39)]) (st' := [.int 4, .int 0, .ref 3, .int 0, .ref 41]) (h' := (HX (u_s1_densities (u_s1_dams (u_s1_hour (u_s1_cells w (a_s3_cells w)) (a_s3_hour w)) (a_s3_dams w)) q1951) T)) (cs' := 0) (sl' := 0) rfl ?_
  obtain ⟨q1952, hq, h⟩ := ai_bdE h
  refine ev_cpy rfl rfl rfl rfl rfl rfl hq ?_
  rw [HXs_3]
  refine ev_go 7 (pc' := 64) (L' := [some (.ref 1), some (.ref 39)]) (st' := [.int 24, .int 0, .ref 4, .int 0, .ref 42]) (h' := (HX (u_s1_currents (u_s1_densities (u_s1_dams (u_s1_hour (u_s1_cells w (a_s3_cells w)) (a_s3_hour w)) (a_s3_dams w)) q1951) q1952) T)) (cs' := 0) (sl' := 0) rfl ?_
  obtain ⟨q1953, hq, h⟩ := ai_bdE h
  refine ev_cpy rfl rfl rfl rfl rfl rfl hq ?_
  rw [HXs_4]
  refine ev_go 7 (pc' := 79) (L' := [some (.ref 1), some (.ref 39)]) (st' := [.int 24, .int 0, .ref 5, .int 0, .ref 43]) (h' := (HX (u_s1_tides (u_s1_currents (u_s1_densities (u_s1_dams (u_s1_hour (u_s1_cells w (a_s3_cells w)) (a_s3_hour w)) (a_s3_dams w)) q1951) q1952) q1953) T)) (cs' := 0) (sl' := 0) rfl ?_
  obtain ⟨q1954, hq, h⟩ := ai_bdE h
  refine ev_cpy rfl rfl rfl rfl rfl rfl hq ?_
  rw [HXs_5]
  refine ev_go 7 (pc' := 93) (L' := [some (.ref 1), some (.ref 39)]) (st' := [.int 3, .int 0, .ref 6, .int 0, .ref 44]) (h' := (HX (u_s1_thicks (u_s1_tides (u_s1_currents (u_s1_densities (u_s1_dams (u_s1_hour (u_s1_cells w (a_s3_cells w)) (a_s3_hour w)) (a_s3_dams w)) q1951) q1952) q1953) q1954) T)) (cs' := 0) (sl' := 0) rfl ?_
  obtain ⟨q1955, hq, h⟩ := ai_bdE h
  refine ev_cpy rfl rfl rfl rfl rfl rfl hq ?_
  rw [HXs_6]
  refine ev_go 4 (pc' := 104) (L' := [some (.ref 1), some (.ref 39)]) (st' := [.ref 45, .ref 7]) (h' := (HX (u_s1_skins (u_s1_thicks (u_s1_tides (u_s1_currents (u_s1_densities (u_s1_dams (u_s1_hour (u_s1_cells w (a_s3_cells w)) (a_s3_hour w)) (a_s3_dams w)) q1951) q1952) q1953) q1954) q1955) T)) (cs' := 0) (sl' := 0) rfl ?_
  obtain ⟨c1960, hq, h⟩ := ai_bdE h
  refine ev_call (M' := mthg_copyFrom) (L' := [some (.ref 7), some (.ref 45)]) (rest := []) (rv := none) (h' := (HX c1960 T)) rfl (Ethg_copyFrom_7_45 (u_s1_skins (u_s1_thicks (u_s1_tides (u_s1_currents (u_s1_densities (u_s1_dams (u_s1_hour (u_s1_cells w (a_s3_cells w)) (a_s3_hour w)) (a_s3_dams w)) q1951) q1952) q1953) q1954) q1955) _ hq T) ?_
  show ai_ev D1 msea_copyFrom 107 [some (.ref 1), some (.ref 39)] [] (HX c1960 T) 0 0 _
  refine ev_go 4 (pc' := 115) (L' := [some (.ref 1), some (.ref 39)]) (st' := [.ref 50, .ref 12]) (h' := (HX c1960 T)) (cs' := 0) (sl' := 0) rfl ?_
  obtain ⟨c1964, hq, h⟩ := ai_bdE h
  refine ev_call (M' := mlift_copyFrom) (L' := [some (.ref 12), some (.ref 50)]) (rest := []) (rv := none) (h' := (HX c1964 T)) rfl (Elift_copyFrom_12_50 c1960 _ hq T) ?_
  show ai_ev D1 msea_copyFrom 118 [some (.ref 1), some (.ref 39)] [] (HX c1964 T) 0 0 _
  refine ev_go 3 (pc' := 123) (L' := [some (.ref 1), some (.ref 39)]) (st' := [.int (a_s3_towns c1964), .ref 1]) (h' := (HX c1964 T)) (cs' := 0) (sl' := 0) rfl ?_
  refine ev_step rfl rfl rfl (PFX_2_51_1 rfl) ?_
  refine ev_go 7 (pc' := 138) (L' := [some (.ref 1), some (.ref 39)]) (st' := [.int 6, .int 0, .ref 16, .int 0, .ref 54]) (h' := (HX (u_s1_towns c1964 (a_s3_towns c1964)) T)) (cs' := 0) (sl' := 0) rfl ?_
  obtain ⟨q1965, hq, h⟩ := ai_bdE h
  refine ev_cpy rfl rfl rfl rfl rfl rfl hq ?_
  rw [HXs_16]
  refine ev_go 3 (pc' := 146) (L' := [some (.ref 1), some (.ref 39)]) (st' := [.int (a_s3_drops c1964), .ref 1]) (h' := (HX (u_s1_townPlaces (u_s1_towns c1964 (a_s3_towns c1964)) q1965) T)) (cs' := 0) (sl' := 0) rfl ?_
  refine ev_step rfl rfl rfl (PFX_2_57_1 rfl) ?_
  refine ev_go 7 (pc' := 161) (L' := [some (.ref 1), some (.ref 39)]) (st' := [.int 6, .int 0, .ref 17, .int 0, .ref 55]) (h' := (HX (u_s1_drops (u_s1_townPlaces (u_s1_towns c1964 (a_s3_towns c1964)) q1965) (a_s3_drops c1964)) T)) (cs' := 0) (sl' := 0) rfl ?_
  obtain ⟨q1966, hq, h⟩ := ai_bdE h
  refine ev_cpy rfl rfl rfl rfl rfl rfl hq ?_
  rw [HXs_17]
  refine ev_go 7 (pc' := 176) (L' := [some (.ref 1), some (.ref 39)]) (st' := [.int 6, .int 0, .ref 18, .int 0, .ref 56]) (h' := (HX (u_s1_dropLayers (u_s1_drops (u_s1_townPlaces (u_s1_towns c1964 (a_s3_towns c1964)) q1965) (a_s3_drops c1964)) q1966) T)) (cs' := 0) (sl' := 0) rfl ?_
  obtain ⟨q1967, hq, h⟩ := ai_bdE h
  refine ev_cpy rfl rfl rfl rfl rfl rfl hq ?_
  rw [HXs_18]
  refine ev_go 3 (pc' := 184) (L' := [some (.ref 1), some (.ref 39)]) (st' := [.int (a_s3_undos c1964), .ref 1]) (h' := (HX (u_s1_dropFloats (u_s1_dropLayers (u_s1_drops (u_s1_townPlaces (u_s1_towns c1964 (a_s3_towns c1964)) q1965) (a_s3_drops c1964)) q1966) q1967) T)) (cs' := 0) (sl' := 0) rfl ?_
  refine ev_step rfl rfl rfl (PFX_2_66_1 rfl) ?_
  refine ev_go 7 (pc' := 199) (L' := [some (.ref 1), some (.ref 39)]) (st' := [.int 10, .int 0, .ref 19, .int 0, .ref 57]) (h' := (HX (u_s1_undos (u_s1_dropFloats (u_s1_dropLayers (u_s1_drops (u_s1_townPlaces (u_s1_towns c1964 (a_s3_towns c1964)) q1965) (a_s3_drops c1964)) q1966) q1967) (a_s3_undos c1964)) T)) (cs' := 0) (sl' := 0) rfl ?_
  obtain ⟨q1968, hq, h⟩ := ai_bdE h
  refine ev_cpy rfl rfl rfl rfl rfl rfl hq ?_
  rw [HXs_19]
  obtain rfl := Option.some.inj h
  exact ev_end rfl
set_option maxHeartbeats 40000000 in
set_option maxRecDepth 100000 in
theorem Ethg_copyFrom_7_64 (w : WX) (w' : WX) (h : Fthg_copyFrom_7_64 w = some w') (T : ai_H) : ai_ev D1 mthg_copyFrom 0 [some (.ref 7), some (.ref 64)] [] (HX w T) 0 0 (none, HX w' T) := by
  unfold Fthg_copyFrom_7_64 at h
  refine ev_go 3 (pc' := 5) (L' := [some (.ref 7), some (.ref 64)]) (st' := [.int (a_s4things_count w), .ref 7]) (h' := (HX w T)) (cs' := 0) (sl' := 0) rfl ?_
  refine ev_step rfl rfl rfl (PFX_5_9_7 rfl) ?_
  refine ev_go 7 (pc' := 20) (L' := [some (.ref 7), some (.ref 64)]) (st' := [.int 6, .int 0, .ref 8, .int 0, .ref 65]) (h' := (HX (u_s1things_count w (a_s4things_count w)) T)) (cs' := 0) (sl' := 0) rfl ?_
  obtain ⟨q1975, hq, h⟩ := ai_bdE h
  refine ev_cpy rfl rfl rfl rfl rfl rfl hq ?_
  rw [HXs_8]
  refine ev_go 7 (pc' := 35) (L' := [some (.ref 7), some (.ref 64)]) (st' := [.int 6, .int 0, .ref 9, .int 0, .ref 66]) (h' := (HX (u_s1things_kinds (u_s1things_count w (a_s4things_count w)) q1975) T)) (cs' := 0) (sl' := 0) rfl ?_
  obtain ⟨q1976, hq, h⟩ := ai_bdE h
  refine ev_cpy rfl rfl rfl rfl rfl rfl hq ?_
  rw [HXs_9]
  refine ev_go 7 (pc' := 50) (L' := [some (.ref 7), some (.ref 64)]) (st' := [.int 6, .int 0, .ref 10, .int 0, .ref 67]) (h' := (HX (u_s1things_weights (u_s1things_kinds (u_s1things_count w (a_s4things_count w)) q1975) q1976) T)) (cs' := 0) (sl' := 0) rfl ?_
  obtain ⟨q1977, hq, h⟩ := ai_bdE h
  refine ev_cpy rfl rfl rfl rfl rfl rfl hq ?_
  rw [HXs_10]
  refine ev_go 7 (pc' := 65) (L' := [some (.ref 7), some (.ref 64)]) (st' := [.int 6, .int 0, .ref 11, .int 0, .ref 68]) (h' := (HX (u_s1things_volumes (u_s1things_weights (u_s1things_kinds (u_s1things_count w (a_s4things_count w)) q1975) q1976) q1977) T)) (cs' := 0) (sl' := 0) rfl ?_
  obtain ⟨q1978, hq, h⟩ := ai_bdE h
  refine ev_cpy rfl rfl rfl rfl rfl rfl hq ?_
  rw [HXs_11]
  obtain rfl := Option.some.inj h
  exact ev_end rfl
set_option maxHeartbeats 40000000 in
set_option maxRecDepth 100000 in
theorem Elift_copyFrom_12_69 (w : WX) (w' : WX) (h : Flift_copyFrom_12_69 w = some w') (T : ai_H) : ai_ev D1 mlift_copyFrom 0 [some (.ref 12), some (.ref 69)] [] (HX w T) 0 0 (none, HX w' T) := by
  unfold Flift_copyFrom_12_69 at h
  refine ev_go 3 (pc' := 5) (L' := [some (.ref 12), some (.ref 69)]) (st' := [.int (a_s4lifts_count w), .ref 12]) (h' := (HX w T)) (cs' := 0) (sl' := 0) rfl ?_
  refine ev_step rfl rfl rfl (PFX_1_9_12 rfl) ?_
  refine ev_go 7 (pc' := 20) (L' := [some (.ref 12), some (.ref 69)]) (st' := [.int 10, .int 0, .ref 13, .int 0, .ref 70]) (h' := (HX (u_s1lifts_count w (a_s4lifts_count w)) T)) (cs' := 0) (sl' := 0) rfl ?_
  obtain ⟨q1980, hq, h⟩ := ai_bdE h
  refine ev_cpy rfl rfl rfl rfl rfl rfl hq ?_
  rw [HXs_13]
  refine ev_go 7 (pc' := 35) (L' := [some (.ref 12), some (.ref 69)]) (st' := [.int 10, .int 0, .ref 14, .int 0, .ref 71]) (h' := (HX (u_s1lifts_froms (u_s1lifts_count w (a_s4lifts_count w)) q1980) T)) (cs' := 0) (sl' := 0) rfl ?_
  obtain ⟨q1981, hq, h⟩ := ai_bdE h
  refine ev_cpy rfl rfl rfl rfl rfl rfl hq ?_
  rw [HXs_14]
  refine ev_go 7 (pc' := 50) (L' := [some (.ref 12), some (.ref 69)]) (st' := [.int 10, .int 0, .ref 15, .int 0, .ref 72]) (h' := (HX (u_s1lifts_tos (u_s1lifts_froms (u_s1lifts_count w (a_s4lifts_count w)) q1980) q1981) T)) (cs' := 0) (sl' := 0) rfl ?_
  obtain ⟨q1982, hq, h⟩ := ai_bdE h
  refine ev_cpy rfl rfl rfl rfl rfl rfl hq ?_
  rw [HXs_15]
  obtain rfl := Option.some.inj h
  exact ev_end rfl
set_option maxHeartbeats 40000000 in
set_option maxRecDepth 100000 in
theorem Esea_copyFrom_1_58 (w : WX) (w' : WX) (h : Fsea_copyFrom_1_58 w = some w') (T : ai_H) : ai_ev D1 msea_copyFrom 0 [some (.ref 1), some (.ref 58)] [] (HX w T) 0 0 (none, HX w' T) := by
  unfold Fsea_copyFrom_1_58 at h
  refine ev_go 3 (pc' := 5) (L' := [some (.ref 1), some (.ref 58)]) (st' := [.int (a_s4_cells w), .ref 1]) (h' := (HX w T)) (cs' := 0) (sl' := 0) rfl ?_
  refine ev_step rfl rfl rfl (PFX_2_9_1 rfl) ?_
  refine ev_go 3 (pc' := 13) (L' := [some (.ref 1), some (.ref 58)]) (st' := [.int (a_s4_hour w), .ref 1]) (h' := (HX (u_s1_cells w (a_s4_cells w)) T)) (cs' := 0) (sl' := 0) rfl ?_
  refine ev_step rfl rfl rfl (PFX_2_15_1 rfl) ?_
  refine ev_go 3 (pc' := 21) (L' := [some (.ref 1), some (.ref 58)]) (st' := [.int (a_s4_dams w), .ref 1]) (h' := (HX (u_s1_hour (u_s1_cells w (a_s4_cells w)) (a_s4_hour w)) T)) (cs' := 0) (sl' := 0) rfl ?_
  refine ev_step rfl rfl rfl (PFX_2_18_1 rfl) ?_
  refine ev_go 7 (pc' := 35) (L' := [some (.ref 1), some (.ref 58)]) (st' := [.int 4, .int 0, .ref 2, .int 0, .ref 59]) (h' := (HX (u_s1_dams (u_s1_hour (u_s1_cells w (a_s4_cells w)) (a_s4_hour w)) (a_s4_dams w)) T)) (cs' := 0) (sl' := 0) rfl ?_
  obtain ⟨q1970, hq, h⟩ := ai_bdE h
  refine ev_cpy rfl rfl rfl rfl rfl rfl hq ?_
  rw [HXs_2]
  refine ev_go 7 (pc' := 49) (L' := [some (.ref 1), some (.ref 58)]) (st' := [.int 4, .int 0, .ref 3, .int 0, .ref 60]) (h' := (HX (u_s1_densities (u_s1_dams (u_s1_hour (u_s1_cells w (a_s4_cells w)) (a_s4_hour w)) (a_s4_dams w)) q1970) T)) (cs' := 0) (sl' := 0) rfl ?_
  obtain ⟨q1971, hq, h⟩ := ai_bdE h
  refine ev_cpy rfl rfl rfl rfl rfl rfl hq ?_
  rw [HXs_3]
  refine ev_go 7 (pc' := 64) (L' := [some (.ref 1), some (.ref 58)]) (st' := [.int 24, .int 0, .ref 4, .int 0, .ref 61]) (h' := (HX (u_s1_currents (u_s1_densities (u_s1_dams (u_s1_hour (u_s1_cells w (a_s4_cells w)) (a_s4_hour w)) (a_s4_dams w)) q1970) q1971) T)) (cs' := 0) (sl' := 0) rfl ?_
  obtain ⟨q1972, hq, h⟩ := ai_bdE h
  refine ev_cpy rfl rfl rfl rfl rfl rfl hq ?_
  rw [HXs_4]
  refine ev_go 7 (pc' := 79) (L' := [some (.ref 1), some (.ref 58)]) (st' := [.int 24, .int 0, .ref 5, .int 0, .ref 62]) (h' := (HX (u_s1_tides (u_s1_currents (u_s1_densities (u_s1_dams (u_s1_hour (u_s1_cells w (a_s4_cells w)) (a_s4_hour w)) (a_s4_dams w)) q1970) q1971) q1972) T)) (cs' := 0) (sl' := 0) rfl ?_
  obtain ⟨q1973, hq, h⟩ := ai_bdE h
  refine ev_cpy rfl rfl rfl rfl rfl rfl hq ?_
  rw [HXs_5]
  refine ev_go 7 (pc' := 93) (L' := [some (.ref 1), some (.ref 58)]) (st' := [.int 3, .int 0, .ref 6, .int 0, .ref 63]) (h' := (HX (u_s1_thicks (u_s1_tides (u_s1_currents (u_s1_densities (u_s1_dams (u_s1_hour (u_s1_cells w (a_s4_cells w)) (a_s4_hour w)) (a_s4_dams w)) q1970) q1971) q1972) q1973) T)) (cs' := 0) (sl' := 0) rfl ?_
  obtain ⟨q1974, hq, h⟩ := ai_bdE h
  refine ev_cpy rfl rfl rfl rfl rfl rfl hq ?_
  rw [HXs_6]
  refine ev_go 4 (pc' := 104) (L' := [some (.ref 1), some (.ref 58)]) (st' := [.ref 64, .ref 7]) (h' := (HX (u_s1_skins (u_s1_thicks (u_s1_tides (u_s1_currents (u_s1_densities (u_s1_dams (u_s1_hour (u_s1_cells w (a_s4_cells w)) (a_s4_hour w)) (a_s4_dams w)) q1970) q1971) q1972) q1973) q1974) T)) (cs' := 0) (sl' := 0) rfl ?_
  obtain ⟨c1979, hq, h⟩ := ai_bdE h
  refine ev_call (M' := mthg_copyFrom) (L' := [some (.ref 7), some (.ref 64)]) (rest := []) (rv := none) (h' := (HX c1979 T)) rfl (Ethg_copyFrom_7_64 (u_s1_skins (u_s1_thicks (u_s1_tides (u_s1_currents (u_s1_densities (u_s1_dams (u_s1_hour (u_s1_cells w (a_s4_cells w)) (a_s4_hour w)) (a_s4_dams w)) q1970) q1971) q1972) q1973) q1974) _ hq T) ?_
  show ai_ev D1 msea_copyFrom 107 [some (.ref 1), some (.ref 58)] [] (HX c1979 T) 0 0 _
  refine ev_go 4 (pc' := 115) (L' := [some (.ref 1), some (.ref 58)]) (st' := [.ref 69, .ref 12]) (h' := (HX c1979 T)) (cs' := 0) (sl' := 0) rfl ?_
  obtain ⟨c1983, hq, h⟩ := ai_bdE h
  refine ev_call (M' := mlift_copyFrom) (L' := [some (.ref 12), some (.ref 69)]) (rest := []) (rv := none) (h' := (HX c1983 T)) rfl (Elift_copyFrom_12_69 c1979 _ hq T) ?_
  show ai_ev D1 msea_copyFrom 118 [some (.ref 1), some (.ref 58)] [] (HX c1983 T) 0 0 _
  refine ev_go 3 (pc' := 123) (L' := [some (.ref 1), some (.ref 58)]) (st' := [.int (a_s4_towns c1983), .ref 1]) (h' := (HX c1983 T)) (cs' := 0) (sl' := 0) rfl ?_
  refine ev_step rfl rfl rfl (PFX_2_51_1 rfl) ?_
  refine ev_go 7 (pc' := 138) (L' := [some (.ref 1), some (.ref 58)]) (st' := [.int 6, .int 0, .ref 16, .int 0, .ref 73]) (h' := (HX (u_s1_towns c1983 (a_s4_towns c1983)) T)) (cs' := 0) (sl' := 0) rfl ?_
  obtain ⟨q1984, hq, h⟩ := ai_bdE h
  refine ev_cpy rfl rfl rfl rfl rfl rfl hq ?_
  rw [HXs_16]
  refine ev_go 3 (pc' := 146) (L' := [some (.ref 1), some (.ref 58)]) (st' := [.int (a_s4_drops c1983), .ref 1]) (h' := (HX (u_s1_townPlaces (u_s1_towns c1983 (a_s4_towns c1983)) q1984) T)) (cs' := 0) (sl' := 0) rfl ?_
  refine ev_step rfl rfl rfl (PFX_2_57_1 rfl) ?_
  refine ev_go 7 (pc' := 161) (L' := [some (.ref 1), some (.ref 58)]) (st' := [.int 6, .int 0, .ref 17, .int 0, .ref 74]) (h' := (HX (u_s1_drops (u_s1_townPlaces (u_s1_towns c1983 (a_s4_towns c1983)) q1984) (a_s4_drops c1983)) T)) (cs' := 0) (sl' := 0) rfl ?_
  obtain ⟨q1985, hq, h⟩ := ai_bdE h
  refine ev_cpy rfl rfl rfl rfl rfl rfl hq ?_
  rw [HXs_17]
  refine ev_go 7 (pc' := 176) (L' := [some (.ref 1), some (.ref 58)]) (st' := [.int 6, .int 0, .ref 18, .int 0, .ref 75]) (h' := (HX (u_s1_dropLayers (u_s1_drops (u_s1_townPlaces (u_s1_towns c1983 (a_s4_towns c1983)) q1984) (a_s4_drops c1983)) q1985) T)) (cs' := 0) (sl' := 0) rfl ?_
  obtain ⟨q1986, hq, h⟩ := ai_bdE h
  refine ev_cpy rfl rfl rfl rfl rfl rfl hq ?_
  rw [HXs_18]
  refine ev_go 3 (pc' := 184) (L' := [some (.ref 1), some (.ref 58)]) (st' := [.int (a_s4_undos c1983), .ref 1]) (h' := (HX (u_s1_dropFloats (u_s1_dropLayers (u_s1_drops (u_s1_townPlaces (u_s1_towns c1983 (a_s4_towns c1983)) q1984) (a_s4_drops c1983)) q1985) q1986) T)) (cs' := 0) (sl' := 0) rfl ?_
  refine ev_step rfl rfl rfl (PFX_2_66_1 rfl) ?_
  refine ev_go 7 (pc' := 199) (L' := [some (.ref 1), some (.ref 58)]) (st' := [.int 10, .int 0, .ref 19, .int 0, .ref 76]) (h' := (HX (u_s1_undos (u_s1_dropFloats (u_s1_dropLayers (u_s1_drops (u_s1_townPlaces (u_s1_towns c1983 (a_s4_towns c1983)) q1984) (a_s4_drops c1983)) q1985) q1986) (a_s4_undos c1983)) T)) (cs' := 0) (sl' := 0) rfl ?_
  obtain ⟨q1987, hq, h⟩ := ai_bdE h
  refine ev_cpy rfl rfl rfl rfl rfl rfl hq ?_
  rw [HXs_19]
  obtain rfl := Option.some.inj h
  exact ev_end rfl
set_option maxHeartbeats 40000000 in
set_option maxRecDepth 100000 in
theorem Ef_from_0 (x1948 : Int32) (w : WX) (r : Int32) (w' : WX) (h : Ff_from_0 x1948 w = some (r, w')) (T : ai_H) : ai_ev D1 mf_from 0 [some (.ref 0), some (.int x1948)] [] (HX w T) 0 0 (some (.int r), HX w' T) := by
  unfold Ff_from_0 at h
  refine ev_go 3 (pc' := 3) (L' := [some (.ref 0), some (.int x1948)]) (st' := [.int 1, .int 0, .int x1948]) (h' := (HX w T)) (cs' := 0) (sl' := 0) rfl ?_
  obtain ⟨c1949, hq, h⟩ := ai_bdE h
  refine ev_call (M' := mf_within) (L' := [some (.int x1948), some (.int 0), some (.int 1)]) (rest := []) (rv := some (.int c1949)) (h' := (HX w T)) rfl (Ef_within x1948 0 1 _ hq (HX w T)) ?_
  show ai_ev D1 mf_from 6 [some (.ref 0), some (.int x1948)] [.int c1949] (HX w T) 0 0 _
  rcases ai_ifE h with ⟨hc, h⟩ | ⟨hc, h⟩
  · refine ev_if_ne (t := 16) rfl rfl (fun c9 => absurd hc c9) (fun _ => ?_)
    refine ev_go 2 (pc' := 12) (L' := [some (.ref 0), some (.int x1948)]) (st' := [.int (-2), .ref 0]) (h' := (HX w T)) (cs' := 0) (sl' := 0) rfl ?_
    obtain ⟨c1990, hq, h⟩ := ai_bdE h
    refine ev_call (M' := mf_bad) (L' := [some (.ref 0), some (.int (-2))]) (rest := []) (rv := some (.int c1990.1)) (h' := (HX c1990.2 T)) rfl (Ef_bad_0 (-2) w _ _ hq T) ?_
    show ai_ev D1 mf_from 15 [some (.ref 0), some (.int x1948)] [.int c1990.1] (HX c1990.2 T) 0 0 _
    obtain ⟨rfl, rfl⟩ := ai_smP h
    exact ev_end rfl
  · refine ev_if_ne (t := 16) rfl rfl (fun _ => ?_) (fun c9 => absurd c9 hc)
    refine ev_go 3 (pc' := 21) (L' := [some (.ref 0), some (.int x1948)]) (st' := [.int x1948, .ref 77]) (h' := (HX w T)) (cs' := 0) (sl' := 0) rfl ?_
    obtain ⟨v1950, hq, h⟩ := ai_bdE h
    refine ev_zald rfl rfl hq ?_
    rcases ai_ifE h with ⟨hc, h⟩ | ⟨hc, h⟩
    · refine ev_if_ne (t := 32) rfl rfl (fun c9 => absurd hc c9) (fun _ => ?_)
      refine ev_go 2 (pc' := 28) (L' := [some (.ref 0), some (.int x1948)]) (st' := [.int (-3), .ref 0]) (h' := (HX w T)) (cs' := 0) (sl' := 0) rfl ?_
      obtain ⟨c1989, hq, h⟩ := ai_bdE h
      refine ev_call (M' := mf_counted) (L' := [some (.ref 0), some (.int (-3))]) (rest := []) (rv := some (.int c1989.1)) (h' := (HX c1989.2 T)) rfl (Ef_counted_0 (-3) w _ _ hq T) ?_
      show ai_ev D1 mf_from 31 [some (.ref 0), some (.int x1948)] [.int c1989.1] (HX c1989.2 T) 0 0 _
      obtain ⟨rfl, rfl⟩ := ai_smP h
      exact ev_end rfl
    · refine ev_if_ne (t := 32) rfl rfl (fun _ => ?_) (fun c9 => absurd c9 hc)
      refine ev_go 4 (pc' := 38) (L' := [some (.ref 0), some (.int x1948)]) (st' := [.int x1948, .ref 0, .ref 1]) (h' := (HX w T)) (cs' := 0) (sl' := 0) rfl ?_
      rcases ai_ifE h with ⟨hc, h⟩ | ⟨hc, h⟩
      · refine ev_call (M' := mf_imageAt) (L' := [some (.ref 0), some (.int x1948)]) (rest := [.ref 1]) (rv := some (.ref 39)) (h' := (HX w T)) rfl (Eimg0 hc _ T) ?_
        show ai_ev D1 mf_from 41 [some (.ref 0), some (.int x1948)] [.ref 39, .ref 1] (HX w T) 0 0 _
        obtain ⟨c1969, hq, h⟩ := ai_bdE h
        refine ev_call (M' := msea_copyFrom) (L' := [some (.ref 1), some (.ref 39)]) (rest := []) (rv := none) (h' := (HX c1969 T)) rfl (Esea_copyFrom_1_39 w _ hq T) ?_
        show ai_ev D1 mf_from 44 [some (.ref 0), some (.int x1948)] [] (HX c1969 T) 0 0 _
        refine ev_go 1 (pc' := 45) (L' := [some (.ref 0), some (.int x1948)]) (st' := [.int 1]) (h' := (HX c1969 T)) (cs' := 0) (sl' := 0) rfl ?_
        obtain ⟨rfl, rfl⟩ := ai_smP h
        exact ev_end rfl
      · refine ev_call (M' := mf_imageAt) (L' := [some (.ref 0), some (.int x1948)]) (rest := [.ref 1]) (rv := some (.ref 58)) (h' := (HX w T)) rfl (Eimg1 hc _ T) ?_
        show ai_ev D1 mf_from 41 [some (.ref 0), some (.int x1948)] [.ref 58, .ref 1] (HX w T) 0 0 _
        obtain ⟨c1988, hq, h⟩ := ai_bdE h
        refine ev_call (M' := msea_copyFrom) (L' := [some (.ref 1), some (.ref 58)]) (rest := []) (rv := none) (h' := (HX c1988 T)) rfl (Esea_copyFrom_1_58 w _ hq T) ?_
        show ai_ev D1 mf_from 44 [some (.ref 0), some (.int x1948)] [] (HX c1988 T) 0 0 _
        refine ev_go 1 (pc' := 45) (L' := [some (.ref 0), some (.int x1948)]) (st' := [.int 1]) (h' := (HX c1988 T)) (cs' := 0) (sl' := 0) rfl ?_
        obtain ⟨rfl, rfl⟩ := ai_smP h
        exact ev_end rfl
set_option maxHeartbeats 40000000 in
set_option maxRecDepth 100000 in
theorem Ef_status_0 (x1991 : Int32) (w : WX) (r : Int32) (w' : WX) (h : Ff_status_0 x1991 w = some (r, w')) (T : ai_H) : ai_ev D1 mf_status 0 [some (.ref 0), some (.int x1991)] [] (HX w T) 0 0 (some (.int r), HX w' T) := by
  unfold Ff_status_0 at h
  refine ev_go 1 (pc' := 1) (L' := [some (.ref 0), some (.int x1991)]) (st' := [.int x1991]) (h' := (HX w T)) (cs' := 0) (sl' := 0) rfl ?_
  rcases ai_ifE h with ⟨hc, h⟩ | ⟨hs0, h⟩
  · refine ev_swi (k := 0) (t := 28) rfl hc (by decide) (by decide) rfl rfl ?_
    refine ev_go 2 (pc' := 32) (L' := [some (.ref 0), some (.int x1991)]) (st' := [.int (a_f_refusedBad w)]) (h' := (HX w T)) (cs' := 0) (sl' := 0) rfl ?_
    obtain ⟨rfl, rfl⟩ := ai_smP h
    exact ev_end rfl
  rcases ai_ifE h with ⟨hc, h⟩ | ⟨hs1, h⟩
  · refine ev_swi (k := 1) (t := 33) rfl hc (by decide) (by decide) rfl rfl ?_
    refine ev_go 2 (pc' := 37) (L' := [some (.ref 0), some (.int x1991)]) (st' := [.int (a_f_refusedNo w)]) (h' := (HX w T)) (cs' := 0) (sl' := 0) rfl ?_
    obtain ⟨rfl, rfl⟩ := ai_smP h
    exact ev_end rfl
  rcases ai_ifE h with ⟨hc, h⟩ | ⟨hs2, h⟩
  · refine ev_swi (k := 2) (t := 38) rfl hc (by decide) (by decide) rfl rfl ?_
    refine ev_go 2 (pc' := 42) (L' := [some (.ref 0), some (.int x1991)]) (st' := [.int (a_f_refusedFull w)]) (h' := (HX w T)) (cs' := 0) (sl' := 0) rfl ?_
    obtain ⟨rfl, rfl⟩ := ai_smP h
    exact ev_end rfl
  refine ev_swo (t := 43) (lo := 0) (n := 3) rfl (sw_out 0 3 (fun k hk => by match k, hk with | 0, _ => exact hs0 | 1, _ => exact hs1 | 2, _ => exact hs2 | k + 3, hk => exact absurd hk (by omega))) ⟨rfl, by decide⟩ rfl ?_
  refine ev_go 2 (pc' := 45) (L' := [some (.ref 0), some (.int x1991)]) (st' := [.int (-1), .ref 0]) (h' := (HX w T)) (cs' := 0) (sl' := 0) rfl ?_
  obtain ⟨c1992, hq, h⟩ := ai_bdE h
  refine ev_call (M' := mf_bad) (L' := [some (.ref 0), some (.int (-1))]) (rest := []) (rv := some (.int c1992.1)) (h' := (HX c1992.2 T)) rfl (Ef_bad_0 (-1) w _ _ hq T) ?_
  show ai_ev D1 mf_status 48 [some (.ref 0), some (.int x1991)] [.int c1992.1] (HX c1992.2 T) 0 0 _
  obtain ⟨rfl, rfl⟩ := ai_smP h
  exact ev_end rfl
set_option maxHeartbeats 40000000 in
set_option maxRecDepth 100000 in
theorem Esea_countOf_1 (x1995 : Int32) (w : WX) (r : Int32) (w' : WX) (h : Fsea_countOf_1 x1995 w = some (r, w')) (T : ai_H) : ai_ev D1 msea_countOf 0 [some (.ref 1), some (.int x1995)] [] (HX w T) 0 0 (some (.int r), HX w' T) := by
  unfold Fsea_countOf_1 at h
  refine ev_go 1 (pc' := 1) (L' := [some (.ref 1), some (.int x1995)]) (st' := [.int x1995]) (h' := (HX w T)) (cs' := 0) (sl' := 0) rfl ?_
  rcases ai_ifE h with ⟨hc, h⟩ | ⟨hs0, h⟩
  · refine ev_swi (k := 0) (t := 44) rfl hc (by decide) (by decide) rfl rfl ?_
    refine ev_go 2 (pc' := 48) (L' := [some (.ref 1), some (.int x1995)]) (st' := [.int (a_s1_cells w)]) (h' := (HX w T)) (cs' := 0) (sl' := 0) rfl ?_
    obtain ⟨rfl, rfl⟩ := ai_smP h
    exact ev_end rfl
  rcases ai_ifE h with ⟨hc, h⟩ | ⟨hs1, h⟩
  · refine ev_swi (k := 1) (t := 49) rfl hc (by decide) (by decide) rfl rfl ?_
    refine ev_go 2 (pc' := 53) (L' := [some (.ref 1), some (.int x1995)]) (st' := [.int (a_s1_hour w)]) (h' := (HX w T)) (cs' := 0) (sl' := 0) rfl ?_
    obtain ⟨rfl, rfl⟩ := ai_smP h
    exact ev_end rfl
  rcases ai_ifE h with ⟨hc, h⟩ | ⟨hs2, h⟩
  · refine ev_swi (k := 2) (t := 54) rfl hc (by decide) (by decide) rfl rfl ?_
    refine ev_go 3 (pc' := 61) (L' := [some (.ref 1), some (.int x1995)]) (st' := [.int (a_s1things_count w)]) (h' := (HX w T)) (cs' := 0) (sl' := 0) rfl ?_
    obtain ⟨rfl, rfl⟩ := ai_smP h
    exact ev_end rfl
  rcases ai_ifE h with ⟨hc, h⟩ | ⟨hs3, h⟩
  · refine ev_swi (k := 3) (t := 62) rfl hc (by decide) (by decide) rfl rfl ?_
    refine ev_go 3 (pc' := 69) (L' := [some (.ref 1), some (.int x1995)]) (st' := [.int (a_s1lifts_count w)]) (h' := (HX w T)) (cs' := 0) (sl' := 0) rfl ?_
    obtain ⟨rfl, rfl⟩ := ai_smP h
    exact ev_end rfl
  rcases ai_ifE h with ⟨hc, h⟩ | ⟨hs4, h⟩
  · refine ev_swi (k := 4) (t := 70) rfl hc (by decide) (by decide) rfl rfl ?_
    refine ev_go 2 (pc' := 74) (L' := [some (.ref 1), some (.int x1995)]) (st' := [.int (a_s1_towns w)]) (h' := (HX w T)) (cs' := 0) (sl' := 0) rfl ?_
    obtain ⟨rfl, rfl⟩ := ai_smP h
    exact ev_end rfl
  rcases ai_ifE h with ⟨hc, h⟩ | ⟨hs5, h⟩
  · refine ev_swi (k := 5) (t := 75) rfl hc (by decide) (by decide) rfl rfl ?_
    refine ev_go 2 (pc' := 79) (L' := [some (.ref 1), some (.int x1995)]) (st' := [.int (a_s1_dams w)]) (h' := (HX w T)) (cs' := 0) (sl' := 0) rfl ?_
    obtain ⟨rfl, rfl⟩ := ai_smP h
    exact ev_end rfl
  rcases ai_ifE h with ⟨hc, h⟩ | ⟨hs6, h⟩
  · refine ev_swi (k := 6) (t := 80) rfl hc (by decide) (by decide) rfl rfl ?_
    refine ev_go 2 (pc' := 84) (L' := [some (.ref 1), some (.int x1995)]) (st' := [.int (a_s1_drops w)]) (h' := (HX w T)) (cs' := 0) (sl' := 0) rfl ?_
    obtain ⟨rfl, rfl⟩ := ai_smP h
    exact ev_end rfl
  refine ev_swo (t := 85) (lo := 0) (n := 7) rfl (sw_out 0 7 (fun k hk => by match k, hk with | 0, _ => exact hs0 | 1, _ => exact hs1 | 2, _ => exact hs2 | 3, _ => exact hs3 | 4, _ => exact hs4 | 5, _ => exact hs5 | 6, _ => exact hs6 | k + 7, hk => exact absurd hk (by omega))) ⟨rfl, by decide⟩ rfl ?_
  refine ev_go 2 (pc' := 89) (L' := [some (.ref 1), some (.int x1995)]) (st' := [.int (a_s1_undos w)]) (h' := (HX w T)) (cs' := 0) (sl' := 0) rfl ?_
  obtain ⟨rfl, rfl⟩ := ai_smP h
  exact ev_end rfl
set_option maxHeartbeats 40000000 in
set_option maxRecDepth 100000 in
theorem Ef_count_0 (x1993 : Int32) (w : WX) (r : Int32) (w' : WX) (h : Ff_count_0 x1993 w = some (r, w')) (T : ai_H) : ai_ev D1 mf_count 0 [some (.ref 0), some (.int x1993)] [] (HX w T) 0 0 (some (.int r), HX w' T) := by
  unfold Ff_count_0 at h
  refine ev_go 3 (pc' := 4) (L' := [some (.ref 0), some (.int x1993)]) (st' := [.int 8, .int 0, .int x1993]) (h' := (HX w T)) (cs' := 0) (sl' := 0) rfl ?_
  obtain ⟨c1994, hq, h⟩ := ai_bdE h
  refine ev_call (M' := mf_within) (L' := [some (.int x1993), some (.int 0), some (.int 8)]) (rest := []) (rv := some (.int c1994)) (h' := (HX w T)) rfl (Ef_within x1993 0 8 _ hq (HX w T)) ?_
  show ai_ev D1 mf_count 7 [some (.ref 0), some (.int x1993)] [.int c1994] (HX w T) 0 0 _
  rcases ai_ifE h with ⟨hc, h⟩ | ⟨hc, h⟩
  · refine ev_if_ne (t := 17) rfl rfl (fun c9 => absurd hc c9) (fun _ => ?_)
    refine ev_go 2 (pc' := 13) (L' := [some (.ref 0), some (.int x1993)]) (st' := [.int (-2), .ref 0]) (h' := (HX w T)) (cs' := 0) (sl' := 0) rfl ?_
    obtain ⟨c1997, hq, h⟩ := ai_bdE h
    refine ev_call (M' := mf_bad) (L' := [some (.ref 0), some (.int (-2))]) (rest := []) (rv := some (.int c1997.1)) (h' := (HX c1997.2 T)) rfl (Ef_bad_0 (-2) w _ _ hq T) ?_
    show ai_ev D1 mf_count 16 [some (.ref 0), some (.int x1993)] [.int c1997.1] (HX c1997.2 T) 0 0 _
    obtain ⟨rfl, rfl⟩ := ai_smP h
    exact ev_end rfl
  · refine ev_if_ne (t := 17) rfl rfl (fun _ => ?_) (fun c9 => absurd c9 hc)
    refine ev_go 2 (pc' := 20) (L' := [some (.ref 0), some (.int x1993)]) (st' := [.int 8, .int x1993]) (h' := (HX w T)) (cs' := 0) (sl' := 0) rfl ?_
    rcases ai_ifE h with ⟨hc, h⟩ | ⟨hc, h⟩
    · refine ev_ic_ne (t := 33) rfl rfl (fun c9 => absurd hc c9) (fun _ => ?_)
      refine ev_go 4 (pc' := 41) (L' := [some (.ref 0), some (.int x1993)]) (st' := [.int (a_text_length w)]) (h' := (HX w T)) (cs' := 0) (sl' := 0) rfl ?_
      obtain ⟨rfl, rfl⟩ := ai_smP h
      exact ev_end rfl
    · refine ev_ic_ne (t := 33) rfl rfl (fun _ => ?_) (fun c9 => absurd c9 hc)
      refine ev_go 3 (pc' := 38) (L' := [some (.ref 0), some (.int x1993)]) (st' := [.int x1993, .ref 1]) (h' := (HX w T)) (cs' := 0) (sl' := 0) rfl ?_
      obtain ⟨c1996, hq, h⟩ := ai_bdE h
      refine ev_call (M' := msea_countOf) (L' := [some (.ref 1), some (.int x1993)]) (rest := []) (rv := some (.int c1996.1)) (h' := (HX c1996.2 T)) rfl (Esea_countOf_1 x1993 w _ _ hq T) ?_
      show ai_ev D1 mf_count 41 [some (.ref 0), some (.int x1993)] [.int c1996.1] (HX c1996.2 T) 0 0 _
      obtain ⟨rfl, rfl⟩ := ai_smP h
      exact ev_end rfl
set_option maxHeartbeats 40000000 in
set_option maxRecDepth 100000 in
theorem EGsea_digestWaters_1 : ∀ n : Nat, (∀ (y2001 : Int64) (y2002 : Int64) (y2003 : Int32) (w : WX) (r : Int64) (w' : WX), Gsea_digestWaters_1 n 0 y2003 0 y2001 y2002 w = some (r, w') → ∀ (T : ai_H) (o6 : Option Value), ai_ev D1 msea_digestWaters 5 [some (.ref 1), some (.long y2001), none, some (.long y2002), none, some (.int y2003), o6] [] (HX w T) 0 0 (some (.long r), HX w' T)) ∧ (∀ (y2010 : Int64) (y2011 : Int64) (y2012 : Int32) (y2013 : Int32) (w : WX) (r : Int64) (w' : WX), Gsea_digestWaters_1 n 1 y2012 y2013 y2010 y2011 w = some (r, w') → ∀ (T : ai_H), ai_ev D1 msea_digestWaters 44 [some (.ref 1), some (.long y2010), none, some (.long y2011), none, some (.int y2012), some (.int y2013)] [] (HX w T) 0 0 (some (.long r), HX w' T)) ∧ (∀ (y2015 : Int64) (y2016 : Int64) (y2017 : Int32) (y2018 : Int32) (w : WX) (r : Int64) (w' : WX), Gsea_digestWaters_1 n 2 y2017 y2018 y2015 y2016 w = some (r, w') → ∀ (T : ai_H), ai_ev D1 msea_digestWaters 81 [some (.ref 1), some (.long y2015), none, some (.long y2016), none, some (.int y2017), some (.int y2018)] [] (HX w T) 0 0 (some (.long r), HX w' T)) ∧ (∀ (y2006 : Int64) (y2007 : Int64) (y2008 : Int32) (w : WX) (r : Int64) (w' : WX), Gsea_digestWaters_1 n 3 y2008 0 y2006 y2007 w = some (r, w') → ∀ (T : ai_H) (o6 : Option Value), ai_ev D1 msea_digestWaters 126 [some (.ref 1), some (.long y2006), none, some (.long y2007), none, some (.int y2008), o6] [] (HX w T) 0 0 (some (.long r), HX w' T)) := by
  intro n
  induction n with
  | zero =>
    exact ⟨(fun _ _ _ _ _ _ h => by cases h), (fun _ _ _ _ _ _ _ h => by cases h), (fun _ _ _ _ _ _ _ h => by cases h), (fun _ _ _ _ _ _ h => by cases h)⟩
  | succ n ih =>
    obtain ⟨ih0, ih1, ih2, ih3⟩ := ih
    refine ⟨?_, ?_, ?_, ?_⟩
    · intro y2001 y2002 y2003 w r w' h T o6
      simp only [Gsea_digestWaters_1] at h
      refine ev_go 2 (pc' := 8) (L' := [some (.ref 1), some (.long y2001), none, some (.long y2002), none, some (.int y2003), o6]) (st' := [.int 4, .int y2003]) (h' := (HX w T)) (cs' := 0) (sl' := 0) rfl ?_
      rcases ai_ifE h with ⟨hc, h⟩ | ⟨hc, h⟩
      · refine ev_ic_ge (t := 123) rfl rfl (fun _ => ?_) (fun c9 => absurd hc c9)
        refine ev_go 2 (pc' := 126) (L' := [some (.ref 1), some (.long y2001), none, some (.long y2002), none, some (.int 0), o6]) (st' := []) (h' := (HX w T)) (cs' := 0) (sl' := 0) rfl ?_
        exact ih3 _ _ _ _ _ _ h T _
      · refine ev_ic_ge (t := 123) rfl rfl (fun c9 => absurd c9 hc) (fun _ => ?_)
        refine ev_go 6 (pc' := 22) (L' := [some (.ref 1), some (.long y2001), none, some (.long y2002), none, some (.int y2003), o6]) (st' := [.int y2003, .ref 2, .long (31 * y2002)]) (h' := (HX w T)) (cs' := 0) (sl' := 0) rfl ?_
        obtain ⟨v2004, hq, h⟩ := ai_bdE h
        refine ev_iald rfl rfl hq ?_
        refine ev_go 9 (pc' := 37) (L' := [some (.ref 1), some (.long y2001), none, some (.long ((31 * y2002) + (v2004).toInt64)), none, some (.int y2003), o6]) (st' := [.int y2003, .ref 3, .long (31 * ((31 * y2002) + (v2004).toInt64))]) (h' := (HX w T)) (cs' := 0) (sl' := 0) rfl ?_
        obtain ⟨v2005, hq, h⟩ := ai_bdE h
        refine ev_iald rfl rfl hq ?_
        refine ev_go 5 (pc' := 44) (L' := [some (.ref 1), some (.long y2001), none, some (.long ((31 * ((31 * y2002) + (v2004).toInt64)) + (v2005).toInt64)), none, some (.int y2003), some (.int 0)]) (st' := []) (h' := (HX w T)) (cs' := 0) (sl' := 0) rfl ?_
        exact ih1 _ _ _ _ _ _ _ h T
    · intro y2010 y2011 y2012 y2013 w r w' h T
      simp only [Gsea_digestWaters_1] at h
      refine ev_go 2 (pc' := 48) (L' := [some (.ref 1), some (.long y2010), none, some (.long y2011), none, some (.int y2012), some (.int y2013)]) (st' := [.int 6, .int y2013]) (h' := (HX w T)) (cs' := 0) (sl' := 0) rfl ?_
      rcases ai_ifE h with ⟨hc, h⟩ | ⟨hc, h⟩
      · refine ev_ic_ge (t := 78) rfl rfl (fun _ => ?_) (fun c9 => absurd hc c9)
        refine ev_go 2 (pc' := 81) (L' := [some (.ref 1), some (.long y2010), none, some (.long y2011), none, some (.int y2012), some (.int 0)]) (st' := []) (h' := (HX w T)) (cs' := 0) (sl' := 0) rfl ?_
        exact ih2 _ _ _ _ _ _ _ h T
      · refine ev_ic_ge (t := 78) rfl rfl (fun c9 => absurd c9 hc) (fun _ => ?_)
        refine ev_go 10 (pc' := 68) (L' := [some (.ref 1), some (.long y2010), none, some (.long y2011), none, some (.int y2012), some (.int y2013)]) (st' := [.int ((y2012 * 6) + y2013), .ref 4, .long (31 * y2011)]) (h' := (HX w T)) (cs' := 0) (sl' := 0) rfl ?_
        obtain ⟨v2014, hq, h⟩ := ai_bdE h
        refine ev_iald rfl rfl hq ?_
        refine ev_go 5 (pc' := 44) (L' := [some (.ref 1), some (.long y2010), none, some (.long ((31 * y2011) + (v2014).toInt64)), none, some (.int y2012), some (.int (y2013 + 1))]) (st' := []) (h' := (HX w T)) (cs' := 0) (sl' := 0) rfl ?_
        exact ih1 _ _ _ _ _ _ _ h T
    · intro y2015 y2016 y2017 y2018 w r w' h T
      simp only [Gsea_digestWaters_1] at h
      refine ev_go 3 (pc' := 87) (L' := [some (.ref 1), some (.long y2015), none, some (.long y2016), none, some (.int y2017), some (.int y2018)]) (st' := [.int (a_s1_cells w), .int y2018]) (h' := (HX w T)) (cs' := 0) (sl' := 0) rfl ?_
      rcases ai_ifE h with ⟨hc, h⟩ | ⟨hc, h⟩
      · refine ev_ic_ge (t := 117) rfl rfl (fun _ => ?_) (fun c9 => absurd hc c9)
        refine ev_go 2 (pc' := 5) (L' := [some (.ref 1), some (.long y2015), none, some (.long y2016), none, some (.int (y2017 + 1)), some (.int y2018)]) (st' := []) (h' := (HX w T)) (cs' := 0) (sl' := 0) rfl ?_
        exact ih0 _ _ _ _ _ _ h T _
      · refine ev_ic_ge (t := 117) rfl rfl (fun c9 => absurd c9 hc) (fun _ => ?_)
        refine ev_go 10 (pc' := 107) (L' := [some (.ref 1), some (.long y2015), none, some (.long y2016), none, some (.int y2017), some (.int y2018)]) (st' := [.int ((y2017 * 6) + y2018), .ref 5, .long (31 * y2016)]) (h' := (HX w T)) (cs' := 0) (sl' := 0) rfl ?_
        obtain ⟨v2019, hq, h⟩ := ai_bdE h
        refine ev_iald rfl rfl hq ?_
        refine ev_go 5 (pc' := 81) (L' := [some (.ref 1), some (.long y2015), none, some (.long ((31 * y2016) + (v2019).toInt64)), none, some (.int y2017), some (.int (y2018 + 1))]) (st' := []) (h' := (HX w T)) (cs' := 0) (sl' := 0) rfl ?_
        exact ih2 _ _ _ _ _ _ _ h T
    · intro y2006 y2007 y2008 w r w' h T o6
      simp only [Gsea_digestWaters_1] at h
      refine ev_go 2 (pc' := 129) (L' := [some (.ref 1), some (.long y2006), none, some (.long y2007), none, some (.int y2008), o6]) (st' := [.int 3, .int y2008]) (h' := (HX w T)) (cs' := 0) (sl' := 0) rfl ?_
      rcases ai_ifE h with ⟨hc, h⟩ | ⟨hc, h⟩
      · refine ev_ic_ge (t := 153) rfl rfl (fun _ => ?_) (fun c9 => absurd hc c9)
        refine ev_go 1 (pc' := 154) (L' := [some (.ref 1), some (.long y2006), none, some (.long y2007), none, some (.int y2008), o6]) (st' := [.long y2007]) (h' := (HX w T)) (cs' := 0) (sl' := 0) rfl ?_
        obtain ⟨rfl, rfl⟩ := ai_smP h
        exact ev_end rfl
      · refine ev_ic_ge (t := 153) rfl rfl (fun c9 => absurd c9 hc) (fun _ => ?_)
        refine ev_go 6 (pc' := 143) (L' := [some (.ref 1), some (.long y2006), none, some (.long y2007), none, some (.int y2008), o6]) (st' := [.int y2008, .ref 6, .long (31 * y2007)]) (h' := (HX w T)) (cs' := 0) (sl' := 0) rfl ?_
        obtain ⟨v2009, hq, h⟩ := ai_bdE h
        refine ev_iald rfl rfl hq ?_
        refine ev_go 5 (pc' := 126) (L' := [some (.ref 1), some (.long y2006), none, some (.long ((31 * y2007) + (v2009).toInt64)), none, some (.int (y2008 + 1)), o6]) (st' := []) (h' := (HX w T)) (cs' := 0) (sl' := 0) rfl ?_
        exact ih3 _ _ _ _ _ _ h T _
set_option maxHeartbeats 40000000 in
set_option maxRecDepth 100000 in
theorem Esea_digestWaters_1 (n : Nat) (x2000 : Int64) (w : WX) (r : Int64) (w' : WX) (h : Fsea_digestWaters_1 n x2000 w = some (r, w')) (T : ai_H) : ai_ev D1 msea_digestWaters 0 [some (.ref 1), some (.long x2000), none, none, none, none, none] [] (HX w T) 0 0 (some (.long r), HX w' T) := by
  unfold Fsea_digestWaters_1 at h
  obtain ⟨ih0, ih1, ih2, ih3⟩ := EGsea_digestWaters_1 n
  refine ev_go 4 (pc' := 5) (L' := [some (.ref 1), some (.long x2000), none, some (.long x2000), none, some (.int 0), none]) (st' := []) (h' := (HX w T)) (cs' := 0) (sl' := 0) rfl ?_
  exact ih0 _ _ _ _ _ _ h T _
set_option maxHeartbeats 40000000 in
set_option maxRecDepth 100000 in
theorem EGsea_digestRows_1 : ∀ n : Nat, (∀ (y2022 : Int64) (y2023 : Int64) (y2024 : Int32) (w : WX) (r : Int64) (w' : WX), Gsea_digestRows_1 n 0 y2024 y2022 y2023 w = some (r, w') → ∀ (T : ai_H), ai_ev D1 msea_digestRows 5 [some (.ref 1), some (.long y2022), none, some (.long y2023), none, some (.int y2024)] [] (HX w T) 0 0 (some (.long r), HX w' T)) ∧ (∀ (y2029 : Int64) (y2030 : Int64) (y2031 : Int32) (w : WX) (r : Int64) (w' : WX), Gsea_digestRows_1 n 1 y2031 y2029 y2030 w = some (r, w') → ∀ (T : ai_H), ai_ev D1 msea_digestRows 98 [some (.ref 1), some (.long y2029), none, some (.long y2030), none, some (.int y2031)] [] (HX w T) 0 0 (some (.long r), HX w' T)) ∧ (∀ (y2035 : Int64) (y2036 : Int64) (y2037 : Int32) (w : WX) (r : Int64) (w' : WX), Gsea_digestRows_1 n 2 y2037 y2035 y2036 w = some (r, w') → ∀ (T : ai_H), ai_ev D1 msea_digestRows 173 [some (.ref 1), some (.long y2035), none, some (.long y2036), none, some (.int y2037)] [] (HX w T) 0 0 (some (.long r), HX w' T)) ∧ (∀ (y2039 : Int64) (y2040 : Int64) (y2041 : Int32) (w : WX) (r : Int64) (w' : WX), Gsea_digestRows_1 n 3 y2041 y2039 y2040 w = some (r, w') → ∀ (T : ai_H), ai_ev D1 msea_digestRows 206 [some (.ref 1), some (.long y2039), none, some (.long y2040), none, some (.int y2041)] [] (HX w T) 0 0 (some (.long r), HX w' T)) := by
  intro n
  induction n with
  | zero =>
    exact ⟨(fun _ _ _ _ _ _ h => by cases h), (fun _ _ _ _ _ _ h => by cases h), (fun _ _ _ _ _ _ h => by cases h), (fun _ _ _ _ _ _ h => by cases h)⟩
  | succ n ih =>
    obtain ⟨ih0, ih1, ih2, ih3⟩ := ih
    refine ⟨?_, ?_, ?_, ?_⟩
    · intro y2022 y2023 y2024 w r w' h T
      simp only [Gsea_digestRows_1] at h
      refine ev_go 4 (pc' := 14) (L' := [some (.ref 1), some (.long y2022), none, some (.long y2023), none, some (.int y2024)]) (st' := [.int (a_s1things_count w), .int y2024]) (h' := (HX w T)) (cs' := 0) (sl' := 0) rfl ?_
      rcases ai_ifE h with ⟨hc, h⟩ | ⟨hc, h⟩
      · refine ev_ic_ge (t := 95) rfl rfl (fun _ => ?_) (fun c9 => absurd hc c9)
        refine ev_go 2 (pc' := 98) (L' := [some (.ref 1), some (.long y2022), none, some (.long y2023), none, some (.int 0)]) (st' := []) (h' := (HX w T)) (cs' := 0) (sl' := 0) rfl ?_
        exact ih1 _ _ _ _ _ _ h T
      · refine ev_ic_ge (t := 95) rfl rfl (fun c9 => absurd c9 hc) (fun _ => ?_)
        refine ev_go 7 (pc' := 31) (L' := [some (.ref 1), some (.long y2022), none, some (.long y2023), none, some (.int y2024)]) (st' := [.int y2024, .ref 8, .long (31 * y2023)]) (h' := (HX w T)) (cs' := 0) (sl' := 0) rfl ?_
        obtain ⟨v2025, hq, h⟩ := ai_bdE h
        refine ev_iald rfl rfl hq ?_
        refine ev_go 10 (pc' := 49) (L' := [some (.ref 1), some (.long y2022), none, some (.long ((31 * y2023) + (v2025).toInt64)), none, some (.int y2024)]) (st' := [.int y2024, .ref 9, .long (31 * ((31 * y2023) + (v2025).toInt64))]) (h' := (HX w T)) (cs' := 0) (sl' := 0) rfl ?_
        obtain ⟨v2026, hq, h⟩ := ai_bdE h
        refine ev_iald rfl rfl hq ?_
        refine ev_go 10 (pc' := 67) (L' := [some (.ref 1), some (.long y2022), none, some (.long ((31 * ((31 * y2023) + (v2025).toInt64)) + (v2026).toInt64)), none, some (.int y2024)]) (st' := [.int y2024, .ref 10, .long (31 * ((31 * ((31 * y2023) + (v2025).toInt64)) + (v2026).toInt64))]) (h' := (HX w T)) (cs' := 0) (sl' := 0) rfl ?_
        obtain ⟨v2027, hq, h⟩ := ai_bdE h
        refine ev_iald rfl rfl hq ?_
        refine ev_go 10 (pc' := 85) (L' := [some (.ref 1), some (.long y2022), none, some (.long ((31 * ((31 * ((31 * y2023) + (v2025).toInt64)) + (v2026).toInt64)) + (v2027).toInt64)), none, some (.int y2024)]) (st' := [.int y2024, .ref 11, .long (31 * ((31 * ((31 * ((31 * y2023) + (v2025).toInt64)) + (v2026).toInt64)) + (v2027).toInt64))]) (h' := (HX w T)) (cs' := 0) (sl' := 0) rfl ?_
        obtain ⟨v2028, hq, h⟩ := ai_bdE h
        refine ev_iald rfl rfl hq ?_
        refine ev_go 5 (pc' := 5) (L' := [some (.ref 1), some (.long y2022), none, some (.long ((31 * ((31 * ((31 * ((31 * y2023) + (v2025).toInt64)) + (v2026).toInt64)) + (v2027).toInt64)) + (v2028).toInt64)), none, some (.int (y2024 + 1))]) (st' := []) (h' := (HX w T)) (cs' := 0) (sl' := 0) rfl ?_
        exact ih0 _ _ _ _ _ _ h T
    · intro y2029 y2030 y2031 w r w' h T
      simp only [Gsea_digestRows_1] at h
      refine ev_go 4 (pc' := 107) (L' := [some (.ref 1), some (.long y2029), none, some (.long y2030), none, some (.int y2031)]) (st' := [.int (a_s1lifts_count w), .int y2031]) (h' := (HX w T)) (cs' := 0) (sl' := 0) rfl ?_
      rcases ai_ifE h with ⟨hc, h⟩ | ⟨hc, h⟩
      · refine ev_ic_ge (t := 170) rfl rfl (fun _ => ?_) (fun c9 => absurd hc c9)
        refine ev_go 2 (pc' := 173) (L' := [some (.ref 1), some (.long y2029), none, some (.long y2030), none, some (.int 0)]) (st' := []) (h' := (HX w T)) (cs' := 0) (sl' := 0) rfl ?_
        exact ih2 _ _ _ _ _ _ h T
      · refine ev_ic_ge (t := 170) rfl rfl (fun c9 => absurd c9 hc) (fun _ => ?_)
        refine ev_go 7 (pc' := 124) (L' := [some (.ref 1), some (.long y2029), none, some (.long y2030), none, some (.int y2031)]) (st' := [.int y2031, .ref 13, .long (31 * y2030)]) (h' := (HX w T)) (cs' := 0) (sl' := 0) rfl ?_
        obtain ⟨v2032, hq, h⟩ := ai_bdE h
        refine ev_iald rfl rfl hq ?_
        refine ev_go 10 (pc' := 142) (L' := [some (.ref 1), some (.long y2029), none, some (.long ((31 * y2030) + (v2032).toInt64)), none, some (.int y2031)]) (st' := [.int y2031, .ref 14, .long (31 * ((31 * y2030) + (v2032).toInt64))]) (h' := (HX w T)) (cs' := 0) (sl' := 0) rfl ?_
        obtain ⟨v2033, hq, h⟩ := ai_bdE h
        refine ev_iald rfl rfl hq ?_
        refine ev_go 10 (pc' := 160) (L' := [some (.ref 1), some (.long y2029), none, some (.long ((31 * ((31 * y2030) + (v2032).toInt64)) + (v2033).toInt64)), none, some (.int y2031)]) (st' := [.int y2031, .ref 15, .long (31 * ((31 * ((31 * y2030) + (v2032).toInt64)) + (v2033).toInt64))]) (h' := (HX w T)) (cs' := 0) (sl' := 0) rfl ?_
        obtain ⟨v2034, hq, h⟩ := ai_bdE h
        refine ev_iald rfl rfl hq ?_
        refine ev_go 5 (pc' := 98) (L' := [some (.ref 1), some (.long y2029), none, some (.long ((31 * ((31 * ((31 * y2030) + (v2032).toInt64)) + (v2033).toInt64)) + (v2034).toInt64)), none, some (.int (y2031 + 1))]) (st' := []) (h' := (HX w T)) (cs' := 0) (sl' := 0) rfl ?_
        exact ih1 _ _ _ _ _ _ h T
    · intro y2035 y2036 y2037 w r w' h T
      simp only [Gsea_digestRows_1] at h
      refine ev_go 3 (pc' := 179) (L' := [some (.ref 1), some (.long y2035), none, some (.long y2036), none, some (.int y2037)]) (st' := [.int (a_s1_towns w), .int y2037]) (h' := (HX w T)) (cs' := 0) (sl' := 0) rfl ?_
      rcases ai_ifE h with ⟨hc, h⟩ | ⟨hc, h⟩
      · refine ev_ic_ge (t := 203) rfl rfl (fun _ => ?_) (fun c9 => absurd hc c9)
        refine ev_go 2 (pc' := 206) (L' := [some (.ref 1), some (.long y2035), none, some (.long y2036), none, some (.int 0)]) (st' := []) (h' := (HX w T)) (cs' := 0) (sl' := 0) rfl ?_
        exact ih3 _ _ _ _ _ _ h T
      · refine ev_ic_ge (t := 203) rfl rfl (fun c9 => absurd c9 hc) (fun _ => ?_)
        refine ev_go 6 (pc' := 193) (L' := [some (.ref 1), some (.long y2035), none, some (.long y2036), none, some (.int y2037)]) (st' := [.int y2037, .ref 16, .long (31 * y2036)]) (h' := (HX w T)) (cs' := 0) (sl' := 0) rfl ?_
        obtain ⟨v2038, hq, h⟩ := ai_bdE h
        refine ev_iald rfl rfl hq ?_
        refine ev_go 5 (pc' := 173) (L' := [some (.ref 1), some (.long y2035), none, some (.long ((31 * y2036) + (v2038).toInt64)), none, some (.int (y2037 + 1))]) (st' := []) (h' := (HX w T)) (cs' := 0) (sl' := 0) rfl ?_
        exact ih2 _ _ _ _ _ _ h T
    · intro y2039 y2040 y2041 w r w' h T
      simp only [Gsea_digestRows_1] at h
      refine ev_go 3 (pc' := 212) (L' := [some (.ref 1), some (.long y2039), none, some (.long y2040), none, some (.int y2041)]) (st' := [.int (a_s1_drops w), .int y2041]) (h' := (HX w T)) (cs' := 0) (sl' := 0) rfl ?_
      rcases ai_ifE h with ⟨hc, h⟩ | ⟨hc, h⟩
      · refine ev_ic_ge (t := 251) rfl rfl (fun _ => ?_) (fun c9 => absurd hc c9)
        refine ev_go 1 (pc' := 252) (L' := [some (.ref 1), some (.long y2039), none, some (.long y2040), none, some (.int y2041)]) (st' := [.long y2040]) (h' := (HX w T)) (cs' := 0) (sl' := 0) rfl ?_
        obtain ⟨rfl, rfl⟩ := ai_smP h
        exact ev_end rfl
      · refine ev_ic_ge (t := 251) rfl rfl (fun c9 => absurd c9 hc) (fun _ => ?_)
        refine ev_go 6 (pc' := 226) (L' := [some (.ref 1), some (.long y2039), none, some (.long y2040), none, some (.int y2041)]) (st' := [.int y2041, .ref 17, .long (31 * y2040)]) (h' := (HX w T)) (cs' := 0) (sl' := 0) rfl ?_
        obtain ⟨v2042, hq, h⟩ := ai_bdE h
        refine ev_iald rfl rfl hq ?_
        refine ev_go 9 (pc' := 241) (L' := [some (.ref 1), some (.long y2039), none, some (.long ((31 * y2040) + (v2042).toInt64)), none, some (.int y2041)]) (st' := [.int y2041, .ref 18, .long (31 * ((31 * y2040) + (v2042).toInt64))]) (h' := (HX w T)) (cs' := 0) (sl' := 0) rfl ?_
        obtain ⟨v2043, hq, h⟩ := ai_bdE h
        refine ev_iald rfl rfl hq ?_
        refine ev_go 5 (pc' := 206) (L' := [some (.ref 1), some (.long y2039), none, some (.long ((31 * ((31 * y2040) + (v2042).toInt64)) + (v2043).toInt64)), none, some (.int (y2041 + 1))]) (st' := []) (h' := (HX w T)) (cs' := 0) (sl' := 0) rfl ?_
        exact ih3 _ _ _ _ _ _ h T
set_option maxHeartbeats 40000000 in
set_option maxRecDepth 100000 in
theorem Esea_digestRows_1 (n : Nat) (x2021 : Int64) (w : WX) (r : Int64) (w' : WX) (h : Fsea_digestRows_1 n x2021 w = some (r, w')) (T : ai_H) : ai_ev D1 msea_digestRows 0 [some (.ref 1), some (.long x2021), none, none, none, none] [] (HX w T) 0 0 (some (.long r), HX w' T) := by
  unfold Fsea_digestRows_1 at h
  obtain ⟨ih0, ih1, ih2, ih3⟩ := EGsea_digestRows_1 n
  refine ev_go 4 (pc' := 5) (L' := [some (.ref 1), some (.long x2021), none, some (.long x2021), none, some (.int 0)]) (st' := []) (h' := (HX w T)) (cs' := 0) (sl' := 0) rfl ?_
  exact ih0 _ _ _ _ _ _ h T
set_option maxHeartbeats 40000000 in
set_option maxRecDepth 100000 in
theorem EGf_digest_0 : ∀ n : Nat, (∀ (y1998 : Int64) (y1999 : Int32) (w : WX) (r : Int64) (w' : WX), Gf_digest_0 n 0 y1999 y1998 w = some (r, w') → ∀ (T : ai_H), ai_ev D1 mf_digest 6 [some (.ref 0), some (.long y1998), none, some (.int y1999)] [] (HX w T) 0 0 (some (.long r), HX w' T)) := by
  intro n
  induction n with
  | zero =>
    exact (fun _ _ _ _ _ h => by cases h)
  | succ n ih0 =>
    intro y1998 y1999 w r w' h T
    simp only [Gf_digest_0] at h
    refine ev_go 2 (pc' := 9) (L' := [some (.ref 0), some (.long y1998), none, some (.int y1999)]) (st' := [.int 8, .int y1999]) (h' := (HX w T)) (cs' := 0) (sl' := 0) rfl ?_
    rcases ai_ifE h with ⟨hc, h⟩ | ⟨hc, h⟩
    · refine ev_ic_ge (t := 34) rfl rfl (fun _ => ?_) (fun c9 => absurd hc c9)
      refine ev_go 12 (pc' := 54) (L' := [some (.ref 0), some (.long ((31 * y1998) + ((a_text_length w)).toInt64)), none, some (.int y1999)]) (st' := [.long ((31 * y1998) + ((a_text_length w)).toInt64), .ref 1]) (h' := (HX w T)) (cs' := 0) (sl' := 0) rfl ?_
      obtain ⟨c2020, hq, h⟩ := ai_bdE h
      refine ev_call (M' := msea_digestWaters) (L' := [some (.ref 1), some (.long ((31 * y1998) + ((a_text_length w)).toInt64)), none, none, none, none, none]) (rest := []) (rv := some (.long c2020.1)) (h' := (HX c2020.2 T)) rfl (Esea_digestWaters_1 n ((31 * y1998) + ((a_text_length w)).toInt64) w _ _ hq T) ?_
      show ai_ev D1 mf_digest 57 [some (.ref 0), some (.long ((31 * y1998) + ((a_text_length w)).toInt64)), none, some (.int y1999)] [.long c2020.1] (HX c2020.2 T) 0 0 _
      refine ev_go 4 (pc' := 63) (L' := [some (.ref 0), some (.long c2020.1), none, some (.int y1999)]) (st' := [.long c2020.1, .ref 1]) (h' := (HX c2020.2 T)) (cs' := 0) (sl' := 0) rfl ?_
      obtain ⟨c2044, hq, h⟩ := ai_bdE h
      refine ev_call (M' := msea_digestRows) (L' := [some (.ref 1), some (.long c2020.1), none, none, none, none]) (rest := []) (rv := some (.long c2044.1)) (h' := (HX c2044.2 T)) rfl (Esea_digestRows_1 n c2020.1 c2020.2 _ _ hq T) ?_
      show ai_ev D1 mf_digest 66 [some (.ref 0), some (.long c2020.1), none, some (.int y1999)] [.long c2044.1] (HX c2044.2 T) 0 0 _
      refine ev_go 14 (pc' := 88) (L' := [some (.ref 0), some (.long ((31 * c2044.1) + (a_f_above c2044.2))), none, some (.int y1999)]) (st' := [.long ((31 * ((31 * c2044.1) + (a_f_above c2044.2))) + (a_f_below c2044.2))]) (h' := (HX c2044.2 T)) (cs' := 0) (sl' := 0) rfl ?_
      obtain ⟨rfl, rfl⟩ := ai_smP h
      exact ev_end rfl
    · refine ev_ic_ge (t := 34) rfl rfl (fun c9 => absurd c9 hc) (fun _ => ?_)
      refine ev_go 6 (pc' := 22) (L' := [some (.ref 0), some (.long y1998), none, some (.int y1999)]) (st' := [.int y1999, .ref 1, .long (31 * y1998)]) (h' := (HX w T)) (cs' := 0) (sl' := 0) rfl ?_
      obtain ⟨c2045, hq, h⟩ := ai_bdE h
      refine ev_call (M' := msea_countOf) (L' := [some (.ref 1), some (.int y1999)]) (rest := [.long (31 * y1998)]) (rv := some (.int c2045.1)) (h' := (HX c2045.2 T)) rfl (Esea_countOf_1 y1999 w _ _ hq T) ?_
      show ai_ev D1 mf_digest 25 [some (.ref 0), some (.long y1998), none, some (.int y1999)] [.int c2045.1, .long (31 * y1998)] (HX c2045.2 T) 0 0 _
      refine ev_go 5 (pc' := 6) (L' := [some (.ref 0), some (.long ((31 * y1998) + (c2045.1).toInt64)), none, some (.int (y1999 + 1))]) (st' := []) (h' := (HX c2045.2 T)) (cs' := 0) (sl' := 0) rfl ?_
      exact ih0 _ _ _ _ _ h T
set_option maxHeartbeats 40000000 in
set_option maxRecDepth 100000 in
theorem Ef_digest_0 (n : Nat) (w : WX) (r : Int64) (w' : WX) (h : Ff_digest_0 n w = some (r, w')) (T : ai_H) : ai_ev D1 mf_digest 0 [some (.ref 0), none, none, none] [] (HX w T) 0 0 (some (.long r), HX w' T) := by
  unfold Ff_digest_0 at h
  have ih0 := EGf_digest_0 n
  refine ev_go 4 (pc' := 6) (L' := [some (.ref 0), some (.long 887), none, some (.int 0)]) (st' := []) (h' := (HX w T)) (cs' := 0) (sl' := 0) rfl ?_
  exact ih0 _ _ _ _ _ h T
