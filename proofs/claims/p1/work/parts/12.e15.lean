set_option maxHeartbeats 40000000 in
set_option maxRecDepth 100000 in
theorem Esea_duesOf_1 (x1563 : Int32) (w : WX) (r : Int32) (w' : WX) (h : Fsea_duesOf_1 x1563 w = some (r, w')) (T : ai_H) : ai_ev D1 msea_duesOf 0 [some (.ref 1), some (.int x1563), none] [] (HX w T) 0 0 (some (.int r), HX w' T) := by
  unfold Fsea_duesOf_1 at h
  refine ev_go 3 (pc' := 5) (L' := [some (.ref 1), some (.int x1563), none]) (st' := [.int x1563, .ref 16]) (h' := (HX w T)) (cs' := 0) (sl' := 0) rfl ?_
  obtain ⟨v1564, hq, h⟩ := ai_bdE h
  refine ev_iald rfl rfl hq ?_
  refine ev_go 10 (pc' := 20) (L' := [some (.ref 1), some (.int x1563), some (.int v1564)]) (st' := [.int (a_s1_hour w), .int (v1564 / 10), .int (v1564 - v1564 / 10 * 10), .ref 1]) (h' := (HX w T)) (cs' := 0) (sl' := 0) rfl ?_
  obtain ⟨c1565, hq, h⟩ := ai_bdE h
  refine ev_call (M' := msea_thickAt) (L' := [some (.ref 1), some (.int (v1564 - v1564 / 10 * 10)), some (.int (v1564 / 10)), some (.int (a_s1_hour w))]) (rest := []) (rv := some (.int c1565.1)) (h' := (HX c1565.2 T)) rfl (Esea_thickAt_1 (v1564 - v1564 / 10 * 10) (v1564 / 10) (a_s1_hour w) w _ _ hq T) ?_
  show ai_ev D1 msea_duesOf 23 [some (.ref 1), some (.int x1563), some (.int v1564)] [.int c1565.1] (HX c1565.2 T) 0 0 _
  obtain ⟨rfl, rfl⟩ := ai_smP h
  exact ev_end rfl
set_option maxHeartbeats 40000000 in
set_option maxRecDepth 100000 in
theorem EGf_net_0 : ∀ n : Nat, (∀ (y1551 : Int32) (y1552 : Int32) (y1553 : Int32) (w : WX) (r : Int32) (w' : WX), Gf_net_0 n 0 y1551 y1552 y1553 w = some (r, w') → ∀ (T : ai_H) (o4 : Option Value), ai_ev D1 mf_net 29 [some (.ref 0), some (.int y1551), some (.int y1552), some (.int y1553), o4] [] (HX w T) 0 0 (some (.int r), HX w' T)) := by
  intro n
  induction n with
  | zero =>
    exact (fun _ _ _ _ _ _ h => by cases h)
  | succ n ih0 =>
    intro y1551 y1552 y1553 w r w' h T o4
    simp only [Gf_net_0] at h
    refine ev_go 4 (pc' := 37) (L' := [some (.ref 0), some (.int y1551), some (.int y1552), some (.int y1553), o4]) (st' := [.int (a_s1_towns w), .int y1553]) (h' := (HX w T)) (cs' := 0) (sl' := 0) rfl ?_
    rcases ai_ifE h with ⟨hc, h⟩ | ⟨hc, h⟩
    · refine ev_ic_ge (t := 98) rfl rfl (fun _ => ?_) (fun c9 => absurd hc c9)
      refine ev_go 1 (pc' := 99) (L' := [some (.ref 0), some (.int y1551), some (.int y1552), some (.int y1553), o4]) (st' := [.int y1552]) (h' := (HX w T)) (cs' := 0) (sl' := 0) rfl ?_
      obtain ⟨rfl, rfl⟩ := ai_smP h
      exact ev_end rfl
    · refine ev_ic_ge (t := 98) rfl rfl (fun c9 => absurd c9 hc) (fun _ => ?_)
      refine ev_go 3 (pc' := 45) (L' := [some (.ref 0), some (.int y1551), some (.int y1552), some (.int y1553), o4]) (st' := [.int y1553, .ref 1]) (h' := (HX w T)) (cs' := 0) (sl' := 0) rfl ?_
      obtain ⟨c1562, hq, h⟩ := ai_bdE h
      refine ev_call (M' := msea_ceilingOf) (L' := [some (.ref 1), some (.int y1553), none, none, none, none, none, none]) (rest := []) (rv := some (.int c1562.1)) (h' := (HX c1562.2 T)) rfl (Esea_ceilingOf_1 n y1553 w _ _ hq T) ?_
      show ai_ev D1 mf_net 48 [some (.ref 0), some (.int y1551), some (.int y1552), some (.int y1553), o4] [.int c1562.1] (HX c1562.2 T) 0 0 _
      refine ev_go 3 (pc' := 53) (L' := [some (.ref 0), some (.int y1551), some (.int y1552), some (.int y1553), some (.int c1562.1)]) (st' := [.int (-1), .int c1562.1]) (h' := (HX c1562.2 T)) (cs' := 0) (sl' := 0) rfl ?_
      rcases ai_ifE h with ⟨hc, h⟩ | ⟨hc, h⟩
      · refine ev_ic_ne (t := 59) rfl rfl (fun c9 => absurd hc c9) (fun _ => ?_)
        refine ev_go 3 (pc' := 29) (L' := [some (.ref 0), some (.int y1551), some (.int y1552), some (.int (y1553 + 1)), some (.int c1562.1)]) (st' := []) (h' := (HX c1562.2 T)) (cs' := 0) (sl' := 0) rfl ?_
        exact ih0 _ _ _ _ _ _ h T _
      · refine ev_ic_ne (t := 59) rfl rfl (fun _ => ?_) (fun c9 => absurd c9 hc)
        refine ev_go 2 (pc' := 62) (L' := [some (.ref 0), some (.int y1551), some (.int y1552), some (.int y1553), some (.int c1562.1)]) (st' := [.int y1551, .int c1562.1]) (h' := (HX c1562.2 T)) (cs' := 0) (sl' := 0) rfl ?_
        rcases ai_ifE h with ⟨hc, h⟩ | ⟨hc, h⟩
        · refine ev_ic_ne (t := 76) rfl rfl (fun c9 => absurd hc c9) (fun _ => ?_)
          refine ev_go 4 (pc' := 71) (L' := [some (.ref 0), some (.int y1551), some (.int y1552), some (.int y1553), some (.int c1562.1)]) (st' := [.int y1553, .ref 1, .int y1552]) (h' := (HX c1562.2 T)) (cs' := 0) (sl' := 0) rfl ?_
          obtain ⟨c1567, hq, h⟩ := ai_bdE h
          refine ev_call (M' := msea_duesOf) (L' := [some (.ref 1), some (.int y1553), none]) (rest := [.int y1552]) (rv := some (.int c1567.1)) (h' := (HX c1567.2 T)) rfl (Esea_duesOf_1 y1553 c1562.2 _ _ hq T) ?_
          show ai_ev D1 mf_net 74 [some (.ref 0), some (.int y1551), some (.int y1552), some (.int y1553), some (.int c1562.1)] [.int c1567.1, .int y1552] (HX c1567.2 T) 0 0 _
          refine ev_go 4 (pc' := 78) (L' := [some (.ref 0), some (.int y1551), some (.int (y1552 + c1567.1)), some (.int y1553), some (.int c1562.1)]) (st' := [.int y1551, .int y1553]) (h' := (HX c1567.2 T)) (cs' := 0) (sl' := 0) rfl ?_
          rcases ai_ifE h with ⟨hc, h⟩ | ⟨hc, h⟩
          · refine ev_ic_ne (t := 92) rfl rfl (fun c9 => absurd hc c9) (fun _ => ?_)
            refine ev_go 4 (pc' := 87) (L' := [some (.ref 0), some (.int y1551), some (.int (y1552 + c1567.1)), some (.int y1553), some (.int c1562.1)]) (st' := [.int y1553, .ref 1, .int (y1552 + c1567.1)]) (h' := (HX c1567.2 T)) (cs' := 0) (sl' := 0) rfl ?_
            obtain ⟨c1568, hq, h⟩ := ai_bdE h
            refine ev_call (M' := msea_duesOf) (L' := [some (.ref 1), some (.int y1553), none]) (rest := [.int (y1552 + c1567.1)]) (rv := some (.int c1568.1)) (h' := (HX c1568.2 T)) rfl (Esea_duesOf_1 y1553 c1567.2 _ _ hq T) ?_
            show ai_ev D1 mf_net 90 [some (.ref 0), some (.int y1551), some (.int (y1552 + c1567.1)), some (.int y1553), some (.int c1562.1)] [.int c1568.1, .int (y1552 + c1567.1)] (HX c1568.2 T) 0 0 _
            refine ev_go 4 (pc' := 29) (L' := [some (.ref 0), some (.int y1551), some (.int ((y1552 + c1567.1) - c1568.1)), some (.int (y1553 + 1)), some (.int c1562.1)]) (st' := []) (h' := (HX c1568.2 T)) (cs' := 0) (sl' := 0) rfl ?_
            exact ih0 _ _ _ _ _ _ h T _
          · refine ev_ic_ne (t := 92) rfl rfl (fun _ => ?_) (fun c9 => absurd c9 hc)
            refine ev_go 2 (pc' := 29) (L' := [some (.ref 0), some (.int y1551), some (.int (y1552 + c1567.1)), some (.int (y1553 + 1)), some (.int c1562.1)]) (st' := []) (h' := (HX c1567.2 T)) (cs' := 0) (sl' := 0) rfl ?_
            exact ih0 _ _ _ _ _ _ h T _
        · refine ev_ic_ne (t := 76) rfl rfl (fun _ => ?_) (fun c9 => absurd c9 hc)
          refine ev_go 2 (pc' := 78) (L' := [some (.ref 0), some (.int y1551), some (.int y1552), some (.int y1553), some (.int c1562.1)]) (st' := [.int y1551, .int y1553]) (h' := (HX c1562.2 T)) (cs' := 0) (sl' := 0) rfl ?_
          rcases ai_ifE h with ⟨hc, h⟩ | ⟨hc, h⟩
          · refine ev_ic_ne (t := 92) rfl rfl (fun c9 => absurd hc c9) (fun _ => ?_)
            refine ev_go 4 (pc' := 87) (L' := [some (.ref 0), some (.int y1551), some (.int y1552), some (.int y1553), some (.int c1562.1)]) (st' := [.int y1553, .ref 1, .int y1552]) (h' := (HX c1562.2 T)) (cs' := 0) (sl' := 0) rfl ?_
            obtain ⟨c1566, hq, h⟩ := ai_bdE h
            refine ev_call (M' := msea_duesOf) (L' := [some (.ref 1), some (.int y1553), none]) (rest := [.int y1552]) (rv := some (.int c1566.1)) (h' := (HX c1566.2 T)) rfl (Esea_duesOf_1 y1553 c1562.2 _ _ hq T) ?_
            show ai_ev D1 mf_net 90 [some (.ref 0), some (.int y1551), some (.int y1552), some (.int y1553), some (.int c1562.1)] [.int c1566.1, .int y1552] (HX c1566.2 T) 0 0 _
            refine ev_go 4 (pc' := 29) (L' := [some (.ref 0), some (.int y1551), some (.int (y1552 - c1566.1)), some (.int (y1553 + 1)), some (.int c1562.1)]) (st' := []) (h' := (HX c1566.2 T)) (cs' := 0) (sl' := 0) rfl ?_
            exact ih0 _ _ _ _ _ _ h T _
          · refine ev_ic_ne (t := 92) rfl rfl (fun _ => ?_) (fun c9 => absurd c9 hc)
            refine ev_go 2 (pc' := 29) (L' := [some (.ref 0), some (.int y1551), some (.int y1552), some (.int (y1553 + 1)), some (.int c1562.1)]) (st' := []) (h' := (HX c1562.2 T)) (cs' := 0) (sl' := 0) rfl ?_
            exact ih0 _ _ _ _ _ _ h T _
set_option maxHeartbeats 40000000 in
set_option maxRecDepth 100000 in
theorem Ef_net_0 (n : Nat) (x1548 : Int32) (w : WX) (r : Int32) (w' : WX) (h : Ff_net_0 n x1548 w = some (r, w')) (T : ai_H) : ai_ev D1 mf_net 0 [some (.ref 0), some (.int x1548), none, none, none] [] (HX w T) 0 0 (some (.int r), HX w' T) := by
  unfold Ff_net_0 at h
  have ih0 := EGf_net_0 n
  refine ev_go 7 (pc' := 11) (L' := [some (.ref 0), some (.int x1548), none, none, none]) (st' := [.int ((a_s1_towns w) - 1), .int 0, .int x1548]) (h' := (HX w T)) (cs' := 0) (sl' := 0) rfl ?_
  obtain ⟨c1549, hq, h⟩ := ai_bdE h
  refine ev_call (M' := mf_within) (L' := [some (.int x1548), some (.int 0), some (.int ((a_s1_towns w) - 1))]) (rest := []) (rv := some (.int c1549)) (h' := (HX w T)) rfl (Ef_within x1548 0 ((a_s1_towns w) - 1) _ hq (HX w T)) ?_
  show ai_ev D1 mf_net 14 [some (.ref 0), some (.int x1548), none, none, none] [.int c1549] (HX w T) 0 0 _
  rcases ai_ifE h with ⟨hc, h⟩ | ⟨hc, h⟩
  · refine ev_if_ne (t := 25) rfl rfl (fun c9 => absurd hc c9) (fun _ => ?_)
    refine ev_go 2 (pc' := 21) (L' := [some (.ref 0), some (.int x1548), none, none, none]) (st' := [.int (-1000), .ref 0]) (h' := (HX w T)) (cs' := 0) (sl' := 0) rfl ?_
    obtain ⟨c1550, hq, h⟩ := ai_bdE h
    refine ev_call (M' := mf_bad) (L' := [some (.ref 0), some (.int (-1000))]) (rest := []) (rv := some (.int c1550.1)) (h' := (HX c1550.2 T)) rfl (Ef_bad_0 (-1000) w _ _ hq T) ?_
    show ai_ev D1 mf_net 24 [some (.ref 0), some (.int x1548), none, none, none] [.int c1550.1] (HX c1550.2 T) 0 0 _
    obtain ⟨rfl, rfl⟩ := ai_smP h
    exact ev_end rfl
  · refine ev_if_ne (t := 25) rfl rfl (fun _ => ?_) (fun c9 => absurd c9 hc)
    refine ev_go 4 (pc' := 29) (L' := [some (.ref 0), some (.int x1548), some (.int 0), some (.int 0), none]) (st' := []) (h' := (HX w T)) (cs' := 0) (sl' := 0) rfl ?_
    exact ih0 _ _ _ _ _ _ h T _
set_option maxHeartbeats 40000000 in
set_option maxRecDepth 100000 in
theorem Ef_isSpill_0 (x1573 : Int32) (x1574 : Int32) (x1575 : Int32) (w : WX) (r : Int32) (w' : WX) (h : Ff_isSpill_0 x1573 x1574 x1575 w = some (r, w')) (T : ai_H) : ai_ev D1 mf_isSpill 0 [some (.ref 0), some (.int x1573), some (.int x1574), some (.int x1575)] [] (HX w T) 0 0 (some (.int r), HX w' T) := by
  unfold Ff_isSpill_0 at h
  refine ev_go 3 (pc' := 5) (L' := [some (.ref 0), some (.int x1573), some (.int x1574), some (.int x1575)]) (st' := [.int x1573, .ref 1]) (h' := (HX w T)) (cs' := 0) (sl' := 0) rfl ?_
  obtain ⟨c1576, hq, h⟩ := ai_bdE h
  refine ev_call (M' := msea_hasCell) (L' := [some (.ref 1), some (.int x1573)]) (rest := []) (rv := some (.int c1576.1)) (h' := (HX c1576.2 T)) rfl (Esea_hasCell_1 x1573 w _ _ hq T) ?_
  show ai_ev D1 mf_isSpill 8 [some (.ref 0), some (.int x1573), some (.int x1574), some (.int x1575)] [.int c1576.1] (HX c1576.2 T) 0 0 _
  rcases ai_ifE h with ⟨hc, h⟩ | ⟨hc, h⟩
  · refine ev_if_eq (t := 36) rfl rfl (fun _ => ?_) (fun c9 => absurd hc c9)
    refine ev_go 1 (pc' := 37) (L' := [some (.ref 0), some (.int x1573), some (.int x1574), some (.int x1575)]) (st' := [.int 0]) (h' := (HX c1576.2 T)) (cs' := 0) (sl' := 0) rfl ?_
    obtain ⟨rfl, rfl⟩ := ai_smP h
    exact ev_end rfl
  · refine ev_if_eq (t := 36) rfl rfl (fun c9 => absurd c9 hc) (fun _ => ?_)
    refine ev_go 3 (pc' := 16) (L' := [some (.ref 0), some (.int x1573), some (.int x1574), some (.int x1575)]) (st' := [.int 999, .int 0, .int x1574]) (h' := (HX c1576.2 T)) (cs' := 0) (sl' := 0) rfl ?_
    obtain ⟨c1577, hq, h⟩ := ai_bdE h
    refine ev_call (M' := mf_within) (L' := [some (.int x1574), some (.int 0), some (.int 999)]) (rest := []) (rv := some (.int c1577)) (h' := (HX c1576.2 T)) rfl (Ef_within x1574 0 999 _ hq (HX c1576.2 T)) ?_
    show ai_ev D1 mf_isSpill 19 [some (.ref 0), some (.int x1573), some (.int x1574), some (.int x1575)] [.int c1577] (HX c1576.2 T) 0 0 _
    rcases ai_ifE h with ⟨hc, h⟩ | ⟨hc, h⟩
    · refine ev_if_eq (t := 36) rfl rfl (fun _ => ?_) (fun c9 => absurd hc c9)
      refine ev_go 1 (pc' := 37) (L' := [some (.ref 0), some (.int x1573), some (.int x1574), some (.int x1575)]) (st' := [.int 0]) (h' := (HX c1576.2 T)) (cs' := 0) (sl' := 0) rfl ?_
      obtain ⟨rfl, rfl⟩ := ai_smP h
      exact ev_end rfl
    · refine ev_if_eq (t := 36) rfl rfl (fun c9 => absurd c9 hc) (fun _ => ?_)
      refine ev_go 3 (pc' := 26) (L' := [some (.ref 0), some (.int x1573), some (.int x1574), some (.int x1575)]) (st' := [.int 40, .int 0, .int x1575]) (h' := (HX c1576.2 T)) (cs' := 0) (sl' := 0) rfl ?_
      obtain ⟨c1578, hq, h⟩ := ai_bdE h
      refine ev_call (M' := mf_within) (L' := [some (.int x1575), some (.int 0), some (.int 40)]) (rest := []) (rv := some (.int c1578)) (h' := (HX c1576.2 T)) rfl (Ef_within x1575 0 40 _ hq (HX c1576.2 T)) ?_
      show ai_ev D1 mf_isSpill 29 [some (.ref 0), some (.int x1573), some (.int x1574), some (.int x1575)] [.int c1578] (HX c1576.2 T) 0 0 _
      rcases ai_ifE h with ⟨hc, h⟩ | ⟨hc, h⟩
      · refine ev_if_eq (t := 36) rfl rfl (fun _ => ?_) (fun c9 => absurd hc c9)
        refine ev_go 1 (pc' := 37) (L' := [some (.ref 0), some (.int x1573), some (.int x1574), some (.int x1575)]) (st' := [.int 0]) (h' := (HX c1576.2 T)) (cs' := 0) (sl' := 0) rfl ?_
        obtain ⟨rfl, rfl⟩ := ai_smP h
        exact ev_end rfl
      · refine ev_if_eq (t := 36) rfl rfl (fun c9 => absurd c9 hc) (fun _ => ?_)
        refine ev_go 2 (pc' := 37) (L' := [some (.ref 0), some (.int x1573), some (.int x1574), some (.int x1575)]) (st' := [.int 1]) (h' := (HX c1576.2 T)) (cs' := 0) (sl' := 0) rfl ?_
        obtain ⟨rfl, rfl⟩ := ai_smP h
        exact ev_end rfl
set_option maxHeartbeats 40000000 in
set_option maxRecDepth 100000 in
theorem EGarr_fill_84 : ∀ n : Nat, (∀ (y1585 : Int32) (y1586 : Int32) (y1587 : Int32) (w : WX) (w' : WX), Garr_fill_84 n 0 y1585 y1586 y1587 w = some w' → ∀ (T : ai_H), ai_ev D1 marr_fill 5 [some (.ref 84), some (.int y1585), some (.int y1586), some (.int y1587)] [] (HX w T) 0 0 (none, HX w' T)) := by
  intro n
  induction n with
  | zero =>
    exact (fun _ _ _ _ _ h => by cases h)
  | succ n ih0 =>
    intro y1585 y1586 y1587 w w' h T
    simp only [Garr_fill_84] at h
    refine ev_go 2 (pc' := 7) (L' := [some (.ref 84), some (.int y1585), some (.int y1586), some (.int y1587)]) (st' := [.int y1587, .int y1586]) (h' := (HX w T)) (cs' := 0) (sl' := 0) rfl ?_
    rcases ai_ifE h with ⟨hc, h⟩ | ⟨hc, h⟩
    · refine ev_ic_ge (t := 20) rfl rfl (fun _ => ?_) (fun c9 => absurd hc c9)
      obtain rfl := Option.some.inj h
      exact ev_end rfl
    · refine ev_ic_ge (t := 20) rfl rfl (fun c9 => absurd c9 hc) (fun _ => ?_)
      refine ev_go 3 (pc' := 13) (L' := [some (.ref 84), some (.int y1585), some (.int y1586), some (.int y1587)]) (st' := [.int y1585, .int y1586, .ref 84]) (h' := (HX w T)) (cs' := 0) (sl' := 0) rfl ?_
      obtain ⟨q1588, hq, h⟩ := ai_bdE h
      refine ev_iast rfl rfl hq ?_
      rw [HXs_84]
      refine ev_go 2 (pc' := 5) (L' := [some (.ref 84), some (.int y1585), some (.int (y1586 + 1)), some (.int y1587)]) (st' := []) (h' := (HX (u_spread_amounts w q1588) T)) (cs' := 0) (sl' := 0) rfl ?_
      exact ih0 _ _ _ _ _ h T
set_option maxHeartbeats 40000000 in
set_option maxRecDepth 100000 in
theorem Earr_fill_84 (n : Nat) (x1584 : Int32) (w : WX) (w' : WX) (h : Farr_fill_84 n x1584 w = some w') (T : ai_H) : ai_ev D1 marr_fill 0 [some (.ref 84), some (.int x1584), none, none] [] (HX w T) 0 0 (none, HX w' T) := by
  unfold Farr_fill_84 at h
  have ih0 := EGarr_fill_84 n
  refine ev_go 5 (pc' := 5) (L' := [some (.ref 84), some (.int x1584), some (.int 0), some (.int (Int32.ofNat (List.length (a_spread_amounts w))))]) (st' := []) (h' := (HX w T)) (cs' := 0) (sl' := 0) rfl ?_
  exact ih0 _ _ _ _ _ h T
set_option maxHeartbeats 40000000 in
set_option maxRecDepth 100000 in
theorem Espr_start_83 (n : Nat) (x1582 : Int32) (x1583 : Int32) (w : WX) (w' : WX) (h : Fspr_start_83 n x1582 x1583 w = some w') (T : ai_H) : ai_ev D1 mspr_start 0 [some (.ref 83), some (.int x1582), some (.int x1583)] [] (HX w T) 0 0 (none, HX w' T) := by
  unfold Fspr_start_83 at h
  refine ev_go 3 (pc' := 5) (L' := [some (.ref 83), some (.int x1582), some (.int x1583)]) (st' := [.int 0, .ref 84]) (h' := (HX w T)) (cs' := 0) (sl' := 0) rfl ?_
  obtain ⟨c1589, hq, h⟩ := ai_bdE h
  refine ev_call (M' := marr_fill) (L' := [some (.ref 84), some (.int 0), none, none]) (rest := []) (rv := none) (h' := (HX c1589 T)) rfl (Earr_fill_84 n 0 w _ hq T) ?_
  show ai_ev D1 mspr_start 8 [some (.ref 83), some (.int x1582), some (.int x1583)] [] (HX c1589 T) 0 0 _
  refine ev_go 4 (pc' := 14) (L' := [some (.ref 83), some (.int x1582), some (.int x1583)]) (st' := [.int x1583, .int x1582, .ref 84]) (h' := (HX c1589 T)) (cs' := 0) (sl' := 0) rfl ?_
  obtain ⟨q1590, hq, h⟩ := ai_bdE h
  refine ev_iast rfl rfl hq ?_
  rw [HXs_84]
  obtain rfl := Option.some.inj h
  exact ev_end rfl
set_option maxHeartbeats 40000000 in
set_option maxRecDepth 100000 in
theorem EGspr_goOn_83 : ∀ n : Nat, (∀ (y1601 : Int32) (y1602 : Int32) (y1603 : Int32) (w : WX) (w' : WX), Gspr_goOn_83 n 0 y1601 y1602 y1603 w = some w' → ∀ (T : ai_H), ai_ev D1 mspr_goOn 2 [some (.ref 83), some (.int y1601), some (.int y1602), some (.int y1603)] [] (HX w T) 0 0 (none, HX w' T)) ∧ (∀ (y1606 : Int32) (y1607 : Int32) (y1608 : Int32) (w : WX) (w' : WX), Gspr_goOn_83 n 1 y1606 y1607 y1608 w = some w' → ∀ (T : ai_H), ai_ev D1 mspr_goOn 29 [some (.ref 83), some (.int y1606), some (.int y1607), some (.int y1608)] [] (HX w T) 0 0 (none, HX w' T)) := by
  intro n
  induction n with
  | zero =>
    exact ⟨(fun _ _ _ _ _ h => by cases h), (fun _ _ _ _ _ h => by cases h)⟩
  | succ n ih =>
    obtain ⟨ih0, ih1⟩ := ih
    refine ⟨?_, ?_⟩
    · intro y1601 y1602 y1603 w w' h T
      simp only [Gspr_goOn_83] at h
      refine ev_go 2 (pc' := 4) (L' := [some (.ref 83), some (.int y1601), some (.int y1602), some (.int y1603)]) (st' := [.int y1601, .int y1603]) (h' := (HX w T)) (cs' := 0) (sl' := 0) rfl ?_
      rcases ai_ifE h with ⟨hc, h⟩ | ⟨hc, h⟩
      · refine ev_ic_ge (t := 27) rfl rfl (fun _ => ?_) (fun c9 => absurd hc c9)
        refine ev_go 2 (pc' := 29) (L' := [some (.ref 83), some (.int y1601), some (.int y1602), some (.int 0)]) (st' := []) (h' := (HX w T)) (cs' := 0) (sl' := 0) rfl ?_
        exact ih1 _ _ _ _ _ h T
      · refine ev_ic_ge (t := 27) rfl rfl (fun c9 => absurd c9 hc) (fun _ => ?_)
        refine ev_go 6 (pc' := 17) (L' := [some (.ref 83), some (.int y1601), some (.int y1602), some (.int y1603)]) (st' := [.int y1603, .ref 84, .int y1603, .ref 85]) (h' := (HX w T)) (cs' := 0) (sl' := 0) rfl ?_
        obtain ⟨v1604, hq, h⟩ := ai_bdE h
        refine ev_iald rfl rfl hq ?_
        refine ev_go 2 (pc' := 20) (L' := [some (.ref 83), some (.int y1601), some (.int y1602), some (.int y1603)]) (st' := [.int (v1604 / 4), .int y1603, .ref 85]) (h' := (HX w T)) (cs' := 0) (sl' := 0) rfl ?_
        obtain ⟨q1605, hq, h⟩ := ai_bdE h
        refine ev_iast rfl rfl hq ?_
        rw [HXs_85]
        refine ev_go 2 (pc' := 2) (L' := [some (.ref 83), some (.int y1601), some (.int y1602), some (.int (y1603 + 1))]) (st' := []) (h' := (HX (u_spread_gifts w q1605) T)) (cs' := 0) (sl' := 0) rfl ?_
        exact ih0 _ _ _ _ _ h T
    · intro y1606 y1607 y1608 w w' h T
      simp only [Gspr_goOn_83] at h
      refine ev_go 4 (pc' := 33) (L' := [some (.ref 83), some (.int y1606), some (.int y1607), some (.int y1608)]) (st' := [.int (y1606 - 1), .int y1608]) (h' := (HX w T)) (cs' := 0) (sl' := 0) rfl ?_
      rcases ai_ifE h with ⟨hc, h⟩ | ⟨hc, h⟩
      · refine ev_ic_ge (t := 100) rfl rfl (fun _ => ?_) (fun c9 => absurd hc c9)
        obtain rfl := Option.some.inj h
        exact ev_end rfl
      · refine ev_ic_ge (t := 100) rfl rfl (fun c9 => absurd c9 hc) (fun _ => ?_)
        refine ev_go 5 (pc' := 41) (L' := [some (.ref 83), some (.int y1606), some (.int y1607), some (.int y1608)]) (st' := [.int ((y1607 >>> (y1608 &&& 31)) &&& 1)]) (h' := (HX w T)) (cs' := 0) (sl' := 0) rfl ?_
        rcases ai_ifE h with ⟨hc, h⟩ | ⟨hc, h⟩
        · refine ev_if_ne (t := 94) rfl rfl (fun c9 => absurd hc c9) (fun _ => ?_)
          refine ev_go 4 (pc' := 50) (L' := [some (.ref 83), some (.int y1606), some (.int y1607), some (.int y1608)]) (st' := [.int y1608, .ref 84, .int y1608, .ref 84]) (h' := (HX w T)) (cs' := 0) (sl' := 0) rfl ?_
          obtain ⟨v1609, hq, h⟩ := ai_bdE h
          refine ev_iald rfl rfl hq ?_
          refine ev_go 5 (pc' := 58) (L' := [some (.ref 83), some (.int y1606), some (.int y1607), some (.int y1608)]) (st' := [.int (y1608 + 1), .ref 85, .int v1609, .int y1608, .ref 84]) (h' := (HX w T)) (cs' := 0) (sl' := 0) rfl ?_
          obtain ⟨v1610, hq, h⟩ := ai_bdE h
          refine ev_iald rfl rfl hq ?_
          refine ev_go 3 (pc' := 64) (L' := [some (.ref 83), some (.int y1606), some (.int y1607), some (.int y1608)]) (st' := [.int y1608, .ref 85, .int v1610, .int v1609, .int y1608, .ref 84]) (h' := (HX w T)) (cs' := 0) (sl' := 0) rfl ?_
          obtain ⟨v1611, hq, h⟩ := ai_bdE h
          refine ev_iald rfl rfl hq ?_
          refine ev_go 2 (pc' := 67) (L' := [some (.ref 83), some (.int y1606), some (.int y1607), some (.int y1608)]) (st' := [.int (v1609 + (v1610 - v1611)), .int y1608, .ref 84]) (h' := (HX w T)) (cs' := 0) (sl' := 0) rfl ?_
          obtain ⟨q1612, hq, h⟩ := ai_bdE h
          refine ev_iast rfl rfl hq ?_
          rw [HXs_84]
          refine ev_go 6 (pc' := 76) (L' := [some (.ref 83), some (.int y1606), some (.int y1607), some (.int y1608)]) (st' := [.int (y1608 + 1), .ref 84, .int (y1608 + 1), .ref 84]) (h' := (HX (u_spread_amounts w q1612) T)) (cs' := 0) (sl' := 0) rfl ?_
          obtain ⟨v1613, hq, h⟩ := ai_bdE h
          refine ev_iald rfl rfl hq ?_
          refine ev_go 3 (pc' := 82) (L' := [some (.ref 83), some (.int y1606), some (.int y1607), some (.int y1608)]) (st' := [.int y1608, .ref 85, .int v1613, .int (y1608 + 1), .ref 84]) (h' := (HX (u_spread_amounts w q1612) T)) (cs' := 0) (sl' := 0) rfl ?_
          obtain ⟨v1614, hq, h⟩ := ai_bdE h
          refine ev_iald rfl rfl hq ?_
          refine ev_go 5 (pc' := 90) (L' := [some (.ref 83), some (.int y1606), some (.int y1607), some (.int y1608)]) (st' := [.int (y1608 + 1), .ref 85, .int v1614, .int v1613, .int (y1608 + 1), .ref 84]) (h' := (HX (u_spread_amounts w q1612) T)) (cs' := 0) (sl' := 0) rfl ?_
          obtain ⟨v1615, hq, h⟩ := ai_bdE h
          refine ev_iald rfl rfl hq ?_
          refine ev_go 2 (pc' := 93) (L' := [some (.ref 83), some (.int y1606), some (.int y1607), some (.int y1608)]) (st' := [.int (v1613 + (v1614 - v1615)), .int (y1608 + 1), .ref 84]) (h' := (HX (u_spread_amounts w q1612) T)) (cs' := 0) (sl' := 0) rfl ?_
          obtain ⟨q1616, hq, h⟩ := ai_bdE h
          refine ev_iast rfl rfl hq ?_
          rw [HXs_84]
          refine ev_go 2 (pc' := 29) (L' := [some (.ref 83), some (.int y1606), some (.int y1607), some (.int (y1608 + 1))]) (st' := []) (h' := (HX (u_spread_amounts (u_spread_amounts w q1612) q1616) T)) (cs' := 0) (sl' := 0) rfl ?_
          exact ih1 _ _ _ _ _ h T
        · refine ev_if_ne (t := 94) rfl rfl (fun _ => ?_) (fun c9 => absurd c9 hc)
          refine ev_go 2 (pc' := 29) (L' := [some (.ref 83), some (.int y1606), some (.int y1607), some (.int (y1608 + 1))]) (st' := []) (h' := (HX w T)) (cs' := 0) (sl' := 0) rfl ?_
          exact ih1 _ _ _ _ _ h T
set_option maxHeartbeats 40000000 in
set_option maxRecDepth 100000 in
theorem Espr_goOn_83 (n : Nat) (x1599 : Int32) (x1600 : Int32) (w : WX) (w' : WX) (h : Fspr_goOn_83 n x1599 x1600 w = some w') (T : ai_H) : ai_ev D1 mspr_goOn 0 [some (.ref 83), some (.int x1599), some (.int x1600), none] [] (HX w T) 0 0 (none, HX w' T) := by
  unfold Fspr_goOn_83 at h
  obtain ⟨ih0, ih1⟩ := EGspr_goOn_83 n
  refine ev_go 2 (pc' := 2) (L' := [some (.ref 83), some (.int x1599), some (.int x1600), some (.int 0)]) (st' := []) (h' := (HX w T)) (cs' := 0) (sl' := 0) rfl ?_
  exact ih0 _ _ _ _ _ h T
set_option maxHeartbeats 40000000 in
set_option maxRecDepth 100000 in
theorem EGf_spill_0 : ∀ n : Nat, (∀ (y1593 : Int32) (y1594 : Int32) (y1595 : Int32) (y1596 : Int32) (y1597 : Int32) (w : WX) (r : Int32) (w' : WX), Gf_spill_0 n 0 y1593 y1594 y1595 y1596 y1597 w = some (r, w') → ∀ (T : ai_H), ai_ev D1 mf_spill 41 [some (.ref 0), some (.int y1593), some (.int y1594), some (.int y1595), some (.int y1596), some (.int y1597)] [] (HX w T) 0 0 (some (.int r), HX w' T)) := by
  intro n
  induction n with
  | zero =>
    exact (fun _ _ _ _ _ _ _ _ h => by cases h)
  | succ n ih0 =>
    intro y1593 y1594 y1595 y1596 y1597 w r w' h T
    simp only [Gf_spill_0] at h
    refine ev_go 2 (pc' := 44) (L' := [some (.ref 0), some (.int y1593), some (.int y1594), some (.int y1595), some (.int y1596), some (.int y1597)]) (st' := [.int y1595, .int y1597]) (h' := (HX w T)) (cs' := 0) (sl' := 0) rfl ?_
    rcases ai_ifE h with ⟨hc, h⟩ | ⟨hc, h⟩
    · refine ev_ic_ge (t := 74) rfl rfl (fun _ => ?_) (fun c9 => absurd hc c9)
      refine ev_go 4 (pc' := 83) (L' := [some (.ref 0), some (.int y1593), some (.int y1594), some (.int y1595), some (.int y1596), some (.int y1597)]) (st' := [.int y1596, .ref 84]) (h' := (HX w T)) (cs' := 0) (sl' := 0) rfl ?_
      obtain ⟨v1598, hq, h⟩ := ai_bdE h
      refine ev_iald rfl rfl hq ?_
      obtain ⟨rfl, rfl⟩ := ai_smP h
      exact ev_end rfl
    · refine ev_ic_ge (t := 74) rfl rfl (fun c9 => absurd c9 hc) (fun _ => ?_)
      refine ev_go 8 (pc' := 65) (L' := [some (.ref 0), some (.int y1593), some (.int y1594), some (.int y1595), some (.int y1596), some (.int y1597)]) (st' := [.int (a_s1_dams w), .int (a_s1_cells w), .ref 83]) (h' := (HX w T)) (cs' := 0) (sl' := 0) rfl ?_
      obtain ⟨c1617, hq, h⟩ := ai_bdE h
      refine ev_call (M' := mspr_goOn) (L' := [some (.ref 83), some (.int (a_s1_cells w)), some (.int (a_s1_dams w)), none]) (rest := []) (rv := none) (h' := (HX c1617 T)) rfl (Espr_goOn_83 n (a_s1_cells w) (a_s1_dams w) w _ hq T) ?_
      show ai_ev D1 mf_spill 68 [some (.ref 0), some (.int y1593), some (.int y1594), some (.int y1595), some (.int y1596), some (.int y1597)] [] (HX c1617 T) 0 0 _
      refine ev_go 2 (pc' := 41) (L' := [some (.ref 0), some (.int y1593), some (.int y1594), some (.int y1595), some (.int y1596), some (.int (y1597 + 1))]) (st' := []) (h' := (HX c1617 T)) (cs' := 0) (sl' := 0) rfl ?_
      exact ih0 _ _ _ _ _ _ _ _ h T
set_option maxHeartbeats 40000000 in
set_option maxRecDepth 100000 in
theorem Ef_spill_0 (n : Nat) (x1569 : Int32) (x1570 : Int32) (x1571 : Int32) (x1572 : Int32) (w : WX) (r : Int32) (w' : WX) (h : Ff_spill_0 n x1569 x1570 x1571 x1572 w = some (r, w')) (T : ai_H) : ai_ev D1 mf_spill 0 [some (.ref 0), some (.int x1569), some (.int x1570), some (.int x1571), some (.int x1572), none] [] (HX w T) 0 0 (some (.int r), HX w' T) := by
  unfold Ff_spill_0 at h
  have ih0 := EGf_spill_0 n
  refine ev_go 4 (pc' := 4) (L' := [some (.ref 0), some (.int x1569), some (.int x1570), some (.int x1571), some (.int x1572), none]) (st' := [.int x1571, .int x1570, .int x1569, .ref 0]) (h' := (HX w T)) (cs' := 0) (sl' := 0) rfl ?_
  obtain ⟨c1579, hq, h⟩ := ai_bdE h
  refine ev_call (M' := mf_isSpill) (L' := [some (.ref 0), some (.int x1569), some (.int x1570), some (.int x1571)]) (rest := []) (rv := some (.int c1579.1)) (h' := (HX c1579.2 T)) rfl (Ef_isSpill_0 x1569 x1570 x1571 w _ _ hq T) ?_
  show ai_ev D1 mf_spill 7 [some (.ref 0), some (.int x1569), some (.int x1570), some (.int x1571), some (.int x1572), none] [.int c1579.1] (HX c1579.2 T) 0 0 _
  rcases ai_ifE h with ⟨hc, h⟩ | ⟨hc, h⟩
  · refine ev_if_eq (t := 22) rfl rfl (fun _ => ?_) (fun c9 => absurd hc c9)
    refine ev_go 2 (pc' := 25) (L' := [some (.ref 0), some (.int x1569), some (.int x1570), some (.int x1571), some (.int x1572), none]) (st' := [.int (-2), .ref 0]) (h' := (HX c1579.2 T)) (cs' := 0) (sl' := 0) rfl ?_
    obtain ⟨c1580, hq, h⟩ := ai_bdE h
    refine ev_call (M' := mf_bad) (L' := [some (.ref 0), some (.int (-2))]) (rest := []) (rv := some (.int c1580.1)) (h' := (HX c1580.2 T)) rfl (Ef_bad_0 (-2) c1579.2 _ _ hq T) ?_
    show ai_ev D1 mf_spill 28 [some (.ref 0), some (.int x1569), some (.int x1570), some (.int x1571), some (.int x1572), none] [.int c1580.1] (HX c1580.2 T) 0 0 _
    obtain ⟨rfl, rfl⟩ := ai_smP h
    exact ev_end rfl
  · refine ev_if_eq (t := 22) rfl rfl (fun c9 => absurd c9 hc) (fun _ => ?_)
    refine ev_go 3 (pc' := 16) (L' := [some (.ref 0), some (.int x1569), some (.int x1570), some (.int x1571), some (.int x1572), none]) (st' := [.int x1572, .ref 1]) (h' := (HX c1579.2 T)) (cs' := 0) (sl' := 0) rfl ?_
    obtain ⟨c1581, hq, h⟩ := ai_bdE h
    refine ev_call (M' := msea_hasCell) (L' := [some (.ref 1), some (.int x1572)]) (rest := []) (rv := some (.int c1581.1)) (h' := (HX c1581.2 T)) rfl (Esea_hasCell_1 x1572 c1579.2 _ _ hq T) ?_
    show ai_ev D1 mf_spill 19 [some (.ref 0), some (.int x1569), some (.int x1570), some (.int x1571), some (.int x1572), none] [.int c1581.1] (HX c1581.2 T) 0 0 _
    rcases ai_ifE h with ⟨hc, h⟩ | ⟨hc, h⟩
    · refine ev_if_ne (t := 29) rfl rfl (fun c9 => absurd hc c9) (fun _ => ?_)
      refine ev_go 2 (pc' := 25) (L' := [some (.ref 0), some (.int x1569), some (.int x1570), some (.int x1571), some (.int x1572), none]) (st' := [.int (-2), .ref 0]) (h' := (HX c1581.2 T)) (cs' := 0) (sl' := 0) rfl ?_
      obtain ⟨c1592, hq, h⟩ := ai_bdE h
      refine ev_call (M' := mf_bad) (L' := [some (.ref 0), some (.int (-2))]) (rest := []) (rv := some (.int c1592.1)) (h' := (HX c1592.2 T)) rfl (Ef_bad_0 (-2) c1581.2 _ _ hq T) ?_
      show ai_ev D1 mf_spill 28 [some (.ref 0), some (.int x1569), some (.int x1570), some (.int x1571), some (.int x1572), none] [.int c1592.1] (HX c1592.2 T) 0 0 _
      obtain ⟨rfl, rfl⟩ := ai_smP h
      exact ev_end rfl
    · refine ev_if_ne (t := 29) rfl rfl (fun _ => ?_) (fun c9 => absurd c9 hc)
      refine ev_go 4 (pc' := 35) (L' := [some (.ref 0), some (.int x1569), some (.int x1570), some (.int x1571), some (.int x1572), none]) (st' := [.int x1570, .int x1569, .ref 83]) (h' := (HX c1581.2 T)) (cs' := 0) (sl' := 0) rfl ?_
      obtain ⟨c1591, hq, h⟩ := ai_bdE h
      refine ev_call (M' := mspr_start) (L' := [some (.ref 83), some (.int x1569), some (.int x1570)]) (rest := []) (rv := none) (h' := (HX c1591 T)) rfl (Espr_start_83 n x1569 x1570 c1581.2 _ hq T) ?_
      show ai_ev D1 mf_spill 38 [some (.ref 0), some (.int x1569), some (.int x1570), some (.int x1571), some (.int x1572), none] [] (HX c1591 T) 0 0 _
      refine ev_go 2 (pc' := 41) (L' := [some (.ref 0), some (.int x1569), some (.int x1570), some (.int x1571), some (.int x1572), some (.int 0)]) (st' := []) (h' := (HX c1591 T)) (cs' := 0) (sl' := 0) rfl ?_
      exact ih0 _ _ _ _ _ _ _ _ h T
set_option maxHeartbeats 40000000 in
set_option maxRecDepth 100000 in
theorem Eint_bitCount (x1633 : Int32) (r : Int32) (h : Fint_bitCount x1633 = some r) (hh : ai_H) : ai_ev D1 mint_bitCount 0 [some (.int x1633)] [] hh 0 0 (some (.int r), hh) := by
  unfold Fint_bitCount at h
  refine ev_go 41 (pc' := 52) (L' := [some (.int (((((((x1633 - (((x1633 : Int32).toUInt32 >>> ((1 : Int32).toUInt32 &&& Int32.toUInt32 31)).toInt32 &&& 1431655765)) &&& 858993459) + ((((x1633 - (((x1633 : Int32).toUInt32 >>> ((1 : Int32).toUInt32 &&& Int32.toUInt32 31)).toInt32 &&& 1431655765)) : Int32).toUInt32 >>> ((2 : Int32).toUInt32 &&& Int32.toUInt32 31)).toInt32 &&& 858993459)) + (((((x1633 - (((x1633 : Int32).toUInt32 >>> ((1 : Int32).toUInt32 &&& Int32.toUInt32 31)).toInt32 &&& 1431655765)) &&& 858993459) + ((((x1633 - (((x1633 : Int32).toUInt32 >>> ((1 : Int32).toUInt32 &&& Int32.toUInt32 31)).toInt32 &&& 1431655765)) : Int32).toUInt32 >>> ((2 : Int32).toUInt32 &&& Int32.toUInt32 31)).toInt32 &&& 858993459)) : Int32).toUInt32 >>> ((4 : Int32).toUInt32 &&& Int32.toUInt32 31)).toInt32) &&& 252645135) + (((((((x1633 - (((x1633 : Int32).toUInt32 >>> ((1 : Int32).toUInt32 &&& Int32.toUInt32 31)).toInt32 &&& 1431655765)) &&& 858993459) + ((((x1633 - (((x1633 : Int32).toUInt32 >>> ((1 : Int32).toUInt32 &&& Int32.toUInt32 31)).toInt32 &&& 1431655765)) : Int32).toUInt32 >>> ((2 : Int32).toUInt32 &&& Int32.toUInt32 31)).toInt32 &&& 858993459)) + (((((x1633 - (((x1633 : Int32).toUInt32 >>> ((1 : Int32).toUInt32 &&& Int32.toUInt32 31)).toInt32 &&& 1431655765)) &&& 858993459) + ((((x1633 - (((x1633 : Int32).toUInt32 >>> ((1 : Int32).toUInt32 &&& Int32.toUInt32 31)).toInt32 &&& 1431655765)) : Int32).toUInt32 >>> ((2 : Int32).toUInt32 &&& Int32.toUInt32 31)).toInt32 &&& 858993459)) : Int32).toUInt32 >>> ((4 : Int32).toUInt32 &&& Int32.toUInt32 31)).toInt32) &&& 252645135) : Int32).toUInt32 >>> ((8 : Int32).toUInt32 &&& Int32.toUInt32 31)).toInt32) + ((((((((x1633 - (((x1633 : Int32).toUInt32 >>> ((1 : Int32).toUInt32 &&& Int32.toUInt32 31)).toInt32 &&& 1431655765)) &&& 858993459) + ((((x1633 - (((x1633 : Int32).toUInt32 >>> ((1 : Int32).toUInt32 &&& Int32.toUInt32 31)).toInt32 &&& 1431655765)) : Int32).toUInt32 >>> ((2 : Int32).toUInt32 &&& Int32.toUInt32 31)).toInt32 &&& 858993459)) + (((((x1633 - (((x1633 : Int32).toUInt32 >>> ((1 : Int32).toUInt32 &&& Int32.toUInt32 31)).toInt32 &&& 1431655765)) &&& 858993459) + ((((x1633 - (((x1633 : Int32).toUInt32 >>> ((1 : Int32).toUInt32 &&& Int32.toUInt32 31)).toInt32 &&& 1431655765)) : Int32).toUInt32 >>> ((2 : Int32).toUInt32 &&& Int32.toUInt32 31)).toInt32 &&& 858993459)) : Int32).toUInt32 >>> ((4 : Int32).toUInt32 &&& Int32.toUInt32 31)).toInt32) &&& 252645135) + (((((((x1633 - (((x1633 : Int32).toUInt32 >>> ((1 : Int32).toUInt32 &&& Int32.toUInt32 31)).toInt32 &&& 1431655765)) &&& 858993459) + ((((x1633 - (((x1633 : Int32).toUInt32 >>> ((1 : Int32).toUInt32 &&& Int32.toUInt32 31)).toInt32 &&& 1431655765)) : Int32).toUInt32 >>> ((2 : Int32).toUInt32 &&& Int32.toUInt32 31)).toInt32 &&& 858993459)) + (((((x1633 - (((x1633 : Int32).toUInt32 >>> ((1 : Int32).toUInt32 &&& Int32.toUInt32 31)).toInt32 &&& 1431655765)) &&& 858993459) + ((((x1633 - (((x1633 : Int32).toUInt32 >>> ((1 : Int32).toUInt32 &&& Int32.toUInt32 31)).toInt32 &&& 1431655765)) : Int32).toUInt32 >>> ((2 : Int32).toUInt32 &&& Int32.toUInt32 31)).toInt32 &&& 858993459)) : Int32).toUInt32 >>> ((4 : Int32).toUInt32 &&& Int32.toUInt32 31)).toInt32) &&& 252645135) : Int32).toUInt32 >>> ((8 : Int32).toUInt32 &&& Int32.toUInt32 31)).toInt32) : Int32).toUInt32 >>> ((16 : Int32).toUInt32 &&& Int32.toUInt32 31)).toInt32))]) (st' := [.int ((((((((x1633 - (((x1633 : Int32).toUInt32 >>> ((1 : Int32).toUInt32 &&& Int32.toUInt32 31)).toInt32 &&& 1431655765)) &&& 858993459) + ((((x1633 - (((x1633 : Int32).toUInt32 >>> ((1 : Int32).toUInt32 &&& Int32.toUInt32 31)).toInt32 &&& 1431655765)) : Int32).toUInt32 >>> ((2 : Int32).toUInt32 &&& Int32.toUInt32 31)).toInt32 &&& 858993459)) + (((((x1633 - (((x1633 : Int32).toUInt32 >>> ((1 : Int32).toUInt32 &&& Int32.toUInt32 31)).toInt32 &&& 1431655765)) &&& 858993459) + ((((x1633 - (((x1633 : Int32).toUInt32 >>> ((1 : Int32).toUInt32 &&& Int32.toUInt32 31)).toInt32 &&& 1431655765)) : Int32).toUInt32 >>> ((2 : Int32).toUInt32 &&& Int32.toUInt32 31)).toInt32 &&& 858993459)) : Int32).toUInt32 >>> ((4 : Int32).toUInt32 &&& Int32.toUInt32 31)).toInt32) &&& 252645135) + (((((((x1633 - (((x1633 : Int32).toUInt32 >>> ((1 : Int32).toUInt32 &&& Int32.toUInt32 31)).toInt32 &&& 1431655765)) &&& 858993459) + ((((x1633 - (((x1633 : Int32).toUInt32 >>> ((1 : Int32).toUInt32 &&& Int32.toUInt32 31)).toInt32 &&& 1431655765)) : Int32).toUInt32 >>> ((2 : Int32).toUInt32 &&& Int32.toUInt32 31)).toInt32 &&& 858993459)) + (((((x1633 - (((x1633 : Int32).toUInt32 >>> ((1 : Int32).toUInt32 &&& Int32.toUInt32 31)).toInt32 &&& 1431655765)) &&& 858993459) + ((((x1633 - (((x1633 : Int32).toUInt32 >>> ((1 : Int32).toUInt32 &&& Int32.toUInt32 31)).toInt32 &&& 1431655765)) : Int32).toUInt32 >>> ((2 : Int32).toUInt32 &&& Int32.toUInt32 31)).toInt32 &&& 858993459)) : Int32).toUInt32 >>> ((4 : Int32).toUInt32 &&& Int32.toUInt32 31)).toInt32) &&& 252645135) : Int32).toUInt32 >>> ((8 : Int32).toUInt32 &&& Int32.toUInt32 31)).toInt32) + ((((((((x1633 - (((x1633 : Int32).toUInt32 >>> ((1 : Int32).toUInt32 &&& Int32.toUInt32 31)).toInt32 &&& 1431655765)) &&& 858993459) + ((((x1633 - (((x1633 : Int32).toUInt32 >>> ((1 : Int32).toUInt32 &&& Int32.toUInt32 31)).toInt32 &&& 1431655765)) : Int32).toUInt32 >>> ((2 : Int32).toUInt32 &&& Int32.toUInt32 31)).toInt32 &&& 858993459)) + (((((x1633 - (((x1633 : Int32).toUInt32 >>> ((1 : Int32).toUInt32 &&& Int32.toUInt32 31)).toInt32 &&& 1431655765)) &&& 858993459) + ((((x1633 - (((x1633 : Int32).toUInt32 >>> ((1 : Int32).toUInt32 &&& Int32.toUInt32 31)).toInt32 &&& 1431655765)) : Int32).toUInt32 >>> ((2 : Int32).toUInt32 &&& Int32.toUInt32 31)).toInt32 &&& 858993459)) : Int32).toUInt32 >>> ((4 : Int32).toUInt32 &&& Int32.toUInt32 31)).toInt32) &&& 252645135) + (((((((x1633 - (((x1633 : Int32).toUInt32 >>> ((1 : Int32).toUInt32 &&& Int32.toUInt32 31)).toInt32 &&& 1431655765)) &&& 858993459) + ((((x1633 - (((x1633 : Int32).toUInt32 >>> ((1 : Int32).toUInt32 &&& Int32.toUInt32 31)).toInt32 &&& 1431655765)) : Int32).toUInt32 >>> ((2 : Int32).toUInt32 &&& Int32.toUInt32 31)).toInt32 &&& 858993459)) + (((((x1633 - (((x1633 : Int32).toUInt32 >>> ((1 : Int32).toUInt32 &&& Int32.toUInt32 31)).toInt32 &&& 1431655765)) &&& 858993459) + ((((x1633 - (((x1633 : Int32).toUInt32 >>> ((1 : Int32).toUInt32 &&& Int32.toUInt32 31)).toInt32 &&& 1431655765)) : Int32).toUInt32 >>> ((2 : Int32).toUInt32 &&& Int32.toUInt32 31)).toInt32 &&& 858993459)) : Int32).toUInt32 >>> ((4 : Int32).toUInt32 &&& Int32.toUInt32 31)).toInt32) &&& 252645135) : Int32).toUInt32 >>> ((8 : Int32).toUInt32 &&& Int32.toUInt32 31)).toInt32) : Int32).toUInt32 >>> ((16 : Int32).toUInt32 &&& Int32.toUInt32 31)).toInt32) &&& 63)]) (h' := hh) (cs' := 0) (sl' := 0) rfl ?_
  obtain rfl := Option.some.inj h
  exact ev_end rfl
set_option maxHeartbeats 40000000 in
set_option maxRecDepth 100000 in
theorem EGspr_isIn_83 : ∀ n : Nat, (∀ (y1649 : Int32) (y1650 : Int32) (w : WX) (r : Int32) (w' : WX), Gspr_isIn_83 n 0 y1649 y1650 w = some (r, w') → ∀ (T : ai_H), ai_ev D1 mspr_isIn 2 [some (.ref 83), some (.int y1649), some (.int y1650)] [] (HX w T) 0 0 (some (.int r), HX w' T)) := by
  intro n
  induction n with
  | zero =>
    exact (fun _ _ _ _ _ h => by cases h)
  | succ n ih0 =>
    intro y1649 y1650 w r w' h T
    simp only [Gspr_isIn_83] at h
    refine ev_go 2 (pc' := 5) (L' := [some (.ref 83), some (.int y1649), some (.int y1650)]) (st' := [.int 6, .int y1650]) (h' := (HX w T)) (cs' := 0) (sl' := 0) rfl ?_
    rcases ai_ifE h with ⟨hc, h⟩ | ⟨hc, h⟩
    · refine ev_ic_ge (t := 34) rfl rfl (fun _ => ?_) (fun c9 => absurd hc c9)
      refine ev_go 1 (pc' := 35) (L' := [some (.ref 83), some (.int y1649), some (.int y1650)]) (st' := [.int 0]) (h' := (HX w T)) (cs' := 0) (sl' := 0) rfl ?_
      obtain ⟨rfl, rfl⟩ := ai_smP h
      exact ev_end rfl
    · refine ev_ic_ge (t := 34) rfl rfl (fun c9 => absurd c9 hc) (fun _ => ?_)
      refine ev_go 6 (pc' := 14) (L' := [some (.ref 83), some (.int y1649), some (.int y1650)]) (st' := [.int 1, .int ((y1649 >>> (y1650 &&& 31)) &&& 1)]) (h' := (HX w T)) (cs' := 0) (sl' := 0) rfl ?_
      rcases ai_ifE h with ⟨hc, h⟩ | ⟨hc, h⟩
      · refine ev_ic_ne (t := 28) rfl rfl (fun c9 => absurd hc c9) (fun _ => ?_)
        refine ev_go 3 (pc' := 22) (L' := [some (.ref 83), some (.int y1649), some (.int y1650)]) (st' := [.int y1650, .ref 84]) (h' := (HX w T)) (cs' := 0) (sl' := 0) rfl ?_
        obtain ⟨v1651, hq, h⟩ := ai_bdE h
        refine ev_iald rfl rfl hq ?_
        rcases ai_ifE h with ⟨hc, h⟩ | ⟨hc, h⟩
        · refine ev_if_le (t := 28) rfl rfl (fun _ => ?_) (fun c9 => absurd hc c9)
          refine ev_go 2 (pc' := 2) (L' := [some (.ref 83), some (.int y1649), some (.int (y1650 + 1))]) (st' := []) (h' := (HX w T)) (cs' := 0) (sl' := 0) rfl ?_
          exact ih0 _ _ _ _ _ h T
        · refine ev_if_le (t := 28) rfl rfl (fun c9 => absurd c9 hc) (fun _ => ?_)
          refine ev_go 1 (pc' := 27) (L' := [some (.ref 83), some (.int y1649), some (.int y1650)]) (st' := [.int 1]) (h' := (HX w T)) (cs' := 0) (sl' := 0) rfl ?_
          obtain ⟨rfl, rfl⟩ := ai_smP h
          exact ev_end rfl
      · refine ev_ic_ne (t := 28) rfl rfl (fun _ => ?_) (fun c9 => absurd c9 hc)
        refine ev_go 2 (pc' := 2) (L' := [some (.ref 83), some (.int y1649), some (.int (y1650 + 1))]) (st' := []) (h' := (HX w T)) (cs' := 0) (sl' := 0) rfl ?_
        exact ih0 _ _ _ _ _ h T
set_option maxHeartbeats 40000000 in
set_option maxRecDepth 100000 in
theorem Espr_isIn_83 (n : Nat) (x1648 : Int32) (w : WX) (r : Int32) (w' : WX) (h : Fspr_isIn_83 n x1648 w = some (r, w')) (T : ai_H) : ai_ev D1 mspr_isIn 0 [some (.ref 83), some (.int x1648), none] [] (HX w T) 0 0 (some (.int r), HX w' T) := by
  unfold Fspr_isIn_83 at h
  have ih0 := EGspr_isIn_83 n
  refine ev_go 2 (pc' := 2) (L' := [some (.ref 83), some (.int x1648), some (.int 0)]) (st' := []) (h' := (HX w T)) (cs' := 0) (sl' := 0) rfl ?_
  exact ih0 _ _ _ _ _ h T
set_option maxHeartbeats 40000000 in
set_option maxRecDepth 100000 in
theorem EGf_keepsOut_0 : ∀ n : Nat, (∀ (y1642 : Int32) (y1643 : Int32) (y1644 : Int32) (y1645 : Int32) (y1646 : Int32) (y1647 : Int32) (w : WX) (r : Int32) (w' : WX), Gf_keepsOut_0 n 0 y1642 y1643 y1644 y1645 y1646 y1647 w = some (r, w') → ∀ (T : ai_H), ai_ev D1 mf_keepsOut 12 [some (.ref 0), some (.int y1642), some (.int y1643), some (.int y1644), some (.int y1645), some (.int y1646), some (.int y1647)] [] (HX w T) 0 0 (some (.int r), HX w' T)) := by
  intro n
  induction n with
  | zero =>
    exact (fun _ _ _ _ _ _ _ _ _ h => by cases h)
  | succ n ih0 =>
    intro y1642 y1643 y1644 y1645 y1646 y1647 w r w' h T
    simp only [Gf_keepsOut_0] at h
    refine ev_go 2 (pc' := 15) (L' := [some (.ref 0), some (.int y1642), some (.int y1643), some (.int y1644), some (.int y1645), some (.int y1646), some (.int y1647)]) (st' := [.int y1644, .int y1647]) (h' := (HX w T)) (cs' := 0) (sl' := 0) rfl ?_
    rcases ai_ifE h with ⟨hc, h⟩ | ⟨hc, h⟩
    · refine ev_ic_ge (t := 54) rfl rfl (fun _ => ?_) (fun c9 => absurd hc c9)
      refine ev_go 3 (pc' := 60) (L' := [some (.ref 0), some (.int y1642), some (.int y1643), some (.int y1644), some (.int y1645), some (.int y1646), some (.int y1647)]) (st' := [.int y1645, .ref 83]) (h' := (HX w T)) (cs' := 0) (sl' := 0) rfl ?_
      obtain ⟨c1652, hq, h⟩ := ai_bdE h
      refine ev_call (M' := mspr_isIn) (L' := [some (.ref 83), some (.int y1645), none]) (rest := []) (rv := some (.int c1652.1)) (h' := (HX c1652.2 T)) rfl (Espr_isIn_83 n y1645 w _ _ hq T) ?_
      show ai_ev D1 mf_keepsOut 63 [some (.ref 0), some (.int y1642), some (.int y1643), some (.int y1644), some (.int y1645), some (.int y1646), some (.int y1647)] [.int c1652.1] (HX c1652.2 T) 0 0 _
      rcases ai_ifE h with ⟨hc, h⟩ | ⟨hc, h⟩
      · refine ev_if_ne (t := 70) rfl rfl (fun c9 => absurd hc c9) (fun _ => ?_)
        refine ev_go 2 (pc' := 71) (L' := [some (.ref 0), some (.int y1642), some (.int y1643), some (.int y1644), some (.int y1645), some (.int y1646), some (.int y1647)]) (st' := [.int 1]) (h' := (HX c1652.2 T)) (cs' := 0) (sl' := 0) rfl ?_
        obtain ⟨rfl, rfl⟩ := ai_smP h
        exact ev_end rfl
      · refine ev_if_ne (t := 70) rfl rfl (fun _ => ?_) (fun c9 => absurd c9 hc)
        refine ev_go 1 (pc' := 71) (L' := [some (.ref 0), some (.int y1642), some (.int y1643), some (.int y1644), some (.int y1645), some (.int y1646), some (.int y1647)]) (st' := [.int 0]) (h' := (HX c1652.2 T)) (cs' := 0) (sl' := 0) rfl ?_
        obtain ⟨rfl, rfl⟩ := ai_smP h
        exact ev_end rfl
    · refine ev_ic_ge (t := 54) rfl rfl (fun c9 => absurd c9 hc) (fun _ => ?_)
      refine ev_go 3 (pc' := 24) (L' := [some (.ref 0), some (.int y1642), some (.int y1643), some (.int y1644), some (.int y1645), some (.int y1646), some (.int y1647)]) (st' := [.int y1645, .ref 83]) (h' := (HX w T)) (cs' := 0) (sl' := 0) rfl ?_
      obtain ⟨c1653, hq, h⟩ := ai_bdE h
      refine ev_call (M' := mspr_isIn) (L' := [some (.ref 83), some (.int y1645), none]) (rest := []) (rv := some (.int c1653.1)) (h' := (HX c1653.2 T)) rfl (Espr_isIn_83 n y1645 w _ _ hq T) ?_
      show ai_ev D1 mf_keepsOut 27 [some (.ref 0), some (.int y1642), some (.int y1643), some (.int y1644), some (.int y1645), some (.int y1646), some (.int y1647)] [.int c1653.1] (HX c1653.2 T) 0 0 _
      rcases ai_ifE h with ⟨hc, h⟩ | ⟨hc, h⟩
      · refine ev_if_eq (t := 32) rfl rfl (fun _ => ?_) (fun c9 => absurd hc c9)
        refine ev_go 6 (pc' := 45) (L' := [some (.ref 0), some (.int y1642), some (.int y1643), some (.int y1644), some (.int y1645), some (.int y1646), some (.int y1647)]) (st' := [.int y1646, .int (a_s1_cells c1653.2), .ref 83]) (h' := (HX c1653.2 T)) (cs' := 0) (sl' := 0) rfl ?_
        obtain ⟨c1654, hq, h⟩ := ai_bdE h
        refine ev_call (M' := mspr_goOn) (L' := [some (.ref 83), some (.int (a_s1_cells c1653.2)), some (.int y1646), none]) (rest := []) (rv := none) (h' := (HX c1654 T)) rfl (Espr_goOn_83 n (a_s1_cells c1653.2) y1646 c1653.2 _ hq T) ?_
        show ai_ev D1 mf_keepsOut 48 [some (.ref 0), some (.int y1642), some (.int y1643), some (.int y1644), some (.int y1645), some (.int y1646), some (.int y1647)] [] (HX c1654 T) 0 0 _
        refine ev_go 2 (pc' := 12) (L' := [some (.ref 0), some (.int y1642), some (.int y1643), some (.int y1644), some (.int y1645), some (.int y1646), some (.int (y1647 + 1))]) (st' := []) (h' := (HX c1654 T)) (cs' := 0) (sl' := 0) rfl ?_
        exact ih0 _ _ _ _ _ _ _ _ _ h T
      · refine ev_if_eq (t := 32) rfl rfl (fun c9 => absurd c9 hc) (fun _ => ?_)
        refine ev_go 1 (pc' := 31) (L' := [some (.ref 0), some (.int y1642), some (.int y1643), some (.int y1644), some (.int y1645), some (.int y1646), some (.int y1647)]) (st' := [.int 0]) (h' := (HX c1653.2 T)) (cs' := 0) (sl' := 0) rfl ?_
        obtain ⟨rfl, rfl⟩ := ai_smP h
        exact ev_end rfl
set_option maxHeartbeats 40000000 in
set_option maxRecDepth 100000 in
theorem Ef_keepsOut_0 (n : Nat) (x1636 : Int32) (x1637 : Int32) (x1638 : Int32) (x1639 : Int32) (x1640 : Int32) (w : WX) (r : Int32) (w' : WX) (h : Ff_keepsOut_0 n x1636 x1637 x1638 x1639 x1640 w = some (r, w')) (T : ai_H) : ai_ev D1 mf_keepsOut 0 [some (.ref 0), some (.int x1636), some (.int x1637), some (.int x1638), some (.int x1639), some (.int x1640), none] [] (HX w T) 0 0 (some (.int r), HX w' T) := by
  unfold Ff_keepsOut_0 at h
  have ih0 := EGf_keepsOut_0 n
  refine ev_go 4 (pc' := 6) (L' := [some (.ref 0), some (.int x1636), some (.int x1637), some (.int x1638), some (.int x1639), some (.int x1640), none]) (st' := [.int x1637, .int x1636, .ref 83]) (h' := (HX w T)) (cs' := 0) (sl' := 0) rfl ?_
  obtain ⟨c1641, hq, h⟩ := ai_bdE h
  refine ev_call (M' := mspr_start) (L' := [some (.ref 83), some (.int x1636), some (.int x1637)]) (rest := []) (rv := none) (h' := (HX c1641 T)) rfl (Espr_start_83 n x1636 x1637 w _ hq T) ?_
  show ai_ev D1 mf_keepsOut 9 [some (.ref 0), some (.int x1636), some (.int x1637), some (.int x1638), some (.int x1639), some (.int x1640), none] [] (HX c1641 T) 0 0 _
  refine ev_go 2 (pc' := 12) (L' := [some (.ref 0), some (.int x1636), some (.int x1637), some (.int x1638), some (.int x1639), some (.int x1640), some (.int 0)]) (st' := []) (h' := (HX c1641 T)) (cs' := 0) (sl' := 0) rfl ?_
  exact ih0 _ _ _ _ _ _ _ _ _ h T
set_option maxHeartbeats 40000000 in
set_option maxRecDepth 100000 in
theorem EGf_keepOut_0 : ∀ n : Nat, (∀ (y1626 : Int32) (y1627 : Int32) (y1628 : Int32) (y1629 : Int32) (y1630 : Int32) (y1631 : Int32) (y1632 : Int32) (w : WX) (r : Int32) (w' : WX), Gf_keepOut_0 n 0 y1626 y1627 y1628 y1629 y1630 y1631 y1632 w = some (r, w') → ∀ (T : ai_H) (o8 o9 : Option Value), ai_ev D1 mf_keepOut 56 [some (.ref 0), some (.int y1626), some (.int y1627), some (.int y1628), some (.int y1629), some (.int y1630), some (.int y1631), some (.int y1632), o8, o9] [] (HX w T) 0 0 (some (.int r), HX w' T)) := by
  intro n
  induction n with
  | zero =>
    exact (fun _ _ _ _ _ _ _ _ _ _ h => by cases h)
  | succ n ih0 =>
    intro y1626 y1627 y1628 y1629 y1630 y1631 y1632 w r w' h T o8 o9
    simp only [Gf_keepOut_0] at h
    refine ev_go 2 (pc' := 60) (L' := [some (.ref 0), some (.int y1626), some (.int y1627), some (.int y1628), some (.int y1629), some (.int y1630), some (.int y1631), some (.int y1632), o8, o9]) (st' := [.int y1631, .int y1632]) (h' := (HX w T)) (cs' := 0) (sl' := 0) rfl ?_
    rcases ai_ifE h with ⟨hc, h⟩ | ⟨hc, h⟩
    · refine ev_ic_ge (t := 151) rfl rfl (fun _ => ?_) (fun c9 => absurd hc c9)
      refine ev_go 1 (pc' := 153) (L' := [some (.ref 0), some (.int y1626), some (.int y1627), some (.int y1628), some (.int y1629), some (.int y1630), some (.int y1631), some (.int y1632), o8, o9]) (st' := [.int y1630]) (h' := (HX w T)) (cs' := 0) (sl' := 0) rfl ?_
      obtain ⟨rfl, rfl⟩ := ai_smP h
      exact ev_end rfl
    · refine ev_ic_ge (t := 151) rfl rfl (fun c9 => absurd c9 hc) (fun _ => ?_)
      refine ev_go 5 (pc' := 73) (L' := [some (.ref 0), some (.int y1626), some (.int y1627), some (.int y1628), some (.int y1629), some (.int y1630), some (.int y1631), some (.int y1632), o8, o9]) (st' := [.int (y1632 &&& (a_s1_dams w))]) (h' := (HX w T)) (cs' := 0) (sl' := 0) rfl ?_
      rcases ai_ifE h with ⟨hc, h⟩ | ⟨hc, h⟩
      · refine ev_if_ne (t := 80) rfl rfl (fun c9 => absurd hc c9) (fun _ => ?_)
        refine ev_go 5 (pc' := 86) (L' := [some (.ref 0), some (.int y1626), some (.int y1627), some (.int y1628), some (.int y1629), some (.int y1630), some (.int y1631), some (.int y1632), some (.int 1), o9]) (st' := [.int (-1), .int y1630]) (h' := (HX w T)) (cs' := 0) (sl' := 0) rfl ?_
        rcases ai_ifE h with ⟨hc, h⟩ | ⟨hc, h⟩
        · refine ev_ic_eq (t := 102) rfl rfl (fun _ => ?_) (fun c9 => absurd hc c9)
          refine ev_go 17 (pc' := 135) (L' := [some (.ref 0), some (.int y1626), some (.int y1627), some (.int y1628), some (.int y1629), some (.int y1630), some (.int y1631), some (.int y1632), some (.int 1), some (.int 1)]) (st' := [.int ((a_s1_dams w) ||| y1632), .int y1629, .int y1628, .int y1627, .int y1626, .ref 0]) (h' := (HX w T)) (cs' := 0) (sl' := 0) rfl ?_
          obtain ⟨c1655, hq, h⟩ := ai_bdE h
          refine ev_call (M' := mf_keepsOut) (L' := [some (.ref 0), some (.int y1626), some (.int y1627), some (.int y1628), some (.int y1629), some (.int ((a_s1_dams w) ||| y1632)), none]) (rest := []) (rv := some (.int c1655.1)) (h' := (HX c1655.2 T)) rfl (Ef_keepsOut_0 n y1626 y1627 y1628 y1629 ((a_s1_dams w) ||| y1632) w _ _ hq T) ?_
          show ai_ev D1 mf_keepOut 138 [some (.ref 0), some (.int y1626), some (.int y1627), some (.int y1628), some (.int y1629), some (.int y1630), some (.int y1631), some (.int y1632), some (.int 1), some (.int 1)] [.int c1655.1] (HX c1655.2 T) 0 0 _
          rcases ai_ifE h with ⟨hc, h⟩ | ⟨hc, h⟩
          · refine ev_if_eq (t := 145) rfl rfl (fun _ => ?_) (fun c9 => absurd hc c9)
            refine ev_go 2 (pc' := 56) (L' := [some (.ref 0), some (.int y1626), some (.int y1627), some (.int y1628), some (.int y1629), some (.int y1630), some (.int y1631), some (.int (y1632 + 1)), some (.int 1), some (.int 1)]) (st' := []) (h' := (HX c1655.2 T)) (cs' := 0) (sl' := 0) rfl ?_
            exact ih0 _ _ _ _ _ _ _ _ _ _ h T _ _
          · refine ev_if_eq (t := 145) rfl rfl (fun c9 => absurd c9 hc) (fun _ => ?_)
            refine ev_go 4 (pc' := 56) (L' := [some (.ref 0), some (.int y1626), some (.int y1627), some (.int y1628), some (.int y1629), some (.int y1632), some (.int y1631), some (.int (y1632 + 1)), some (.int 1), some (.int 1)]) (st' := []) (h' := (HX c1655.2 T)) (cs' := 0) (sl' := 0) rfl ?_
            exact ih0 _ _ _ _ _ _ _ _ _ _ h T _ _
        · refine ev_ic_eq (t := 102) rfl rfl (fun c9 => absurd c9 hc) (fun _ => ?_)
          refine ev_go 1 (pc' := 91) (L' := [some (.ref 0), some (.int y1626), some (.int y1627), some (.int y1628), some (.int y1629), some (.int y1630), some (.int y1631), some (.int y1632), some (.int 1), o9]) (st' := [.int y1632]) (h' := (HX w T)) (cs' := 0) (sl' := 0) rfl ?_
          obtain ⟨c1656, hq, h⟩ := ai_bdE h
          refine ev_call (M' := mint_bitCount) (L' := [some (.int y1632)]) (rest := []) (rv := some (.int c1656)) (h' := (HX w T)) rfl (Eint_bitCount y1632 _ hq (HX w T)) ?_
          show ai_ev D1 mf_keepOut 94 [some (.ref 0), some (.int y1626), some (.int y1627), some (.int y1628), some (.int y1629), some (.int y1630), some (.int y1631), some (.int y1632), some (.int 1), o9] [.int c1656] (HX w T) 0 0 _
          refine ev_go 1 (pc' := 96) (L' := [some (.ref 0), some (.int y1626), some (.int y1627), some (.int y1628), some (.int y1629), some (.int y1630), some (.int y1631), some (.int y1632), some (.int 1), o9]) (st' := [.int y1630, .int c1656]) (h' := (HX w T)) (cs' := 0) (sl' := 0) rfl ?_
          obtain ⟨c1657, hq, h⟩ := ai_bdE h
          refine ev_call (M' := mint_bitCount) (L' := [some (.int y1630)]) (rest := [.int c1656]) (rv := some (.int c1657)) (h' := (HX w T)) rfl (Eint_bitCount y1630 _ hq (HX w T)) ?_
          show ai_ev D1 mf_keepOut 99 [some (.ref 0), some (.int y1626), some (.int y1627), some (.int y1628), some (.int y1629), some (.int y1630), some (.int y1631), some (.int y1632), some (.int 1), o9] [.int c1657, .int c1656] (HX w T) 0 0 _
          rcases ai_ifE h with ⟨hc, h⟩ | ⟨hc, h⟩
          · refine ev_ic_ge (t := 106) rfl rfl (fun _ => ?_) (fun c9 => absurd hc c9)
            refine ev_go 8 (pc' := 56) (L' := [some (.ref 0), some (.int y1626), some (.int y1627), some (.int y1628), some (.int y1629), some (.int y1630), some (.int y1631), some (.int (y1632 + 1)), some (.int 1), some (.int 0)]) (st' := []) (h' := (HX w T)) (cs' := 0) (sl' := 0) rfl ?_
            exact ih0 _ _ _ _ _ _ _ _ _ _ h T _ _
          · refine ev_ic_ge (t := 106) rfl rfl (fun c9 => absurd c9 hc) (fun _ => ?_)
            refine ev_go 17 (pc' := 135) (L' := [some (.ref 0), some (.int y1626), some (.int y1627), some (.int y1628), some (.int y1629), some (.int y1630), some (.int y1631), some (.int y1632), some (.int 1), some (.int 1)]) (st' := [.int ((a_s1_dams w) ||| y1632), .int y1629, .int y1628, .int y1627, .int y1626, .ref 0]) (h' := (HX w T)) (cs' := 0) (sl' := 0) rfl ?_
            obtain ⟨c1658, hq, h⟩ := ai_bdE h
            refine ev_call (M' := mf_keepsOut) (L' := [some (.ref 0), some (.int y1626), some (.int y1627), some (.int y1628), some (.int y1629), some (.int ((a_s1_dams w) ||| y1632)), none]) (rest := []) (rv := some (.int c1658.1)) (h' := (HX c1658.2 T)) rfl (Ef_keepsOut_0 n y1626 y1627 y1628 y1629 ((a_s1_dams w) ||| y1632) w _ _ hq T) ?_
            show ai_ev D1 mf_keepOut 138 [some (.ref 0), some (.int y1626), some (.int y1627), some (.int y1628), some (.int y1629), some (.int y1630), some (.int y1631), some (.int y1632), some (.int 1), some (.int 1)] [.int c1658.1] (HX c1658.2 T) 0 0 _
            rcases ai_ifE h with ⟨hc, h⟩ | ⟨hc, h⟩
            · refine ev_if_eq (t := 145) rfl rfl (fun _ => ?_) (fun c9 => absurd hc c9)
              refine ev_go 2 (pc' := 56) (L' := [some (.ref 0), some (.int y1626), some (.int y1627), some (.int y1628), some (.int y1629), some (.int y1630), some (.int y1631), some (.int (y1632 + 1)), some (.int 1), some (.int 1)]) (st' := []) (h' := (HX c1658.2 T)) (cs' := 0) (sl' := 0) rfl ?_
              exact ih0 _ _ _ _ _ _ _ _ _ _ h T _ _
            · refine ev_if_eq (t := 145) rfl rfl (fun c9 => absurd c9 hc) (fun _ => ?_)
              refine ev_go 4 (pc' := 56) (L' := [some (.ref 0), some (.int y1626), some (.int y1627), some (.int y1628), some (.int y1629), some (.int y1632), some (.int y1631), some (.int (y1632 + 1)), some (.int 1), some (.int 1)]) (st' := []) (h' := (HX c1658.2 T)) (cs' := 0) (sl' := 0) rfl ?_
              exact ih0 _ _ _ _ _ _ _ _ _ _ h T _ _
      · refine ev_if_ne (t := 80) rfl rfl (fun _ => ?_) (fun c9 => absurd c9 hc)
        refine ev_go 4 (pc' := 86) (L' := [some (.ref 0), some (.int y1626), some (.int y1627), some (.int y1628), some (.int y1629), some (.int y1630), some (.int y1631), some (.int y1632), some (.int 0), o9]) (st' := [.int (-1), .int y1630]) (h' := (HX w T)) (cs' := 0) (sl' := 0) rfl ?_
        rcases ai_ifE h with ⟨hc, h⟩ | ⟨hc, h⟩
        · refine ev_ic_eq (t := 102) rfl rfl (fun _ => ?_) (fun c9 => absurd hc c9)
          refine ev_go 7 (pc' := 56) (L' := [some (.ref 0), some (.int y1626), some (.int y1627), some (.int y1628), some (.int y1629), some (.int y1630), some (.int y1631), some (.int (y1632 + 1)), some (.int 0), some (.int 1)]) (st' := []) (h' := (HX w T)) (cs' := 0) (sl' := 0) rfl ?_
          exact ih0 _ _ _ _ _ _ _ _ _ _ h T _ _
        · refine ev_ic_eq (t := 102) rfl rfl (fun c9 => absurd c9 hc) (fun _ => ?_)
          refine ev_go 1 (pc' := 91) (L' := [some (.ref 0), some (.int y1626), some (.int y1627), some (.int y1628), some (.int y1629), some (.int y1630), some (.int y1631), some (.int y1632), some (.int 0), o9]) (st' := [.int y1632]) (h' := (HX w T)) (cs' := 0) (sl' := 0) rfl ?_
          obtain ⟨c1634, hq, h⟩ := ai_bdE h
          refine ev_call (M' := mint_bitCount) (L' := [some (.int y1632)]) (rest := []) (rv := some (.int c1634)) (h' := (HX w T)) rfl (Eint_bitCount y1632 _ hq (HX w T)) ?_
          show ai_ev D1 mf_keepOut 94 [some (.ref 0), some (.int y1626), some (.int y1627), some (.int y1628), some (.int y1629), some (.int y1630), some (.int y1631), some (.int y1632), some (.int 0), o9] [.int c1634] (HX w T) 0 0 _
          refine ev_go 1 (pc' := 96) (L' := [some (.ref 0), some (.int y1626), some (.int y1627), some (.int y1628), some (.int y1629), some (.int y1630), some (.int y1631), some (.int y1632), some (.int 0), o9]) (st' := [.int y1630, .int c1634]) (h' := (HX w T)) (cs' := 0) (sl' := 0) rfl ?_
          obtain ⟨c1635, hq, h⟩ := ai_bdE h
          refine ev_call (M' := mint_bitCount) (L' := [some (.int y1630)]) (rest := [.int c1634]) (rv := some (.int c1635)) (h' := (HX w T)) rfl (Eint_bitCount y1630 _ hq (HX w T)) ?_
          show ai_ev D1 mf_keepOut 99 [some (.ref 0), some (.int y1626), some (.int y1627), some (.int y1628), some (.int y1629), some (.int y1630), some (.int y1631), some (.int y1632), some (.int 0), o9] [.int c1635, .int c1634] (HX w T) 0 0 _
          rcases ai_ifE h with ⟨hc, h⟩ | ⟨hc, h⟩
          · refine ev_ic_ge (t := 106) rfl rfl (fun _ => ?_) (fun c9 => absurd hc c9)
            refine ev_go 6 (pc' := 56) (L' := [some (.ref 0), some (.int y1626), some (.int y1627), some (.int y1628), some (.int y1629), some (.int y1630), some (.int y1631), some (.int (y1632 + 1)), some (.int 0), some (.int 0)]) (st' := []) (h' := (HX w T)) (cs' := 0) (sl' := 0) rfl ?_
            exact ih0 _ _ _ _ _ _ _ _ _ _ h T _ _
          · refine ev_ic_ge (t := 106) rfl rfl (fun c9 => absurd c9 hc) (fun _ => ?_)
            refine ev_go 7 (pc' := 56) (L' := [some (.ref 0), some (.int y1626), some (.int y1627), some (.int y1628), some (.int y1629), some (.int y1630), some (.int y1631), some (.int (y1632 + 1)), some (.int 0), some (.int 1)]) (st' := []) (h' := (HX w T)) (cs' := 0) (sl' := 0) rfl ?_
            exact ih0 _ _ _ _ _ _ _ _ _ _ h T _ _
set_option maxHeartbeats 40000000 in
set_option maxRecDepth 100000 in
theorem Ef_keepOut_0 (n : Nat) (x1618 : Int32) (x1619 : Int32) (x1620 : Int32) (x1621 : Int32) (w : WX) (r : Int32) (w' : WX) (h : Ff_keepOut_0 n x1618 x1619 x1620 x1621 w = some (r, w')) (T : ai_H) : ai_ev D1 mf_keepOut 0 [some (.ref 0), some (.int x1618), some (.int x1619), some (.int x1620), some (.int x1621), none, none, none, none, none] [] (HX w T) 0 0 (some (.int r), HX w' T) := by
  unfold Ff_keepOut_0 at h
  have ih0 := EGf_keepOut_0 n
  refine ev_go 4 (pc' := 4) (L' := [some (.ref 0), some (.int x1618), some (.int x1619), some (.int x1620), some (.int x1621), none, none, none, none, none]) (st' := [.int x1620, .int x1619, .int x1618, .ref 0]) (h' := (HX w T)) (cs' := 0) (sl' := 0) rfl ?_
  obtain ⟨c1622, hq, h⟩ := ai_bdE h
  refine ev_call (M' := mf_isSpill) (L' := [some (.ref 0), some (.int x1618), some (.int x1619), some (.int x1620)]) (rest := []) (rv := some (.int c1622.1)) (h' := (HX c1622.2 T)) rfl (Ef_isSpill_0 x1618 x1619 x1620 w _ _ hq T) ?_
  show ai_ev D1 mf_keepOut 7 [some (.ref 0), some (.int x1618), some (.int x1619), some (.int x1620), some (.int x1621), none, none, none, none, none] [.int c1622.1] (HX c1622.2 T) 0 0 _
  rcases ai_ifE h with ⟨hc, h⟩ | ⟨hc, h⟩
  · refine ev_if_eq (t := 30) rfl rfl (fun _ => ?_) (fun c9 => absurd hc c9)
    refine ev_go 2 (pc' := 33) (L' := [some (.ref 0), some (.int x1618), some (.int x1619), some (.int x1620), some (.int x1621), none, none, none, none, none]) (st' := [.int (-2), .ref 0]) (h' := (HX c1622.2 T)) (cs' := 0) (sl' := 0) rfl ?_
    obtain ⟨c1623, hq, h⟩ := ai_bdE h
    refine ev_call (M' := mf_bad) (L' := [some (.ref 0), some (.int (-2))]) (rest := []) (rv := some (.int c1623.1)) (h' := (HX c1623.2 T)) rfl (Ef_bad_0 (-2) c1622.2 _ _ hq T) ?_
    show ai_ev D1 mf_keepOut 36 [some (.ref 0), some (.int x1618), some (.int x1619), some (.int x1620), some (.int x1621), none, none, none, none, none] [.int c1623.1] (HX c1623.2 T) 0 0 _
    obtain ⟨rfl, rfl⟩ := ai_smP h
    exact ev_end rfl
  · refine ev_if_eq (t := 30) rfl rfl (fun c9 => absurd c9 hc) (fun _ => ?_)
    refine ev_go 9 (pc' := 24) (L' := [some (.ref 0), some (.int x1618), some (.int x1619), some (.int x1620), some (.int x1621), none, none, none, none, none]) (st' := [.int ((1 <<< ((a_s1_cells c1622.2) &&& 31)) - 1), .int 0, .int x1621]) (h' := (HX c1622.2 T)) (cs' := 0) (sl' := 0) rfl ?_
    obtain ⟨c1624, hq, h⟩ := ai_bdE h
    refine ev_call (M' := mf_within) (L' := [some (.int x1621), some (.int 0), some (.int ((1 <<< ((a_s1_cells c1622.2) &&& 31)) - 1))]) (rest := []) (rv := some (.int c1624)) (h' := (HX c1622.2 T)) rfl (Ef_within x1621 0 ((1 <<< ((a_s1_cells c1622.2) &&& 31)) - 1) _ hq (HX c1622.2 T)) ?_
    show ai_ev D1 mf_keepOut 27 [some (.ref 0), some (.int x1618), some (.int x1619), some (.int x1620), some (.int x1621), none, none, none, none, none] [.int c1624] (HX c1622.2 T) 0 0 _
    rcases ai_ifE h with ⟨hc, h⟩ | ⟨hc, h⟩
    · refine ev_if_ne (t := 37) rfl rfl (fun c9 => absurd hc c9) (fun _ => ?_)
      refine ev_go 2 (pc' := 33) (L' := [some (.ref 0), some (.int x1618), some (.int x1619), some (.int x1620), some (.int x1621), none, none, none, none, none]) (st' := [.int (-2), .ref 0]) (h' := (HX c1622.2 T)) (cs' := 0) (sl' := 0) rfl ?_
      obtain ⟨c1625, hq, h⟩ := ai_bdE h
      refine ev_call (M' := mf_bad) (L' := [some (.ref 0), some (.int (-2))]) (rest := []) (rv := some (.int c1625.1)) (h' := (HX c1625.2 T)) rfl (Ef_bad_0 (-2) c1622.2 _ _ hq T) ?_
      show ai_ev D1 mf_keepOut 36 [some (.ref 0), some (.int x1618), some (.int x1619), some (.int x1620), some (.int x1621), none, none, none, none, none] [.int c1625.1] (HX c1625.2 T) 0 0 _
      obtain ⟨rfl, rfl⟩ := ai_smP h
      exact ev_end rfl
    · refine ev_if_ne (t := 37) rfl rfl (fun _ => ?_) (fun c9 => absurd c9 hc)
      refine ev_go 12 (pc' := 56) (L' := [some (.ref 0), some (.int x1618), some (.int x1619), some (.int x1620), some (.int x1621), some (.int (-1)), some (.int (1 <<< (((a_s1_cells c1622.2) - 1) &&& 31))), some (.int 0), none, none]) (st' := []) (h' := (HX c1622.2 T)) (cs' := 0) (sl' := 0) rfl ?_
      exact ih0 _ _ _ _ _ _ _ _ _ _ h T _ _
