set_option maxHeartbeats 40000000 in
set_option maxRecDepth 100000 in
theorem EGsea_fitsDrops_1 : ∀ n : Nat, (∀ (y1660 : Int32) (y1661 : Int32) (y1662 : Int32) (w : WX) (r : Int32) (w' : WX), Gsea_fitsDrops_1 n 0 y1660 y1661 y1662 w = some (r, w') → ∀ (T : ai_H) (o4 : Option Value), ai_ev D1 msea_fitsDrops 2 [some (.ref 1), some (.int y1660), some (.int y1661), some (.int y1662), o4] [] (HX w T) 0 0 (some (.int r), HX w' T)) := by
  intro n
  induction n with
  | zero =>
    exact (fun _ _ _ _ _ _ h => by cases h)
  | succ n ih0 =>
    intro y1660 y1661 y1662 w r w' h T o4
    simp only [Gsea_fitsDrops_1] at h
    refine ev_go 3 (pc' := 7) (L' := [some (.ref 1), some (.int y1660), some (.int y1661), some (.int y1662), o4]) (st' := [.int (a_s1_drops w), .int y1662]) (h' := (HX w T)) (cs' := 0) (sl' := 0) rfl ?_
    rcases ai_ifE h with ⟨hc, h⟩ | ⟨hc, h⟩
    · refine ev_ic_ge (t := 62) rfl rfl (fun _ => ?_) (fun c9 => absurd hc c9)
      refine ev_go 1 (pc' := 63) (L' := [some (.ref 1), some (.int y1660), some (.int y1661), some (.int y1662), o4]) (st' := [.int 1]) (h' := (HX w T)) (cs' := 0) (sl' := 0) rfl ?_
      obtain ⟨rfl, rfl⟩ := ai_smP h
      exact ev_end rfl
    · refine ev_ic_ge (t := 62) rfl rfl (fun c9 => absurd c9 hc) (fun _ => ?_)
      refine ev_go 7 (pc' := 21) (L' := [some (.ref 1), some (.int y1660), some (.int y1661), some (.int y1662), o4]) (st' := [.int y1662, .ref 17, .ref 2, .int y1660, .int y1661]) (h' := (HX w T)) (cs' := 0) (sl' := 0) rfl ?_
      obtain ⟨v1663, hq, h⟩ := ai_bdE h
      refine ev_iald rfl rfl hq ?_
      obtain ⟨v1664, hq, h⟩ := ai_bdE h
      refine ev_iald rfl rfl hq ?_
      refine ev_go 1 (pc' := 24) (L' := [some (.ref 1), some (.int y1660), some (.int y1661), some (.int y1662), o4]) (st' := [.int (y1660 * v1664), .int y1661]) (h' := (HX w T)) (cs' := 0) (sl' := 0) rfl ?_
      rcases ai_ifE h with ⟨hc, h⟩ | ⟨hc, h⟩
      · refine ev_ic_gt (t := 31) rfl rfl (fun _ => ?_) (fun c9 => absurd hc c9)
        refine ev_go 6 (pc' := 41) (L' := [some (.ref 1), some (.int y1660), some (.int y1661), some (.int y1662), some (.int 0)]) (st' := [.int y1662, .ref 18, .int 0]) (h' := (HX w T)) (cs' := 0) (sl' := 0) rfl ?_
        obtain ⟨v1665, hq, h⟩ := ai_bdE h
        refine ev_iald rfl rfl hq ?_
        refine ev_go 1 (pc' := 43) (L' := [some (.ref 1), some (.int y1660), some (.int y1661), some (.int y1662), some (.int 0)]) (st' := [.int 1, .int v1665, .int 0]) (h' := (HX w T)) (cs' := 0) (sl' := 0) rfl ?_
        rcases ai_ifE h with ⟨hc, h⟩ | ⟨hc, h⟩
        · refine ev_ic_ne (t := 50) rfl rfl (fun c9 => absurd hc c9) (fun _ => ?_)
          refine ev_go 4 (pc' := 55) (L' := [some (.ref 1), some (.int y1660), some (.int y1661), some (.int y1662), some (.int 0)]) (st' := [.int 0]) (h' := (HX w T)) (cs' := 0) (sl' := 0) rfl ?_
          obtain ⟨rfl, rfl⟩ := ai_smP h
          exact ev_end rfl
        · refine ev_ic_ne (t := 50) rfl rfl (fun _ => ?_) (fun c9 => absurd c9 hc)
          refine ev_go 4 (pc' := 2) (L' := [some (.ref 1), some (.int y1660), some (.int y1661), some (.int (y1662 + 1)), some (.int 0)]) (st' := []) (h' := (HX w T)) (cs' := 0) (sl' := 0) rfl ?_
          exact ih0 _ _ _ _ _ _ h T _
      · refine ev_ic_gt (t := 31) rfl rfl (fun c9 => absurd c9 hc) (fun _ => ?_)
        refine ev_go 7 (pc' := 41) (L' := [some (.ref 1), some (.int y1660), some (.int y1661), some (.int y1662), some (.int 1)]) (st' := [.int y1662, .ref 18, .int 1]) (h' := (HX w T)) (cs' := 0) (sl' := 0) rfl ?_
        obtain ⟨v1666, hq, h⟩ := ai_bdE h
        refine ev_iald rfl rfl hq ?_
        refine ev_go 1 (pc' := 43) (L' := [some (.ref 1), some (.int y1660), some (.int y1661), some (.int y1662), some (.int 1)]) (st' := [.int 1, .int v1666, .int 1]) (h' := (HX w T)) (cs' := 0) (sl' := 0) rfl ?_
        rcases ai_ifE h with ⟨hc, h⟩ | ⟨hc, h⟩
        · refine ev_ic_ne (t := 50) rfl rfl (fun c9 => absurd hc c9) (fun _ => ?_)
          refine ev_go 5 (pc' := 2) (L' := [some (.ref 1), some (.int y1660), some (.int y1661), some (.int (y1662 + 1)), some (.int 1)]) (st' := []) (h' := (HX w T)) (cs' := 0) (sl' := 0) rfl ?_
          exact ih0 _ _ _ _ _ _ h T _
        · refine ev_ic_ne (t := 50) rfl rfl (fun _ => ?_) (fun c9 => absurd c9 hc)
          refine ev_go 3 (pc' := 55) (L' := [some (.ref 1), some (.int y1660), some (.int y1661), some (.int y1662), some (.int 1)]) (st' := [.int 0]) (h' := (HX w T)) (cs' := 0) (sl' := 0) rfl ?_
          obtain ⟨rfl, rfl⟩ := ai_smP h
          exact ev_end rfl
set_option maxHeartbeats 40000000 in
set_option maxRecDepth 100000 in
theorem Esea_fitsDrops_1 (n : Nat) (x1658 : Int32) (x1659 : Int32) (w : WX) (r : Int32) (w' : WX) (h : Fsea_fitsDrops_1 n x1658 x1659 w = some (r, w')) (T : ai_H) : ai_ev D1 msea_fitsDrops 0 [some (.ref 1), some (.int x1658), some (.int x1659), none, none] [] (HX w T) 0 0 (some (.int r), HX w' T) := by
  unfold Fsea_fitsDrops_1 at h
  have ih0 := EGsea_fitsDrops_1 n
  refine ev_go 2 (pc' := 2) (L' := [some (.ref 1), some (.int x1658), some (.int x1659), some (.int 0), none]) (st' := []) (h' := (HX w T)) (cs' := 0) (sl' := 0) rfl ?_
  exact ih0 _ _ _ _ _ _ h T _
set_option maxHeartbeats 40000000 in
set_option maxRecDepth 100000 in
theorem EGf_nextToTry_0 : ∀ n : Nat, (∀ (y1646 : Int32) (y1647 : Int32) (y1648 : Int32) (y1649 : Int32) (y1650 : Int32) (w : WX) (r : Int32) (w' : WX), Gf_nextToTry_0 n 0 y1646 y1647 y1648 y1649 y1650 0 0 w = some (r, w') → ∀ (T : ai_H) (o6 o7 : Option Value), ai_ev D1 mf_nextToTry 10 [some (.ref 0), some (.int y1646), some (.int y1647), some (.int y1648), some (.int y1649), some (.int y1650), o6, o7] [] (HX w T) 0 0 (some (.int r), HX w' T)) ∧ (∀ (y1651 : Int32) (y1652 : Int32) (y1653 : Int32) (y1654 : Int32) (y1655 : Int32) (y1656 : Int32) (y1657 : Int32) (w : WX) (r : Int32) (w' : WX), Gf_nextToTry_0 n 1 y1651 y1652 y1653 y1654 y1655 y1656 y1657 w = some (r, w') → ∀ (T : ai_H), ai_ev D1 mf_nextToTry 22 [some (.ref 0), some (.int y1651), some (.int y1652), some (.int y1653), some (.int y1654), some (.int y1655), some (.int y1656), some (.int y1657)] [] (HX w T) 0 0 (some (.int r), HX w' T)) := by
  intro n
  induction n with
  | zero =>
    exact ⟨(fun _ _ _ _ _ _ _ _ h => by cases h), (fun _ _ _ _ _ _ _ _ _ _ h => by cases h)⟩
  | succ n ih =>
    obtain ⟨ih0, ih1⟩ := ih
    refine ⟨?_, ?_⟩
    · intro y1646 y1647 y1648 y1649 y1650 w r w' h T o6 o7
      simp only [Gf_nextToTry_0] at h
      refine ev_go 2 (pc' := 13) (L' := [some (.ref 0), some (.int y1646), some (.int y1647), some (.int y1648), some (.int y1649), some (.int y1650), o6, o7]) (st' := [.int 4, .int y1650]) (h' := (HX w T)) (cs' := 0) (sl' := 0) rfl ?_
      rcases ai_ifE h with ⟨hc, h⟩ | ⟨hc, h⟩
      · refine ev_ic_ge (t := 99) rfl rfl (fun _ => ?_) (fun c9 => absurd hc c9)
        refine ev_go 1 (pc' := 100) (L' := [some (.ref 0), some (.int y1646), some (.int y1647), some (.int y1648), some (.int y1649), some (.int y1650), o6, o7]) (st' := [.int y1648]) (h' := (HX w T)) (cs' := 0) (sl' := 0) rfl ?_
        obtain ⟨rfl, rfl⟩ := ai_smP h
        exact ev_end rfl
      · refine ev_ic_ge (t := 99) rfl rfl (fun c9 => absurd c9 hc) (fun _ => ?_)
        refine ev_go 4 (pc' := 22) (L' := [some (.ref 0), some (.int y1646), some (.int y1647), some (.int y1648), some (.int y1649), some (.int y1650), some (.int 0), some (.int 1)]) (st' := []) (h' := (HX w T)) (cs' := 0) (sl' := 0) rfl ?_
        exact ih1 _ _ _ _ _ _ _ _ _ _ h T
    · intro y1651 y1652 y1653 y1654 y1655 y1656 y1657 w r w' h T
      simp only [Gf_nextToTry_0] at h
      refine ev_go 2 (pc' := 26) (L' := [some (.ref 0), some (.int y1651), some (.int y1652), some (.int y1653), some (.int y1654), some (.int y1655), some (.int y1656), some (.int y1657)]) (st' := [.int 99, .int y1657]) (h' := (HX w T)) (cs' := 0) (sl' := 0) rfl ?_
      rcases ai_ifE h with ⟨hc, h⟩ | ⟨hc, h⟩
      · refine ev_ic_gt (t := 68) rfl rfl (fun _ => ?_) (fun c9 => absurd hc c9)
        refine ev_go 8 (pc' := 83) (L' := [some (.ref 0), some (.int y1651), some (.int y1652), some (.int y1653), some (.int y1654), some (.int y1655), some (.int y1656), some (.int (if y1656 < (y1652 - y1656) then (y1652 - y1656) else y1656))]) (st' := [.int y1654, .int (if y1656 < (y1652 - y1656) then (y1652 - y1656) else y1656)]) (h' := (HX w T)) (cs' := 0) (sl' := 0) rfl ?_
        rcases ai_ifE h with ⟨hc, h⟩ | ⟨hc, h⟩
        · refine ev_ic_ge (t := 93) rfl rfl (fun _ => ?_) (fun c9 => absurd hc c9)
          refine ev_go 2 (pc' := 10) (L' := [some (.ref 0), some (.int y1651), some (.int y1652), some (.int y1653), some (.int y1654), some (.int (y1655 + 1)), some (.int y1656), some (.int (if y1656 < (y1652 - y1656) then (y1652 - y1656) else y1656))]) (st' := []) (h' := (HX w T)) (cs' := 0) (sl' := 0) rfl ?_
          exact ih0 _ _ _ _ _ _ _ _ h T _ _
        · refine ev_ic_ge (t := 93) rfl rfl (fun c9 => absurd c9 hc) (fun _ => ?_)
          refine ev_go 6 (pc' := 10) (L' := [some (.ref 0), some (.int y1651), some (.int y1652), some (.int y1655), some (.int (if y1656 < (y1652 - y1656) then (y1652 - y1656) else y1656)), some (.int (y1655 + 1)), some (.int y1656), some (.int (if y1656 < (y1652 - y1656) then (y1652 - y1656) else y1656))]) (st' := []) (h' := (HX w T)) (cs' := 0) (sl' := 0) rfl ?_
          exact ih0 _ _ _ _ _ _ _ _ h T _ _
      · refine ev_ic_gt (t := 68) rfl rfl (fun c9 => absurd c9 hc) (fun _ => ?_)
        refine ev_go 4 (pc' := 36) (L' := [some (.ref 0), some (.int y1651), some (.int y1652), some (.int y1653), some (.int y1654), some (.int y1655), some (.int y1656), some (.int y1657)]) (st' := [.int y1657, .int y1651, .ref 1]) (h' := (HX w T)) (cs' := 0) (sl' := 0) rfl ?_
        obtain ⟨c1667, hq, h⟩ := ai_bdE h
        refine ev_call (M' := msea_fitsDrops) (L' := [some (.ref 1), some (.int y1651), some (.int y1657), none, none]) (rest := []) (rv := some (.int c1667.1)) (h' := (HX c1667.2 T)) rfl (Esea_fitsDrops_1 n y1651 y1657 w _ _ hq T) ?_
        show ai_ev D1 mf_nextToTry 39 [some (.ref 0), some (.int y1651), some (.int y1652), some (.int y1653), some (.int y1654), some (.int y1655), some (.int y1656), some (.int y1657)] [.int c1667.1] (HX c1667.2 T) 0 0 _
        rcases ai_ifE h with ⟨hc, h⟩ | ⟨hc, h⟩
        · refine ev_if_eq (t := 62) rfl rfl (fun _ => ?_) (fun c9 => absurd hc c9)
          refine ev_go 2 (pc' := 22) (L' := [some (.ref 0), some (.int y1651), some (.int y1652), some (.int y1653), some (.int y1654), some (.int y1655), some (.int y1656), some (.int (y1657 + 1))]) (st' := []) (h' := (HX c1667.2 T)) (cs' := 0) (sl' := 0) rfl ?_
          exact ih1 _ _ _ _ _ _ _ _ _ _ h T
        · refine ev_if_eq (t := 62) rfl rfl (fun c9 => absurd c9 hc) (fun _ => ?_)
          refine ev_go 6 (pc' := 54) (L' := [some (.ref 0), some (.int y1651), some (.int y1652), some (.int y1653), some (.int y1654), some (.int y1655), some (.int y1656), some (.int y1657)]) (st' := [.int y1655, .ref 2, .int y1651, .int y1657]) (h' := (HX c1667.2 T)) (cs' := 0) (sl' := 0) rfl ?_
          obtain ⟨v1668, hq, h⟩ := ai_bdE h
          refine ev_iald rfl rfl hq ?_
          refine ev_go 1 (pc' := 56) (L' := [some (.ref 0), some (.int y1651), some (.int y1652), some (.int y1653), some (.int y1654), some (.int y1655), some (.int y1656), some (.int y1657)]) (st' := [.int (y1651 * v1668), .int y1657]) (h' := (HX c1667.2 T)) (cs' := 0) (sl' := 0) rfl ?_
          rcases ai_ifE h with ⟨hc, h⟩ | ⟨hc, h⟩
          · refine ev_ic_gt (t := 62) rfl rfl (fun _ => ?_) (fun c9 => absurd hc c9)
            refine ev_go 2 (pc' := 22) (L' := [some (.ref 0), some (.int y1651), some (.int y1652), some (.int y1653), some (.int y1654), some (.int y1655), some (.int y1656), some (.int (y1657 + 1))]) (st' := []) (h' := (HX c1667.2 T)) (cs' := 0) (sl' := 0) rfl ?_
            exact ih1 _ _ _ _ _ _ _ _ _ _ h T
          · refine ev_ic_gt (t := 62) rfl rfl (fun c9 => absurd c9 hc) (fun _ => ?_)
            refine ev_go 3 (pc' := 22) (L' := [some (.ref 0), some (.int y1651), some (.int y1652), some (.int y1653), some (.int y1654), some (.int y1655), some (.int (y1656 + 1)), some (.int (y1657 + 1))]) (st' := []) (h' := (HX c1667.2 T)) (cs' := 0) (sl' := 0) rfl ?_
            exact ih1 _ _ _ _ _ _ _ _ _ _ h T
set_option maxHeartbeats 40000000 in
set_option maxRecDepth 100000 in
theorem Ef_nextToTry_0 (n : Nat) (x1644 : Int32) (x1645 : Int32) (w : WX) (r : Int32) (w' : WX) (h : Ff_nextToTry_0 n x1644 x1645 w = some (r, w')) (T : ai_H) : ai_ev D1 mf_nextToTry 0 [some (.ref 0), some (.int x1644), some (.int x1645), none, none, none, none, none] [] (HX w T) 0 0 (some (.int r), HX w' T) := by
  unfold Ff_nextToTry_0 at h
  obtain ⟨ih0, ih1⟩ := EGf_nextToTry_0 n
  refine ev_go 8 (pc' := 10) (L' := [some (.ref 0), some (.int x1644), some (.int x1645), some (.int (-1)), some (.int (x1645 + 1)), some (.int 0), none, none]) (st' := []) (h' := (HX w T)) (cs' := 0) (sl' := 0) rfl ?_
  exact ih0 _ _ _ _ _ _ _ _ h T _ _
set_option maxHeartbeats 40000000 in
set_option maxRecDepth 100000 in
theorem EGf_known_0 : ∀ n : Nat, (∀ (y1640 : Int32) (y1641 : Int32) (y1642 : Int32) (y1643 : Int32) (w : WX) (r : Int32) (w' : WX), Gf_known_0 n 0 y1640 y1641 y1642 y1643 w = some (r, w') → ∀ (T : ai_H), ai_ev D1 mf_known 31 [some (.ref 0), some (.int y1640), some (.int y1641), some (.int y1642), some (.int y1643)] [] (HX w T) 0 0 (some (.int r), HX w' T)) := by
  intro n
  induction n with
  | zero =>
    exact (fun _ _ _ _ _ _ _ h => by cases h)
  | succ n ih0 =>
    intro y1640 y1641 y1642 y1643 w r w' h T
    simp only [Gf_known_0] at h
    refine ev_go 2 (pc' := 35) (L' := [some (.ref 0), some (.int y1640), some (.int y1641), some (.int y1642), some (.int y1643)]) (st' := [.int 99, .int y1643]) (h' := (HX w T)) (cs' := 0) (sl' := 0) rfl ?_
    rcases ai_ifE h with ⟨hc, h⟩ | ⟨hc, h⟩
    · refine ev_ic_gt (t := 60) rfl rfl (fun _ => ?_) (fun c9 => absurd hc c9)
      refine ev_go 1 (pc' := 61) (L' := [some (.ref 0), some (.int y1640), some (.int y1641), some (.int y1642), some (.int y1643)]) (st' := [.int y1641]) (h' := (HX w T)) (cs' := 0) (sl' := 0) rfl ?_
      rcases ai_ifE h with ⟨hc, h⟩ | ⟨hc, h⟩
      · refine ev_if_ne (t := 66) rfl rfl (fun c9 => absurd hc c9) (fun _ => ?_)
        refine ev_go 1 (pc' := 65) (L' := [some (.ref 0), some (.int y1640), some (.int y1641), some (.int y1642), some (.int y1643)]) (st' := [.int y1642]) (h' := (HX w T)) (cs' := 0) (sl' := 0) rfl ?_
        obtain ⟨rfl, rfl⟩ := ai_smP h
        exact ev_end rfl
      · refine ev_if_ne (t := 66) rfl rfl (fun _ => ?_) (fun c9 => absurd c9 hc)
        refine ev_go 1 (pc' := 67) (L' := [some (.ref 0), some (.int y1640), some (.int y1641), some (.int y1642), some (.int y1643)]) (st' := [.int y1642]) (h' := (HX w T)) (cs' := 0) (sl' := 0) rfl ?_
        rcases ai_ifE h with ⟨hc, h⟩ | ⟨hc, h⟩
        · refine ev_if_ne (t := 74) rfl rfl (fun c9 => absurd hc c9) (fun _ => ?_)
          refine ev_go 2 (pc' := 80) (L' := [some (.ref 0), some (.int y1640), some (.int y1641), some (.int y1642), some (.int y1643)]) (st' := [.int (-1)]) (h' := (HX w T)) (cs' := 0) (sl' := 0) rfl ?_
          obtain ⟨rfl, rfl⟩ := ai_smP h
          exact ev_end rfl
        · refine ev_if_ne (t := 74) rfl rfl (fun _ => ?_) (fun c9 => absurd c9 hc)
          refine ev_go 3 (pc' := 77) (L' := [some (.ref 0), some (.int y1640), some (.int y1641), some (.int y1642), some (.int y1643)]) (st' := [.int y1642, .int y1640, .ref 0]) (h' := (HX w T)) (cs' := 0) (sl' := 0) rfl ?_
          obtain ⟨c1669, hq, h⟩ := ai_bdE h
          refine ev_call (M' := mf_nextToTry) (L' := [some (.ref 0), some (.int y1640), some (.int y1642), none, none, none, none, none]) (rest := []) (rv := some (.int c1669.1)) (h' := (HX c1669.2 T)) rfl (Ef_nextToTry_0 n y1640 y1642 w _ _ hq T) ?_
          show ai_ev D1 mf_known 80 [some (.ref 0), some (.int y1640), some (.int y1641), some (.int y1642), some (.int y1643)] [.int c1669.1] (HX c1669.2 T) 0 0 _
          obtain ⟨rfl, rfl⟩ := ai_smP h
          exact ev_end rfl
    · refine ev_ic_gt (t := 60) rfl rfl (fun c9 => absurd c9 hc) (fun _ => ?_)
      refine ev_go 4 (pc' := 45) (L' := [some (.ref 0), some (.int y1640), some (.int y1641), some (.int y1642), some (.int y1643)]) (st' := [.int y1643, .int y1640, .ref 1]) (h' := (HX w T)) (cs' := 0) (sl' := 0) rfl ?_
      obtain ⟨c1670, hq, h⟩ := ai_bdE h
      refine ev_call (M' := msea_fitsDrops) (L' := [some (.ref 1), some (.int y1640), some (.int y1643), none, none]) (rest := []) (rv := some (.int c1670.1)) (h' := (HX c1670.2 T)) rfl (Esea_fitsDrops_1 n y1640 y1643 w _ _ hq T) ?_
      show ai_ev D1 mf_known 48 [some (.ref 0), some (.int y1640), some (.int y1641), some (.int y1642), some (.int y1643)] [.int c1670.1] (HX c1670.2 T) 0 0 _
      rcases ai_ifE h with ⟨hc, h⟩ | ⟨hc, h⟩
      · refine ev_if_eq (t := 54) rfl rfl (fun _ => ?_) (fun c9 => absurd hc c9)
        refine ev_go 2 (pc' := 31) (L' := [some (.ref 0), some (.int y1640), some (.int y1641), some (.int y1642), some (.int (y1643 + 1))]) (st' := []) (h' := (HX c1670.2 T)) (cs' := 0) (sl' := 0) rfl ?_
        exact ih0 _ _ _ _ _ _ _ h T
      · refine ev_if_eq (t := 54) rfl rfl (fun c9 => absurd c9 hc) (fun _ => ?_)
        refine ev_go 3 (pc' := 31) (L' := [some (.ref 0), some (.int y1640), some (.int y1641), some (.int (y1642 + 1)), some (.int (y1643 + 1))]) (st' := []) (h' := (HX c1670.2 T)) (cs' := 0) (sl' := 0) rfl ?_
        exact ih0 _ _ _ _ _ _ _ h T
set_option maxHeartbeats 40000000 in
set_option maxRecDepth 100000 in
theorem Ef_known_0 (n : Nat) (x1634 : Int32) (x1635 : Int32) (w : WX) (r : Int32) (w' : WX) (h : Ff_known_0 n x1634 x1635 w = some (r, w')) (T : ai_H) : ai_ev D1 mf_known 0 [some (.ref 0), some (.int x1634), some (.int x1635), none, none] [] (HX w T) 0 0 (some (.int r), HX w' T) := by
  unfold Ff_known_0 at h
  have ih0 := EGf_known_0 n
  refine ev_go 3 (pc' := 4) (L' := [some (.ref 0), some (.int x1634), some (.int x1635), none, none]) (st' := [.int 9, .int 1, .int x1634]) (h' := (HX w T)) (cs' := 0) (sl' := 0) rfl ?_
  obtain ⟨c1636, hq, h⟩ := ai_bdE h
  refine ev_call (M' := mf_within) (L' := [some (.int x1634), some (.int 1), some (.int 9)]) (rest := []) (rv := some (.int c1636)) (h' := (HX w T)) rfl (Ef_within x1634 1 9 _ hq (HX w T)) ?_
  show ai_ev D1 mf_known 7 [some (.ref 0), some (.int x1634), some (.int x1635), none, none] [.int c1636] (HX w T) 0 0 _
  rcases ai_ifE h with ⟨hc, h⟩ | ⟨hc, h⟩
  · refine ev_if_eq (t := 19) rfl rfl (fun _ => ?_) (fun c9 => absurd hc c9)
    refine ev_go 2 (pc' := 22) (L' := [some (.ref 0), some (.int x1634), some (.int x1635), none, none]) (st' := [.int (-10), .ref 0]) (h' := (HX w T)) (cs' := 0) (sl' := 0) rfl ?_
    obtain ⟨c1637, hq, h⟩ := ai_bdE h
    refine ev_call (M' := mf_bad) (L' := [some (.ref 0), some (.int (-10))]) (rest := []) (rv := some (.int c1637.1)) (h' := (HX c1637.2 T)) rfl (Ef_bad_0 (-10) w _ _ hq T) ?_
    show ai_ev D1 mf_known 25 [some (.ref 0), some (.int x1634), some (.int x1635), none, none] [.int c1637.1] (HX c1637.2 T) 0 0 _
    obtain ⟨rfl, rfl⟩ := ai_smP h
    exact ev_end rfl
  · refine ev_if_eq (t := 19) rfl rfl (fun c9 => absurd c9 hc) (fun _ => ?_)
    refine ev_go 3 (pc' := 13) (L' := [some (.ref 0), some (.int x1634), some (.int x1635), none, none]) (st' := [.int 1, .int 0, .int x1635]) (h' := (HX w T)) (cs' := 0) (sl' := 0) rfl ?_
    obtain ⟨c1638, hq, h⟩ := ai_bdE h
    refine ev_call (M' := mf_within) (L' := [some (.int x1635), some (.int 0), some (.int 1)]) (rest := []) (rv := some (.int c1638)) (h' := (HX w T)) rfl (Ef_within x1635 0 1 _ hq (HX w T)) ?_
    show ai_ev D1 mf_known 16 [some (.ref 0), some (.int x1634), some (.int x1635), none, none] [.int c1638] (HX w T) 0 0 _
    rcases ai_ifE h with ⟨hc, h⟩ | ⟨hc, h⟩
    · refine ev_if_ne (t := 26) rfl rfl (fun c9 => absurd hc c9) (fun _ => ?_)
      refine ev_go 2 (pc' := 22) (L' := [some (.ref 0), some (.int x1634), some (.int x1635), none, none]) (st' := [.int (-10), .ref 0]) (h' := (HX w T)) (cs' := 0) (sl' := 0) rfl ?_
      obtain ⟨c1639, hq, h⟩ := ai_bdE h
      refine ev_call (M' := mf_bad) (L' := [some (.ref 0), some (.int (-10))]) (rest := []) (rv := some (.int c1639.1)) (h' := (HX c1639.2 T)) rfl (Ef_bad_0 (-10) w _ _ hq T) ?_
      show ai_ev D1 mf_known 25 [some (.ref 0), some (.int x1634), some (.int x1635), none, none] [.int c1639.1] (HX c1639.2 T) 0 0 _
      obtain ⟨rfl, rfl⟩ := ai_smP h
      exact ev_end rfl
    · refine ev_if_ne (t := 26) rfl rfl (fun _ => ?_) (fun c9 => absurd c9 hc)
      refine ev_go 4 (pc' := 31) (L' := [some (.ref 0), some (.int x1634), some (.int x1635), some (.int 0), some (.int 1)]) (st' := []) (h' := (HX w T)) (cs' := 0) (sl' := 0) rfl ?_
      exact ih0 _ _ _ _ _ _ _ h T
set_option maxHeartbeats 40000000 in
set_option maxRecDepth 100000 in
theorem EGf_putFraction_0 : ∀ n : Nat, (∀ (y1702 : Int64) (y1703 : Int64) (y1704 : Int64) (y1705 : Int64) (y1706 : Int32) (w : WX) (w' : WX), Gf_putFraction_0 n 0 y1706 y1702 y1703 y1704 y1705 w = some w' → ∀ (T : ai_H) (o10 o11 : Option Value), ai_ev D1 mf_putFraction 9 [some (.ref 0), some (.long y1702), none, some (.long y1703), none, some (.long y1704), none, some (.long y1705), none, some (.int y1706), o10, o11] [] (HX w T) 0 0 (none, HX w' T)) := by
  intro n
  induction n with
  | zero =>
    exact (fun _ _ _ _ _ _ _ h => by cases h)
  | succ n ih0 =>
    intro y1702 y1703 y1704 y1705 y1706 w w' h T o10 o11
    simp only [Gf_putFraction_0] at h
    refine ev_go 2 (pc' := 14) (L' := [some (.ref 0), some (.long y1702), none, some (.long y1703), none, some (.long y1704), none, some (.long y1705), none, some (.int y1706), o10, o11]) (st' := [.int 1000, .int y1706]) (h' := (HX w T)) (cs' := 0) (sl' := 0) rfl ?_
    rcases ai_ifE h with ⟨hc, h⟩ | ⟨hc, h⟩
    · refine ev_ic_ge (t := 45) rfl rfl (fun _ => ?_) (fun c9 => absurd hc c9)
      refine ev_go 3 (pc' := 49) (L' := [some (.ref 0), some (.long y1702), none, some (.long y1703), none, some (.long y1704), none, some (.long y1705), none, some (.int y1706), o10, o11]) (st' := [.int (lg_cmp y1704 0)]) (h' := (HX w T)) (cs' := 0) (sl' := 0) rfl ?_
      rcases ai_ifE h with ⟨hc, h⟩ | ⟨hc, h⟩
      · refine ev_if_ne (t := 56) rfl rfl (fun c9 => absurd hc c9) (fun _ => ?_)
        refine ev_go 13 (pc' := 76) (L' := [some (.ref 0), some (.long y1702), none, some (.long y1703), none, some (.long y1704), none, some (.long y1705), none, some (.long 1), none, o11]) (st' := []) (h' := (HX (u_f_below (u_f_above w (y1702 / 1)) (y1703 / 1)) T)) (cs' := 0) (sl' := 0) rfl ?_
        obtain rfl := Option.some.inj h
        exact ev_end rfl
      · refine ev_if_ne (t := 56) rfl rfl (fun _ => ?_) (fun c9 => absurd c9 hc)
        refine ev_go 5 (pc' := 64) (L' := [some (.ref 0), some (.long y1702), none, some (.long y1703), none, some (.long y1704), none, some (.long y1705), none, some (.long y1704), none, o11]) (st' := [.long y1704, .long y1702, .ref 0]) (h' := (HX w T)) (cs' := 0) (sl' := 0) rfl ?_
        obtain ⟨hc, h⟩ := ai_ifN h
        refine ev_ldiv rfl hc ?_
        refine ev_go 4 (pc' := 72) (L' := [some (.ref 0), some (.long y1702), none, some (.long y1703), none, some (.long y1704), none, some (.long y1705), none, some (.long y1704), none, o11]) (st' := [.long y1704, .long y1703, .ref 0]) (h' := (HX (u_f_above w (y1702 / y1704)) T)) (cs' := 0) (sl' := 0) rfl ?_
        obtain ⟨hc, h⟩ := ai_ifN h
        refine ev_ldiv rfl hc ?_
        refine ev_go 1 (pc' := 76) (L' := [some (.ref 0), some (.long y1702), none, some (.long y1703), none, some (.long y1704), none, some (.long y1705), none, some (.long y1704), none, o11]) (st' := []) (h' := (HX (u_f_below (u_f_above w (y1702 / y1704)) (y1703 / y1704)) T)) (cs' := 0) (sl' := 0) rfl ?_
        obtain rfl := Option.some.inj h
        exact ev_end rfl
    · refine ev_ic_ge (t := 45) rfl rfl (fun c9 => absurd c9 hc) (fun _ => ?_)
      refine ev_go 3 (pc' := 21) (L' := [some (.ref 0), some (.long y1702), none, some (.long y1703), none, some (.long y1704), none, some (.long y1705), none, some (.int y1706), o10, o11]) (st' := [.int (lg_cmp y1705 0)]) (h' := (HX w T)) (cs' := 0) (sl' := 0) rfl ?_
      rcases ai_ifE h with ⟨hc, h⟩ | ⟨hc, h⟩
      · refine ev_if_eq (t := 45) rfl rfl (fun _ => ?_) (fun c9 => absurd hc c9)
        refine ev_go 3 (pc' := 49) (L' := [some (.ref 0), some (.long y1702), none, some (.long y1703), none, some (.long y1704), none, some (.long y1705), none, some (.int y1706), o10, o11]) (st' := [.int (lg_cmp y1704 0)]) (h' := (HX w T)) (cs' := 0) (sl' := 0) rfl ?_
        rcases ai_ifE h with ⟨hc, h⟩ | ⟨hc, h⟩
        · refine ev_if_ne (t := 56) rfl rfl (fun c9 => absurd hc c9) (fun _ => ?_)
          refine ev_go 13 (pc' := 76) (L' := [some (.ref 0), some (.long y1702), none, some (.long y1703), none, some (.long y1704), none, some (.long y1705), none, some (.long 1), none, o11]) (st' := []) (h' := (HX (u_f_below (u_f_above w (y1702 / 1)) (y1703 / 1)) T)) (cs' := 0) (sl' := 0) rfl ?_
          obtain rfl := Option.some.inj h
          exact ev_end rfl
        · refine ev_if_ne (t := 56) rfl rfl (fun _ => ?_) (fun c9 => absurd c9 hc)
          refine ev_go 5 (pc' := 64) (L' := [some (.ref 0), some (.long y1702), none, some (.long y1703), none, some (.long y1704), none, some (.long y1705), none, some (.long y1704), none, o11]) (st' := [.long y1704, .long y1702, .ref 0]) (h' := (HX w T)) (cs' := 0) (sl' := 0) rfl ?_
          obtain ⟨hc, h⟩ := ai_ifN h
          refine ev_ldiv rfl hc ?_
          refine ev_go 4 (pc' := 72) (L' := [some (.ref 0), some (.long y1702), none, some (.long y1703), none, some (.long y1704), none, some (.long y1705), none, some (.long y1704), none, o11]) (st' := [.long y1704, .long y1703, .ref 0]) (h' := (HX (u_f_above w (y1702 / y1704)) T)) (cs' := 0) (sl' := 0) rfl ?_
          obtain ⟨hc, h⟩ := ai_ifN h
          refine ev_ldiv rfl hc ?_
          refine ev_go 1 (pc' := 76) (L' := [some (.ref 0), some (.long y1702), none, some (.long y1703), none, some (.long y1704), none, some (.long y1705), none, some (.long y1704), none, o11]) (st' := []) (h' := (HX (u_f_below (u_f_above w (y1702 / y1704)) (y1703 / y1704)) T)) (cs' := 0) (sl' := 0) rfl ?_
          obtain rfl := Option.some.inj h
          exact ev_end rfl
      · refine ev_if_eq (t := 45) rfl rfl (fun c9 => absurd c9 hc) (fun _ => ?_)
        refine ev_go 2 (pc' := 28) (L' := [some (.ref 0), some (.long y1702), none, some (.long y1703), none, some (.long y1704), none, some (.long y1705), none, some (.int y1706), o10, o11]) (st' := [.long y1705, .long y1704]) (h' := (HX w T)) (cs' := 0) (sl' := 0) rfl ?_
        obtain ⟨hc, h⟩ := ai_ifN h
        refine ev_lrem rfl hc ?_
        refine ev_go 7 (pc' := 9) (L' := [some (.ref 0), some (.long y1702), none, some (.long y1703), none, some (.long y1705), none, some (.long (y1704 - y1704 / y1705 * y1705)), none, some (.int (y1706 + 1)), some (.long (y1704 - y1704 / y1705 * y1705)), none]) (st' := []) (h' := (HX w T)) (cs' := 0) (sl' := 0) rfl ?_
        exact ih0 _ _ _ _ _ _ _ h T _ _ _ _ _ _
set_option maxHeartbeats 40000000 in
set_option maxRecDepth 100000 in
theorem Ef_putFraction_0 (n : Nat) (x1700 : Int64) (x1701 : Int64) (w : WX) (w' : WX) (h : Ff_putFraction_0 n x1700 x1701 w = some w') (T : ai_H) : ai_ev D1 mf_putFraction 0 [some (.ref 0), some (.long x1700), none, some (.long x1701), none, none, none, none, none, none, none, none] [] (HX w T) 0 0 (none, HX w' T) := by
  unfold Ff_putFraction_0 at h
  have ih0 := EGf_putFraction_0 n
  refine ev_go 6 (pc' := 9) (L' := [some (.ref 0), some (.long x1700), none, some (.long x1701), none, some (.long x1701), none, some (.long x1700), none, some (.int 0), none, none]) (st' := []) (h' := (HX w T)) (cs' := 0) (sl' := 0) rfl ?_
  exact ih0 _ _ _ _ _ _ _ h T _ _ _ _ _ _
set_option maxHeartbeats 40000000 in
set_option maxRecDepth 100000 in
theorem EGf_chanceOf : ∀ n : Nat, (∀ (y1712 : Int32) (y1713 : Int64) (y1714 : Int64) (y1715 : Int64) (y1716 : Int32) (r : Int64), Gf_chanceOf n 0 y1712 y1716 y1713 y1714 y1715 = some r → ∀ (hh : ai_H), ai_ev D1 mf_chanceOf 6 [some (.int y1712), some (.long y1713), none, some (.long y1714), none, some (.long y1715), none, some (.int y1716)] [] hh 0 0 (some (.long r), hh)) := by
  intro n
  induction n with
  | zero =>
    exact (fun _ _ _ _ _ _ h => by cases h)
  | succ n ih0 =>
    intro y1712 y1713 y1714 y1715 y1716 r h hh
    simp only [Gf_chanceOf] at h
    refine ev_go 2 (pc' := 9) (L' := [some (.int y1712), some (.long y1713), none, some (.long y1714), none, some (.long y1715), none, some (.int y1716)]) (st' := [.int 3, .int y1716]) (h' := hh) (cs' := 0) (sl' := 0) rfl ?_
    rcases ai_ifE h with ⟨hc, h⟩ | ⟨hc, h⟩
    · refine ev_ic_ge (t := 40) rfl rfl (fun _ => ?_) (fun c9 => absurd hc c9)
      refine ev_go 1 (pc' := 42) (L' := [some (.int y1712), some (.long y1713), none, some (.long y1714), none, some (.long y1715), none, some (.int y1716)]) (st' := [.long y1715]) (h' := hh) (cs' := 0) (sl' := 0) rfl ?_
      obtain rfl := Option.some.inj h
      exact ev_end rfl
    · refine ev_ic_ge (t := 40) rfl rfl (fun c9 => absurd c9 hc) (fun _ => ?_)
      refine ev_go 7 (pc' := 21) (L' := [some (.int y1712), some (.long y1713), none, some (.long y1714), none, some (.long y1715), none, some (.int y1716)]) (st' := [.int 1, .int ((y1712 >>> (y1716 &&& 31)) &&& 1), .long y1715]) (h' := hh) (cs' := 0) (sl' := 0) rfl ?_
      rcases ai_ifE h with ⟨hc, h⟩ | ⟨hc, h⟩
      · refine ev_ic_ne (t := 30) rfl rfl (fun c9 => absurd hc c9) (fun _ => ?_)
        refine ev_go 8 (pc' := 6) (L' := [some (.int y1712), some (.long y1713), none, some (.long y1714), none, some (.long (y1715 * (y1713 - y1714))), none, some (.int (y1716 + 1))]) (st' := []) (h' := hh) (cs' := 0) (sl' := 0) rfl ?_
        exact ih0 _ _ _ _ _ _ h hh _ _ _
      · refine ev_ic_ne (t := 30) rfl rfl (fun _ => ?_) (fun c9 => absurd c9 hc)
        refine ev_go 5 (pc' := 6) (L' := [some (.int y1712), some (.long y1713), none, some (.long y1714), none, some (.long (y1715 * y1714)), none, some (.int (y1716 + 1))]) (st' := []) (h' := hh) (cs' := 0) (sl' := 0) rfl ?_
        exact ih0 _ _ _ _ _ _ h hh _ _ _
set_option maxHeartbeats 40000000 in
set_option maxRecDepth 100000 in
theorem Ef_chanceOf (n : Nat) (x1709 : Int32) (x1710 : Int64) (x1711 : Int64) (r : Int64) (h : Ff_chanceOf n x1709 x1710 x1711 = some r) (hh : ai_H) : ai_ev D1 mf_chanceOf 0 [some (.int x1709), some (.long x1710), none, some (.long x1711), none, none, none, none] [] hh 0 0 (some (.long r), hh) := by
  unfold Ff_chanceOf at h
  have ih0 := EGf_chanceOf n
  refine ev_go 4 (pc' := 6) (L' := [some (.int x1709), some (.long x1710), none, some (.long x1711), none, some (.long 1), none, some (.int 0)]) (st' := []) (h' := hh) (cs' := 0) (sl' := 0) rfl ?_
  exact ih0 _ _ _ _ _ _ h hh _ _ _
set_option maxHeartbeats 40000000 in
set_option maxRecDepth 100000 in
theorem EGf_storm_0 : ∀ n : Nat, (∀ (y1683 : Int32) (y1684 : Int32) (y1685 : Int32) (y1686 : Int32) (y1687 : Int64) (y1688 : Int64) (y1689 : Int32) (w : WX) (r : Int32) (w' : WX), Gf_storm_0 n 0 y1683 y1684 y1685 y1686 y1689 0 y1687 y1688 0 w = some (r, w') → ∀ (T : ai_H) (o10 o11 o12 : Option Value), ai_ev D1 mf_storm 61 [some (.ref 0), some (.int y1683), some (.int y1684), some (.int y1685), some (.int y1686), some (.long y1687), none, some (.long y1688), none, some (.int y1689), o10, o11, o12] [] (HX w T) 0 0 (some (.int r), HX w' T)) ∧ (∀ (y1691 : Int32) (y1692 : Int32) (y1693 : Int32) (y1694 : Int32) (y1695 : Int64) (y1696 : Int64) (y1697 : Int32) (y1698 : Int64) (y1699 : Int32) (w : WX) (r : Int32) (w' : WX), Gf_storm_0 n 1 y1691 y1692 y1693 y1694 y1697 y1699 y1695 y1696 y1698 w = some (r, w') → ∀ (T : ai_H), ai_ev D1 mf_storm 114 [some (.ref 0), some (.int y1691), some (.int y1692), some (.int y1693), some (.int y1694), some (.long y1695), none, some (.long y1696), none, some (.int y1697), some (.long y1698), none, some (.int y1699)] [] (HX w T) 0 0 (some (.int r), HX w' T)) := by
  intro n
  induction n with
  | zero =>
    exact ⟨(fun _ _ _ _ _ _ _ _ _ _ h => by cases h), (fun _ _ _ _ _ _ _ _ _ _ _ _ h => by cases h)⟩
  | succ n ih =>
    obtain ⟨ih0, ih1⟩ := ih
    refine ⟨?_, ?_⟩
    · intro y1683 y1684 y1685 y1686 y1687 y1688 y1689 w r w' h T o10 o11 o12
      simp only [Gf_storm_0] at h
      refine ev_go 2 (pc' := 64) (L' := [some (.ref 0), some (.int y1683), some (.int y1684), some (.int y1685), some (.int y1686), some (.long y1687), none, some (.long y1688), none, some (.int y1689), o10, o11, o12]) (st' := [.int y1685, .int y1689]) (h' := (HX w T)) (cs' := 0) (sl' := 0) rfl ?_
      rcases ai_ifE h with ⟨hc, h⟩ | ⟨hc, h⟩
      · refine ev_ic_ge (t := 92) rfl rfl (fun _ => ?_) (fun c9 => absurd hc c9)
        refine ev_go 4 (pc' := 96) (L' := [some (.ref 0), some (.int y1683), some (.int y1684), some (.int y1685), some (.int y1686), some (.long y1687), none, some (.long y1688), none, some (.int y1689), o10, o11, o12]) (st' := [.int 0, .int y1684, .int y1683, .ref 0]) (h' := (HX w T)) (cs' := 0) (sl' := 0) rfl ?_
        obtain ⟨c1690, hq, h⟩ := ai_bdE h
        refine ev_call (M' := mf_letGoNow) (L' := [some (.ref 0), some (.int y1683), some (.int y1684), some (.int 0)]) (rest := []) (rv := none) (h' := (HX c1690 T)) rfl (Ef_letGoNow_0 n y1683 y1684 0 w _ hq T) ?_
        show ai_ev D1 mf_storm 99 [some (.ref 0), some (.int y1683), some (.int y1684), some (.int y1685), some (.int y1686), some (.long y1687), none, some (.long y1688), none, some (.int y1689), o10, o11, o12] [] (HX c1690 T) 0 0 _
        refine ev_go 8 (pc' := 114) (L' := [some (.ref 0), some (.int y1683), some (.int y1684), some (.int y1685), some (.int y1686), some (.long y1687), none, some (.long y1688), none, some (.int (a_fall_layer c1690)), some (.long 0), none, some (.int 0)]) (st' := []) (h' := (HX c1690 T)) (cs' := 0) (sl' := 0) rfl ?_
        exact ih1 _ _ _ _ _ _ _ _ _ _ _ _ h T _ _ _
      · refine ev_ic_ge (t := 92) rfl rfl (fun c9 => absurd c9 hc) (fun _ => ?_)
        refine ev_go 13 (pc' := 61) (L' := [some (.ref 0), some (.int y1683), some (.int y1684), some (.int y1685), some (.int y1686), some (.long (y1687 * 10)), none, some (.long (y1688 * ((10 - y1686)).toInt64)), none, some (.int (y1689 + 1)), o10, o11, o12]) (st' := []) (h' := (HX w T)) (cs' := 0) (sl' := 0) rfl ?_
        exact ih0 _ _ _ _ _ _ _ _ _ _ h T _ _ _ _ _
    · intro y1691 y1692 y1693 y1694 y1695 y1696 y1697 y1698 y1699 w r w' h T
      simp only [Gf_storm_0] at h
      refine ev_go 2 (pc' := 118) (L' := [some (.ref 0), some (.int y1691), some (.int y1692), some (.int y1693), some (.int y1694), some (.long y1695), none, some (.long y1696), none, some (.int y1697), some (.long y1698), none, some (.int y1699)]) (st' := [.int 8, .int y1699]) (h' := (HX w T)) (cs' := 0) (sl' := 0) rfl ?_
      rcases ai_ifE h with ⟨hc, h⟩ | ⟨hc, h⟩
      · refine ev_ic_ge (t := 161) rfl rfl (fun _ => ?_) (fun c9 => absurd hc c9)
        refine ev_go 7 (pc' := 172) (L' := [some (.ref 0), some (.int y1691), some (.int y1692), some (.int y1693), some (.int y1694), some (.long y1695), none, some (.long y1696), none, some (.int y1697), some (.long y1698), none, some (.int y1699)]) (st' := [.long ((y1695 * y1695) * y1695), .long y1698, .ref 0]) (h' := (HX w T)) (cs' := 0) (sl' := 0) rfl ?_
        obtain ⟨c1707, hq, h⟩ := ai_bdE h
        refine ev_call (M' := mf_putFraction) (L' := [some (.ref 0), some (.long y1698), none, some (.long ((y1695 * y1695) * y1695)), none, none, none, none, none, none, none, none]) (rest := []) (rv := none) (h' := (HX c1707 T)) rfl (Ef_putFraction_0 n y1698 ((y1695 * y1695) * y1695) w _ hq T) ?_
        show ai_ev D1 mf_storm 175 [some (.ref 0), some (.int y1691), some (.int y1692), some (.int y1693), some (.int y1694), some (.long y1695), none, some (.long y1696), none, some (.int y1697), some (.long y1698), none, some (.int y1699)] [] (HX c1707 T) 0 0 _
        refine ev_go 1 (pc' := 176) (L' := [some (.ref 0), some (.int y1691), some (.int y1692), some (.int y1693), some (.int y1694), some (.long y1695), none, some (.long y1696), none, some (.int y1697), some (.long y1698), none, some (.int y1699)]) (st' := [.int 1]) (h' := (HX c1707 T)) (cs' := 0) (sl' := 0) rfl ?_
        obtain ⟨rfl, rfl⟩ := ai_smP h
        exact ev_end rfl
      · refine ev_ic_ge (t := 161) rfl rfl (fun c9 => absurd c9 hc) (fun _ => ?_)
        refine ev_go 4 (pc' := 126) (L' := [some (.ref 0), some (.int y1691), some (.int y1692), some (.int y1693), some (.int y1694), some (.long y1695), none, some (.long y1696), none, some (.int y1697), some (.long y1698), none, some (.int y1699)]) (st' := [.int y1699, .int y1692, .int y1691, .ref 0]) (h' := (HX w T)) (cs' := 0) (sl' := 0) rfl ?_
        obtain ⟨c1708, hq, h⟩ := ai_bdE h
        refine ev_call (M' := mf_letGoNow) (L' := [some (.ref 0), some (.int y1691), some (.int y1692), some (.int y1699)]) (rest := []) (rv := none) (h' := (HX c1708 T)) rfl (Ef_letGoNow_0 n y1691 y1692 y1699 w _ hq T) ?_
        show ai_ev D1 mf_storm 129 [some (.ref 0), some (.int y1691), some (.int y1692), some (.int y1693), some (.int y1694), some (.long y1695), none, some (.long y1696), none, some (.int y1697), some (.long y1698), none, some (.int y1699)] [] (HX c1708 T) 0 0 _
        refine ev_go 4 (pc' := 138) (L' := [some (.ref 0), some (.int y1691), some (.int y1692), some (.int y1693), some (.int y1694), some (.long y1695), none, some (.long y1696), none, some (.int y1697), some (.long y1698), none, some (.int y1699)]) (st' := [.int y1697, .int (a_fall_layer c1708)]) (h' := (HX c1708 T)) (cs' := 0) (sl' := 0) rfl ?_
        rcases ai_ifE h with ⟨hc, h⟩ | ⟨hc, h⟩
        · refine ev_ic_le (t := 155) rfl rfl (fun _ => ?_) (fun c9 => absurd hc c9)
          refine ev_go 2 (pc' := 114) (L' := [some (.ref 0), some (.int y1691), some (.int y1692), some (.int y1693), some (.int y1694), some (.long y1695), none, some (.long y1696), none, some (.int y1697), some (.long y1698), none, some (.int (y1699 + 1))]) (st' := []) (h' := (HX c1708 T)) (cs' := 0) (sl' := 0) rfl ?_
          exact ih1 _ _ _ _ _ _ _ _ _ _ _ _ h T _ _ _
        · refine ev_ic_le (t := 155) rfl rfl (fun c9 => absurd c9 hc) (fun _ => ?_)
          refine ev_go 4 (pc' := 149) (L' := [some (.ref 0), some (.int y1691), some (.int y1692), some (.int y1693), some (.int y1694), some (.long y1695), none, some (.long y1696), none, some (.int y1697), some (.long y1698), none, some (.int y1699)]) (st' := [.long y1696, .long y1695, .int y1699, .long y1698]) (h' := (HX c1708 T)) (cs' := 0) (sl' := 0) rfl ?_
          obtain ⟨c1717, hq, h⟩ := ai_bdE h
          refine ev_call (M' := mf_chanceOf) (L' := [some (.int y1699), some (.long y1695), none, some (.long y1696), none, none, none, none]) (rest := [.long y1698]) (rv := some (.long c1717)) (h' := (HX c1708 T)) rfl (Ef_chanceOf n y1699 y1695 y1696 _ hq (HX c1708 T)) ?_
          show ai_ev D1 mf_storm 152 [some (.ref 0), some (.int y1691), some (.int y1692), some (.int y1693), some (.int y1694), some (.long y1695), none, some (.long y1696), none, some (.int y1697), some (.long y1698), none, some (.int y1699)] [.long c1717, .long y1698] (HX c1708 T) 0 0 _
          refine ev_go 4 (pc' := 114) (L' := [some (.ref 0), some (.int y1691), some (.int y1692), some (.int y1693), some (.int y1694), some (.long y1695), none, some (.long y1696), none, some (.int y1697), some (.long (y1698 + c1717)), none, some (.int (y1699 + 1))]) (st' := []) (h' := (HX c1708 T)) (cs' := 0) (sl' := 0) rfl ?_
          exact ih1 _ _ _ _ _ _ _ _ _ _ _ _ h T _ _ _
set_option maxHeartbeats 40000000 in
set_option maxRecDepth 100000 in
theorem Ef_storm_0 (n : Nat) (x1671 : Int32) (x1672 : Int32) (x1673 : Int32) (x1674 : Int32) (w : WX) (r : Int32) (w' : WX) (h : Ff_storm_0 n x1671 x1672 x1673 x1674 w = some (r, w')) (T : ai_H) : ai_ev D1 mf_storm 0 [some (.ref 0), some (.int x1671), some (.int x1672), some (.int x1673), some (.int x1674), none, none, none, none, none, none, none, none] [] (HX w T) 0 0 (some (.int r), HX w' T) := by
  unfold Ff_storm_0 at h
  obtain ⟨ih0, ih1⟩ := EGf_storm_0 n
  refine ev_go 4 (pc' := 8) (L' := [some (.ref 0), some (.int x1671), some (.int x1672), some (.int x1673), some (.int x1674), none, none, none, none, none, none, none, none]) (st' := [.int x1671, .ref 7]) (h' := (HX w T)) (cs' := 0) (sl' := 0) rfl ?_
  obtain ⟨c1675, hq, h⟩ := ai_bdE h
  refine ev_call (M' := mthg_has) (L' := [some (.ref 7), some (.int x1671)]) (rest := []) (rv := some (.int c1675.1)) (h' := (HX c1675.2 T)) rfl (Ethg_has_7 x1671 w _ _ hq T) ?_
  show ai_ev D1 mf_storm 11 [some (.ref 0), some (.int x1671), some (.int x1672), some (.int x1673), some (.int x1674), none, none, none, none, none, none, none, none] [.int c1675.1] (HX c1675.2 T) 0 0 _
  rcases ai_ifE h with ⟨hc, h⟩ | ⟨hc, h⟩
  · refine ev_if_eq (t := 45) rfl rfl (fun _ => ?_) (fun c9 => absurd hc c9)
    refine ev_go 2 (pc' := 48) (L' := [some (.ref 0), some (.int x1671), some (.int x1672), some (.int x1673), some (.int x1674), none, none, none, none, none, none, none, none]) (st' := [.int (-2), .ref 0]) (h' := (HX c1675.2 T)) (cs' := 0) (sl' := 0) rfl ?_
    obtain ⟨c1676, hq, h⟩ := ai_bdE h
    refine ev_call (M' := mf_bad) (L' := [some (.ref 0), some (.int (-2))]) (rest := []) (rv := some (.int c1676.1)) (h' := (HX c1676.2 T)) rfl (Ef_bad_0 (-2) c1675.2 _ _ hq T) ?_
    show ai_ev D1 mf_storm 51 [some (.ref 0), some (.int x1671), some (.int x1672), some (.int x1673), some (.int x1674), none, none, none, none, none, none, none, none] [.int c1676.1] (HX c1676.2 T) 0 0 _
    obtain ⟨rfl, rfl⟩ := ai_smP h
    exact ev_end rfl
  · refine ev_if_eq (t := 45) rfl rfl (fun c9 => absurd c9 hc) (fun _ => ?_)
    refine ev_go 3 (pc' := 19) (L' := [some (.ref 0), some (.int x1671), some (.int x1672), some (.int x1673), some (.int x1674), none, none, none, none, none, none, none, none]) (st' := [.int x1672, .ref 1]) (h' := (HX c1675.2 T)) (cs' := 0) (sl' := 0) rfl ?_
    obtain ⟨c1677, hq, h⟩ := ai_bdE h
    refine ev_call (M' := msea_hasCell) (L' := [some (.ref 1), some (.int x1672)]) (rest := []) (rv := some (.int c1677.1)) (h' := (HX c1677.2 T)) rfl (Esea_hasCell_1 x1672 c1675.2 _ _ hq T) ?_
    show ai_ev D1 mf_storm 22 [some (.ref 0), some (.int x1671), some (.int x1672), some (.int x1673), some (.int x1674), none, none, none, none, none, none, none, none] [.int c1677.1] (HX c1677.2 T) 0 0 _
    rcases ai_ifE h with ⟨hc, h⟩ | ⟨hc, h⟩
    · refine ev_if_eq (t := 45) rfl rfl (fun _ => ?_) (fun c9 => absurd hc c9)
      refine ev_go 2 (pc' := 48) (L' := [some (.ref 0), some (.int x1671), some (.int x1672), some (.int x1673), some (.int x1674), none, none, none, none, none, none, none, none]) (st' := [.int (-2), .ref 0]) (h' := (HX c1677.2 T)) (cs' := 0) (sl' := 0) rfl ?_
      obtain ⟨c1678, hq, h⟩ := ai_bdE h
      refine ev_call (M' := mf_bad) (L' := [some (.ref 0), some (.int (-2))]) (rest := []) (rv := some (.int c1678.1)) (h' := (HX c1678.2 T)) rfl (Ef_bad_0 (-2) c1677.2 _ _ hq T) ?_
      show ai_ev D1 mf_storm 51 [some (.ref 0), some (.int x1671), some (.int x1672), some (.int x1673), some (.int x1674), none, none, none, none, none, none, none, none] [.int c1678.1] (HX c1678.2 T) 0 0 _
      obtain ⟨rfl, rfl⟩ := ai_smP h
      exact ev_end rfl
    · refine ev_if_eq (t := 45) rfl rfl (fun c9 => absurd c9 hc) (fun _ => ?_)
      refine ev_go 3 (pc' := 28) (L' := [some (.ref 0), some (.int x1671), some (.int x1672), some (.int x1673), some (.int x1674), none, none, none, none, none, none, none, none]) (st' := [.int 5, .int 0, .int x1673]) (h' := (HX c1677.2 T)) (cs' := 0) (sl' := 0) rfl ?_
      obtain ⟨c1679, hq, h⟩ := ai_bdE h
      refine ev_call (M' := mf_within) (L' := [some (.int x1673), some (.int 0), some (.int 5)]) (rest := []) (rv := some (.int c1679)) (h' := (HX c1677.2 T)) rfl (Ef_within x1673 0 5 _ hq (HX c1677.2 T)) ?_
      show ai_ev D1 mf_storm 31 [some (.ref 0), some (.int x1671), some (.int x1672), some (.int x1673), some (.int x1674), none, none, none, none, none, none, none, none] [.int c1679] (HX c1677.2 T) 0 0 _
      rcases ai_ifE h with ⟨hc, h⟩ | ⟨hc, h⟩
      · refine ev_if_eq (t := 45) rfl rfl (fun _ => ?_) (fun c9 => absurd hc c9)
        refine ev_go 2 (pc' := 48) (L' := [some (.ref 0), some (.int x1671), some (.int x1672), some (.int x1673), some (.int x1674), none, none, none, none, none, none, none, none]) (st' := [.int (-2), .ref 0]) (h' := (HX c1677.2 T)) (cs' := 0) (sl' := 0) rfl ?_
        obtain ⟨c1680, hq, h⟩ := ai_bdE h
        refine ev_call (M' := mf_bad) (L' := [some (.ref 0), some (.int (-2))]) (rest := []) (rv := some (.int c1680.1)) (h' := (HX c1680.2 T)) rfl (Ef_bad_0 (-2) c1677.2 _ _ hq T) ?_
        show ai_ev D1 mf_storm 51 [some (.ref 0), some (.int x1671), some (.int x1672), some (.int x1673), some (.int x1674), none, none, none, none, none, none, none, none] [.int c1680.1] (HX c1680.2 T) 0 0 _
        obtain ⟨rfl, rfl⟩ := ai_smP h
        exact ev_end rfl
      · refine ev_if_eq (t := 45) rfl rfl (fun c9 => absurd c9 hc) (fun _ => ?_)
        refine ev_go 3 (pc' := 39) (L' := [some (.ref 0), some (.int x1671), some (.int x1672), some (.int x1673), some (.int x1674), none, none, none, none, none, none, none, none]) (st' := [.int 10, .int 0, .int x1674]) (h' := (HX c1677.2 T)) (cs' := 0) (sl' := 0) rfl ?_
        obtain ⟨c1681, hq, h⟩ := ai_bdE h
        refine ev_call (M' := mf_within) (L' := [some (.int x1674), some (.int 0), some (.int 10)]) (rest := []) (rv := some (.int c1681)) (h' := (HX c1677.2 T)) rfl (Ef_within x1674 0 10 _ hq (HX c1677.2 T)) ?_
        show ai_ev D1 mf_storm 42 [some (.ref 0), some (.int x1671), some (.int x1672), some (.int x1673), some (.int x1674), none, none, none, none, none, none, none, none] [.int c1681] (HX c1677.2 T) 0 0 _
        rcases ai_ifE h with ⟨hc, h⟩ | ⟨hc, h⟩
        · refine ev_if_ne (t := 52) rfl rfl (fun c9 => absurd hc c9) (fun _ => ?_)
          refine ev_go 2 (pc' := 48) (L' := [some (.ref 0), some (.int x1671), some (.int x1672), some (.int x1673), some (.int x1674), none, none, none, none, none, none, none, none]) (st' := [.int (-2), .ref 0]) (h' := (HX c1677.2 T)) (cs' := 0) (sl' := 0) rfl ?_
          obtain ⟨c1682, hq, h⟩ := ai_bdE h
          refine ev_call (M' := mf_bad) (L' := [some (.ref 0), some (.int (-2))]) (rest := []) (rv := some (.int c1682.1)) (h' := (HX c1682.2 T)) rfl (Ef_bad_0 (-2) c1677.2 _ _ hq T) ?_
          show ai_ev D1 mf_storm 51 [some (.ref 0), some (.int x1671), some (.int x1672), some (.int x1673), some (.int x1674), none, none, none, none, none, none, none, none] [.int c1682.1] (HX c1682.2 T) 0 0 _
          obtain ⟨rfl, rfl⟩ := ai_smP h
          exact ev_end rfl
        · refine ev_if_ne (t := 52) rfl rfl (fun _ => ?_) (fun c9 => absurd c9 hc)
          refine ev_go 6 (pc' := 61) (L' := [some (.ref 0), some (.int x1671), some (.int x1672), some (.int x1673), some (.int x1674), some (.long 1), none, some (.long 1), none, some (.int 0), none, none, none]) (st' := []) (h' := (HX c1677.2 T)) (cs' := 0) (sl' := 0) rfl ?_
          exact ih0 _ _ _ _ _ _ _ _ _ _ h T _ _ _ _ _
set_option maxHeartbeats 40000000 in
set_option maxRecDepth 100000 in
theorem Ef_part_0 (x1718 : Int32) (w : WX) (r : Int64) (w' : WX) (h : Ff_part_0 x1718 w = some (r, w')) (T : ai_H) : ai_ev D1 mf_part 0 [some (.ref 0), some (.int x1718)] [] (HX w T) 0 0 (some (.long r), HX w' T) := by
  unfold Ff_part_0 at h
  refine ev_go 3 (pc' := 3) (L' := [some (.ref 0), some (.int x1718)]) (st' := [.int 1, .int 0, .int x1718]) (h' := (HX w T)) (cs' := 0) (sl' := 0) rfl ?_
  obtain ⟨c1719, hq, h⟩ := ai_bdE h
  refine ev_call (M' := mf_within) (L' := [some (.int x1718), some (.int 0), some (.int 1)]) (rest := []) (rv := some (.int c1719)) (h' := (HX w T)) rfl (Ef_within x1718 0 1 _ hq (HX w T)) ?_
  show ai_ev D1 mf_part 6 [some (.ref 0), some (.int x1718)] [.int c1719] (HX w T) 0 0 _
  rcases ai_ifE h with ⟨hc, h⟩ | ⟨hc, h⟩
  · refine ev_if_ne (t := 17) rfl rfl (fun c9 => absurd hc c9) (fun _ => ?_)
    refine ev_go 2 (pc' := 12) (L' := [some (.ref 0), some (.int x1718)]) (st' := [.int (-2), .ref 0]) (h' := (HX w T)) (cs' := 0) (sl' := 0) rfl ?_
    obtain ⟨c1720, hq, h⟩ := ai_bdE h
    refine ev_call (M' := mf_bad) (L' := [some (.ref 0), some (.int (-2))]) (rest := []) (rv := some (.int c1720.1)) (h' := (HX c1720.2 T)) rfl (Ef_bad_0 (-2) w _ _ hq T) ?_
    show ai_ev D1 mf_part 15 [some (.ref 0), some (.int x1718)] [.int c1720.1] (HX c1720.2 T) 0 0 _
    refine ev_go 1 (pc' := 16) (L' := [some (.ref 0), some (.int x1718)]) (st' := [.long (c1720.1).toInt64]) (h' := (HX c1720.2 T)) (cs' := 0) (sl' := 0) rfl ?_
    obtain ⟨rfl, rfl⟩ := ai_smP h
    exact ev_end rfl
  · refine ev_if_ne (t := 17) rfl rfl (fun _ => ?_) (fun c9 => absurd c9 hc)
    refine ev_go 1 (pc' := 18) (L' := [some (.ref 0), some (.int x1718)]) (st' := [.int x1718]) (h' := (HX w T)) (cs' := 0) (sl' := 0) rfl ?_
    rcases ai_ifE h with ⟨hc, h⟩ | ⟨hc, h⟩
    · refine ev_if_ne (t := 28) rfl rfl (fun c9 => absurd hc c9) (fun _ => ?_)
      refine ev_go 3 (pc' := 32) (L' := [some (.ref 0), some (.int x1718)]) (st' := [.long (a_f_above w)]) (h' := (HX w T)) (cs' := 0) (sl' := 0) rfl ?_
      obtain ⟨rfl, rfl⟩ := ai_smP h
      exact ev_end rfl
    · refine ev_if_ne (t := 28) rfl rfl (fun _ => ?_) (fun c9 => absurd c9 hc)
      refine ev_go 2 (pc' := 32) (L' := [some (.ref 0), some (.int x1718)]) (st' := [.long (a_f_below w)]) (h' := (HX w T)) (cs' := 0) (sl' := 0) rfl ?_
      obtain ⟨rfl, rfl⟩ := ai_smP h
      exact ev_end rfl
set_option maxHeartbeats 40000000 in
set_option maxRecDepth 100000 in
theorem Ef_status_0 (x1726 : Int32) (w : WX) (r : Int32) (w' : WX) (h : Ff_status_0 x1726 w = some (r, w')) (T : ai_H) : ai_ev D1 mf_status 0 [some (.ref 0), some (.int x1726)] [] (HX w T) 0 0 (some (.int r), HX w' T) := by
  unfold Ff_status_0 at h
  refine ev_go 1 (pc' := 1) (L' := [some (.ref 0), some (.int x1726)]) (st' := [.int x1726]) (h' := (HX w T)) (cs' := 0) (sl' := 0) rfl ?_
  rcases ai_ifE h with ⟨hc, h⟩ | ⟨hs0, h⟩
  · refine ev_swi (k := 0) (t := 28) rfl hc (by decide) (by decide) rfl rfl ?_
    refine ev_go 2 (pc' := 32) (L' := [some (.ref 0), some (.int x1726)]) (st' := [.int (a_f_refusedBad w)]) (h' := (HX w T)) (cs' := 0) (sl' := 0) rfl ?_
    obtain ⟨rfl, rfl⟩ := ai_smP h
    exact ev_end rfl
  rcases ai_ifE h with ⟨hc, h⟩ | ⟨hs1, h⟩
  · refine ev_swi (k := 1) (t := 33) rfl hc (by decide) (by decide) rfl rfl ?_
    refine ev_go 2 (pc' := 37) (L' := [some (.ref 0), some (.int x1726)]) (st' := [.int (a_f_refusedNo w)]) (h' := (HX w T)) (cs' := 0) (sl' := 0) rfl ?_
    obtain ⟨rfl, rfl⟩ := ai_smP h
    exact ev_end rfl
  rcases ai_ifE h with ⟨hc, h⟩ | ⟨hs2, h⟩
  · refine ev_swi (k := 2) (t := 38) rfl hc (by decide) (by decide) rfl rfl ?_
    refine ev_go 2 (pc' := 42) (L' := [some (.ref 0), some (.int x1726)]) (st' := [.int (a_f_refusedFull w)]) (h' := (HX w T)) (cs' := 0) (sl' := 0) rfl ?_
    obtain ⟨rfl, rfl⟩ := ai_smP h
    exact ev_end rfl
  refine ev_swo (t := 43) (lo := 0) (n := 3) rfl (sw_out 0 3 (fun k hk => by match k, hk with | 0, _ => exact hs0 | 1, _ => exact hs1 | 2, _ => exact hs2 | k + 3, hk => exact absurd hk (by omega))) ⟨rfl, by decide⟩ rfl ?_
  refine ev_go 2 (pc' := 45) (L' := [some (.ref 0), some (.int x1726)]) (st' := [.int (-1), .ref 0]) (h' := (HX w T)) (cs' := 0) (sl' := 0) rfl ?_
  obtain ⟨c1727, hq, h⟩ := ai_bdE h
  refine ev_call (M' := mf_bad) (L' := [some (.ref 0), some (.int (-1))]) (rest := []) (rv := some (.int c1727.1)) (h' := (HX c1727.2 T)) rfl (Ef_bad_0 (-1) w _ _ hq T) ?_
  show ai_ev D1 mf_status 48 [some (.ref 0), some (.int x1726)] [.int c1727.1] (HX c1727.2 T) 0 0 _
  obtain ⟨rfl, rfl⟩ := ai_smP h
  exact ev_end rfl
set_option maxHeartbeats 40000000 in
set_option maxRecDepth 100000 in
theorem Esea_countOf_1 (x1730 : Int32) (w : WX) (r : Int32) (w' : WX) (h : Fsea_countOf_1 x1730 w = some (r, w')) (T : ai_H) : ai_ev D1 msea_countOf 0 [some (.ref 1), some (.int x1730)] [] (HX w T) 0 0 (some (.int r), HX w' T) := by
  unfold Fsea_countOf_1 at h
  refine ev_go 1 (pc' := 1) (L' := [some (.ref 1), some (.int x1730)]) (st' := [.int x1730]) (h' := (HX w T)) (cs' := 0) (sl' := 0) rfl ?_
  rcases ai_ifE h with ⟨hc, h⟩ | ⟨hs0, h⟩
  · refine ev_swi (k := 0) (t := 44) rfl hc (by decide) (by decide) rfl rfl ?_
    refine ev_go 2 (pc' := 48) (L' := [some (.ref 1), some (.int x1730)]) (st' := [.int (a_s1_cells w)]) (h' := (HX w T)) (cs' := 0) (sl' := 0) rfl ?_
    obtain ⟨rfl, rfl⟩ := ai_smP h
    exact ev_end rfl
  rcases ai_ifE h with ⟨hc, h⟩ | ⟨hs1, h⟩
  · refine ev_swi (k := 1) (t := 49) rfl hc (by decide) (by decide) rfl rfl ?_
    refine ev_go 2 (pc' := 53) (L' := [some (.ref 1), some (.int x1730)]) (st' := [.int (a_s1_hour w)]) (h' := (HX w T)) (cs' := 0) (sl' := 0) rfl ?_
    obtain ⟨rfl, rfl⟩ := ai_smP h
    exact ev_end rfl
  rcases ai_ifE h with ⟨hc, h⟩ | ⟨hs2, h⟩
  · refine ev_swi (k := 2) (t := 54) rfl hc (by decide) (by decide) rfl rfl ?_
    refine ev_go 3 (pc' := 61) (L' := [some (.ref 1), some (.int x1730)]) (st' := [.int (a_s1things_count w)]) (h' := (HX w T)) (cs' := 0) (sl' := 0) rfl ?_
    obtain ⟨rfl, rfl⟩ := ai_smP h
    exact ev_end rfl
  rcases ai_ifE h with ⟨hc, h⟩ | ⟨hs3, h⟩
  · refine ev_swi (k := 3) (t := 62) rfl hc (by decide) (by decide) rfl rfl ?_
    refine ev_go 3 (pc' := 69) (L' := [some (.ref 1), some (.int x1730)]) (st' := [.int (a_s1lifts_count w)]) (h' := (HX w T)) (cs' := 0) (sl' := 0) rfl ?_
    obtain ⟨rfl, rfl⟩ := ai_smP h
    exact ev_end rfl
  rcases ai_ifE h with ⟨hc, h⟩ | ⟨hs4, h⟩
  · refine ev_swi (k := 4) (t := 70) rfl hc (by decide) (by decide) rfl rfl ?_
    refine ev_go 2 (pc' := 74) (L' := [some (.ref 1), some (.int x1730)]) (st' := [.int (a_s1_towns w)]) (h' := (HX w T)) (cs' := 0) (sl' := 0) rfl ?_
    obtain ⟨rfl, rfl⟩ := ai_smP h
    exact ev_end rfl
  rcases ai_ifE h with ⟨hc, h⟩ | ⟨hs5, h⟩
  · refine ev_swi (k := 5) (t := 75) rfl hc (by decide) (by decide) rfl rfl ?_
    refine ev_go 2 (pc' := 79) (L' := [some (.ref 1), some (.int x1730)]) (st' := [.int (a_s1_dams w)]) (h' := (HX w T)) (cs' := 0) (sl' := 0) rfl ?_
    obtain ⟨rfl, rfl⟩ := ai_smP h
    exact ev_end rfl
  rcases ai_ifE h with ⟨hc, h⟩ | ⟨hs6, h⟩
  · refine ev_swi (k := 6) (t := 80) rfl hc (by decide) (by decide) rfl rfl ?_
    refine ev_go 2 (pc' := 84) (L' := [some (.ref 1), some (.int x1730)]) (st' := [.int (a_s1_drops w)]) (h' := (HX w T)) (cs' := 0) (sl' := 0) rfl ?_
    obtain ⟨rfl, rfl⟩ := ai_smP h
    exact ev_end rfl
  refine ev_swo (t := 85) (lo := 0) (n := 7) rfl (sw_out 0 7 (fun k hk => by match k, hk with | 0, _ => exact hs0 | 1, _ => exact hs1 | 2, _ => exact hs2 | 3, _ => exact hs3 | 4, _ => exact hs4 | 5, _ => exact hs5 | 6, _ => exact hs6 | k + 7, hk => exact absurd hk (by omega))) ⟨rfl, by decide⟩ rfl ?_
  refine ev_go 2 (pc' := 89) (L' := [some (.ref 1), some (.int x1730)]) (st' := [.int (a_s1_undos w)]) (h' := (HX w T)) (cs' := 0) (sl' := 0) rfl ?_
  obtain ⟨rfl, rfl⟩ := ai_smP h
  exact ev_end rfl
set_option maxHeartbeats 40000000 in
set_option maxRecDepth 100000 in
theorem Ef_count_0 (x1728 : Int32) (w : WX) (r : Int32) (w' : WX) (h : Ff_count_0 x1728 w = some (r, w')) (T : ai_H) : ai_ev D1 mf_count 0 [some (.ref 0), some (.int x1728)] [] (HX w T) 0 0 (some (.int r), HX w' T) := by
  unfold Ff_count_0 at h
  refine ev_go 3 (pc' := 4) (L' := [some (.ref 0), some (.int x1728)]) (st' := [.int 8, .int 0, .int x1728]) (h' := (HX w T)) (cs' := 0) (sl' := 0) rfl ?_
  obtain ⟨c1729, hq, h⟩ := ai_bdE h
  refine ev_call (M' := mf_within) (L' := [some (.int x1728), some (.int 0), some (.int 8)]) (rest := []) (rv := some (.int c1729)) (h' := (HX w T)) rfl (Ef_within x1728 0 8 _ hq (HX w T)) ?_
  show ai_ev D1 mf_count 7 [some (.ref 0), some (.int x1728)] [.int c1729] (HX w T) 0 0 _
  rcases ai_ifE h with ⟨hc, h⟩ | ⟨hc, h⟩
  · refine ev_if_ne (t := 17) rfl rfl (fun c9 => absurd hc c9) (fun _ => ?_)
    refine ev_go 2 (pc' := 13) (L' := [some (.ref 0), some (.int x1728)]) (st' := [.int (-2), .ref 0]) (h' := (HX w T)) (cs' := 0) (sl' := 0) rfl ?_
    obtain ⟨c1732, hq, h⟩ := ai_bdE h
    refine ev_call (M' := mf_bad) (L' := [some (.ref 0), some (.int (-2))]) (rest := []) (rv := some (.int c1732.1)) (h' := (HX c1732.2 T)) rfl (Ef_bad_0 (-2) w _ _ hq T) ?_
    show ai_ev D1 mf_count 16 [some (.ref 0), some (.int x1728)] [.int c1732.1] (HX c1732.2 T) 0 0 _
    obtain ⟨rfl, rfl⟩ := ai_smP h
    exact ev_end rfl
  · refine ev_if_ne (t := 17) rfl rfl (fun _ => ?_) (fun c9 => absurd c9 hc)
    refine ev_go 2 (pc' := 20) (L' := [some (.ref 0), some (.int x1728)]) (st' := [.int 8, .int x1728]) (h' := (HX w T)) (cs' := 0) (sl' := 0) rfl ?_
    rcases ai_ifE h with ⟨hc, h⟩ | ⟨hc, h⟩
    · refine ev_ic_ne (t := 33) rfl rfl (fun c9 => absurd hc c9) (fun _ => ?_)
      refine ev_go 4 (pc' := 41) (L' := [some (.ref 0), some (.int x1728)]) (st' := [.int (a_text_length w)]) (h' := (HX w T)) (cs' := 0) (sl' := 0) rfl ?_
      obtain ⟨rfl, rfl⟩ := ai_smP h
      exact ev_end rfl
    · refine ev_ic_ne (t := 33) rfl rfl (fun _ => ?_) (fun c9 => absurd c9 hc)
      refine ev_go 3 (pc' := 38) (L' := [some (.ref 0), some (.int x1728)]) (st' := [.int x1728, .ref 1]) (h' := (HX w T)) (cs' := 0) (sl' := 0) rfl ?_
      obtain ⟨c1731, hq, h⟩ := ai_bdE h
      refine ev_call (M' := msea_countOf) (L' := [some (.ref 1), some (.int x1728)]) (rest := []) (rv := some (.int c1731.1)) (h' := (HX c1731.2 T)) rfl (Esea_countOf_1 x1728 w _ _ hq T) ?_
      show ai_ev D1 mf_count 41 [some (.ref 0), some (.int x1728)] [.int c1731.1] (HX c1731.2 T) 0 0 _
      obtain ⟨rfl, rfl⟩ := ai_smP h
      exact ev_end rfl
set_option maxHeartbeats 40000000 in
set_option maxRecDepth 100000 in
theorem EGsea_digestWaters_1 : ∀ n : Nat, (∀ (y1736 : Int64) (y1737 : Int64) (y1738 : Int32) (w : WX) (r : Int64) (w' : WX), Gsea_digestWaters_1 n 0 y1738 0 y1736 y1737 w = some (r, w') → ∀ (T : ai_H) (o6 : Option Value), ai_ev D1 msea_digestWaters 5 [some (.ref 1), some (.long y1736), none, some (.long y1737), none, some (.int y1738), o6] [] (HX w T) 0 0 (some (.long r), HX w' T)) ∧ (∀ (y1745 : Int64) (y1746 : Int64) (y1747 : Int32) (y1748 : Int32) (w : WX) (r : Int64) (w' : WX), Gsea_digestWaters_1 n 1 y1747 y1748 y1745 y1746 w = some (r, w') → ∀ (T : ai_H), ai_ev D1 msea_digestWaters 44 [some (.ref 1), some (.long y1745), none, some (.long y1746), none, some (.int y1747), some (.int y1748)] [] (HX w T) 0 0 (some (.long r), HX w' T)) ∧ (∀ (y1750 : Int64) (y1751 : Int64) (y1752 : Int32) (y1753 : Int32) (w : WX) (r : Int64) (w' : WX), Gsea_digestWaters_1 n 2 y1752 y1753 y1750 y1751 w = some (r, w') → ∀ (T : ai_H), ai_ev D1 msea_digestWaters 81 [some (.ref 1), some (.long y1750), none, some (.long y1751), none, some (.int y1752), some (.int y1753)] [] (HX w T) 0 0 (some (.long r), HX w' T)) ∧ (∀ (y1741 : Int64) (y1742 : Int64) (y1743 : Int32) (w : WX) (r : Int64) (w' : WX), Gsea_digestWaters_1 n 3 y1743 0 y1741 y1742 w = some (r, w') → ∀ (T : ai_H) (o6 : Option Value), ai_ev D1 msea_digestWaters 126 [some (.ref 1), some (.long y1741), none, some (.long y1742), none, some (.int y1743), o6] [] (HX w T) 0 0 (some (.long r), HX w' T)) := by
  intro n
  induction n with
  | zero =>
    exact ⟨(fun _ _ _ _ _ _ h => by cases h), (fun _ _ _ _ _ _ _ h => by cases h), (fun _ _ _ _ _ _ _ h => by cases h), (fun _ _ _ _ _ _ h => by cases h)⟩
  | succ n ih =>
    obtain ⟨ih0, ih1, ih2, ih3⟩ := ih
    refine ⟨?_, ?_, ?_, ?_⟩
    · intro y1736 y1737 y1738 w r w' h T o6
      simp only [Gsea_digestWaters_1] at h
      refine ev_go 2 (pc' := 8) (L' := [some (.ref 1), some (.long y1736), none, some (.long y1737), none, some (.int y1738), o6]) (st' := [.int 4, .int y1738]) (h' := (HX w T)) (cs' := 0) (sl' := 0) rfl ?_
      rcases ai_ifE h with ⟨hc, h⟩ | ⟨hc, h⟩
      · refine ev_ic_ge (t := 123) rfl rfl (fun _ => ?_) (fun c9 => absurd hc c9)
        refine ev_go 2 (pc' := 126) (L' := [some (.ref 1), some (.long y1736), none, some (.long y1737), none, some (.int 0), o6]) (st' := []) (h' := (HX w T)) (cs' := 0) (sl' := 0) rfl ?_
        exact ih3 _ _ _ _ _ _ h T _ _ _
      · refine ev_ic_ge (t := 123) rfl rfl (fun c9 => absurd c9 hc) (fun _ => ?_)
        refine ev_go 6 (pc' := 22) (L' := [some (.ref 1), some (.long y1736), none, some (.long y1737), none, some (.int y1738), o6]) (st' := [.int y1738, .ref 2, .long (31 * y1737)]) (h' := (HX w T)) (cs' := 0) (sl' := 0) rfl ?_
        obtain ⟨v1739, hq, h⟩ := ai_bdE h
        refine ev_iald rfl rfl hq ?_
        refine ev_go 9 (pc' := 37) (L' := [some (.ref 1), some (.long y1736), none, some (.long ((31 * y1737) + (v1739).toInt64)), none, some (.int y1738), o6]) (st' := [.int y1738, .ref 3, .long (31 * ((31 * y1737) + (v1739).toInt64))]) (h' := (HX w T)) (cs' := 0) (sl' := 0) rfl ?_
        obtain ⟨v1740, hq, h⟩ := ai_bdE h
        refine ev_iald rfl rfl hq ?_
        refine ev_go 5 (pc' := 44) (L' := [some (.ref 1), some (.long y1736), none, some (.long ((31 * ((31 * y1737) + (v1739).toInt64)) + (v1740).toInt64)), none, some (.int y1738), some (.int 0)]) (st' := []) (h' := (HX w T)) (cs' := 0) (sl' := 0) rfl ?_
        exact ih1 _ _ _ _ _ _ _ h T _ _
    · intro y1745 y1746 y1747 y1748 w r w' h T
      simp only [Gsea_digestWaters_1] at h
      refine ev_go 2 (pc' := 48) (L' := [some (.ref 1), some (.long y1745), none, some (.long y1746), none, some (.int y1747), some (.int y1748)]) (st' := [.int 6, .int y1748]) (h' := (HX w T)) (cs' := 0) (sl' := 0) rfl ?_
      rcases ai_ifE h with ⟨hc, h⟩ | ⟨hc, h⟩
      · refine ev_ic_ge (t := 78) rfl rfl (fun _ => ?_) (fun c9 => absurd hc c9)
        refine ev_go 2 (pc' := 81) (L' := [some (.ref 1), some (.long y1745), none, some (.long y1746), none, some (.int y1747), some (.int 0)]) (st' := []) (h' := (HX w T)) (cs' := 0) (sl' := 0) rfl ?_
        exact ih2 _ _ _ _ _ _ _ h T _ _
      · refine ev_ic_ge (t := 78) rfl rfl (fun c9 => absurd c9 hc) (fun _ => ?_)
        refine ev_go 10 (pc' := 68) (L' := [some (.ref 1), some (.long y1745), none, some (.long y1746), none, some (.int y1747), some (.int y1748)]) (st' := [.int ((y1747 * 6) + y1748), .ref 4, .long (31 * y1746)]) (h' := (HX w T)) (cs' := 0) (sl' := 0) rfl ?_
        obtain ⟨v1749, hq, h⟩ := ai_bdE h
        refine ev_iald rfl rfl hq ?_
        refine ev_go 5 (pc' := 44) (L' := [some (.ref 1), some (.long y1745), none, some (.long ((31 * y1746) + (v1749).toInt64)), none, some (.int y1747), some (.int (y1748 + 1))]) (st' := []) (h' := (HX w T)) (cs' := 0) (sl' := 0) rfl ?_
        exact ih1 _ _ _ _ _ _ _ h T _ _
    · intro y1750 y1751 y1752 y1753 w r w' h T
      simp only [Gsea_digestWaters_1] at h
      refine ev_go 3 (pc' := 87) (L' := [some (.ref 1), some (.long y1750), none, some (.long y1751), none, some (.int y1752), some (.int y1753)]) (st' := [.int (a_s1_cells w), .int y1753]) (h' := (HX w T)) (cs' := 0) (sl' := 0) rfl ?_
      rcases ai_ifE h with ⟨hc, h⟩ | ⟨hc, h⟩
      · refine ev_ic_ge (t := 117) rfl rfl (fun _ => ?_) (fun c9 => absurd hc c9)
        refine ev_go 2 (pc' := 5) (L' := [some (.ref 1), some (.long y1750), none, some (.long y1751), none, some (.int (y1752 + 1)), some (.int y1753)]) (st' := []) (h' := (HX w T)) (cs' := 0) (sl' := 0) rfl ?_
        exact ih0 _ _ _ _ _ _ h T _ _ _
      · refine ev_ic_ge (t := 117) rfl rfl (fun c9 => absurd c9 hc) (fun _ => ?_)
        refine ev_go 10 (pc' := 107) (L' := [some (.ref 1), some (.long y1750), none, some (.long y1751), none, some (.int y1752), some (.int y1753)]) (st' := [.int ((y1752 * 6) + y1753), .ref 5, .long (31 * y1751)]) (h' := (HX w T)) (cs' := 0) (sl' := 0) rfl ?_
        obtain ⟨v1754, hq, h⟩ := ai_bdE h
        refine ev_iald rfl rfl hq ?_
        refine ev_go 5 (pc' := 81) (L' := [some (.ref 1), some (.long y1750), none, some (.long ((31 * y1751) + (v1754).toInt64)), none, some (.int y1752), some (.int (y1753 + 1))]) (st' := []) (h' := (HX w T)) (cs' := 0) (sl' := 0) rfl ?_
        exact ih2 _ _ _ _ _ _ _ h T _ _
    · intro y1741 y1742 y1743 w r w' h T o6
      simp only [Gsea_digestWaters_1] at h
      refine ev_go 2 (pc' := 129) (L' := [some (.ref 1), some (.long y1741), none, some (.long y1742), none, some (.int y1743), o6]) (st' := [.int 3, .int y1743]) (h' := (HX w T)) (cs' := 0) (sl' := 0) rfl ?_
      rcases ai_ifE h with ⟨hc, h⟩ | ⟨hc, h⟩
      · refine ev_ic_ge (t := 153) rfl rfl (fun _ => ?_) (fun c9 => absurd hc c9)
        refine ev_go 1 (pc' := 154) (L' := [some (.ref 1), some (.long y1741), none, some (.long y1742), none, some (.int y1743), o6]) (st' := [.long y1742]) (h' := (HX w T)) (cs' := 0) (sl' := 0) rfl ?_
        obtain ⟨rfl, rfl⟩ := ai_smP h
        exact ev_end rfl
      · refine ev_ic_ge (t := 153) rfl rfl (fun c9 => absurd c9 hc) (fun _ => ?_)
        refine ev_go 6 (pc' := 143) (L' := [some (.ref 1), some (.long y1741), none, some (.long y1742), none, some (.int y1743), o6]) (st' := [.int y1743, .ref 6, .long (31 * y1742)]) (h' := (HX w T)) (cs' := 0) (sl' := 0) rfl ?_
        obtain ⟨v1744, hq, h⟩ := ai_bdE h
        refine ev_iald rfl rfl hq ?_
        refine ev_go 5 (pc' := 126) (L' := [some (.ref 1), some (.long y1741), none, some (.long ((31 * y1742) + (v1744).toInt64)), none, some (.int (y1743 + 1)), o6]) (st' := []) (h' := (HX w T)) (cs' := 0) (sl' := 0) rfl ?_
        exact ih3 _ _ _ _ _ _ h T _ _ _
set_option maxHeartbeats 40000000 in
set_option maxRecDepth 100000 in
theorem Esea_digestWaters_1 (n : Nat) (x1735 : Int64) (w : WX) (r : Int64) (w' : WX) (h : Fsea_digestWaters_1 n x1735 w = some (r, w')) (T : ai_H) : ai_ev D1 msea_digestWaters 0 [some (.ref 1), some (.long x1735), none, none, none, none, none] [] (HX w T) 0 0 (some (.long r), HX w' T) := by
  unfold Fsea_digestWaters_1 at h
  obtain ⟨ih0, ih1, ih2, ih3⟩ := EGsea_digestWaters_1 n
  refine ev_go 4 (pc' := 5) (L' := [some (.ref 1), some (.long x1735), none, some (.long x1735), none, some (.int 0), none]) (st' := []) (h' := (HX w T)) (cs' := 0) (sl' := 0) rfl ?_
  exact ih0 _ _ _ _ _ _ h T _ _ _
