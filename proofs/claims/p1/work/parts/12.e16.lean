set_option maxHeartbeats 40000000 in
set_option maxRecDepth 100000 in
theorem EGsea_allThick_1 : ∀ n : Nat, (∀ (y1668 : Int32) (y1669 : Int32) (y1670 : Int32) (w : WX) (r : Int32) (w' : WX), Gsea_allThick_1 n 0 y1668 y1669 y1670 w = some (r, w') → ∀ (T : ai_H), ai_ev D1 msea_allThick 4 [some (.ref 1), some (.int y1668), some (.int y1669), some (.int y1670)] [] (HX w T) 0 0 (some (.int r), HX w' T)) := by
  intro n
  induction n with
  | zero =>
    exact (fun _ _ _ _ _ _ h => by cases h)
  | succ n ih0 =>
    intro y1668 y1669 y1670 w r w' h T
    simp only [Gsea_allThick_1] at h
    refine ev_go 2 (pc' := 6) (L' := [some (.ref 1), some (.int y1668), some (.int y1669), some (.int y1670)]) (st' := [.int 4, .int y1670]) (h' := (HX w T)) (cs' := 0) (sl' := 0) rfl ?_
    rcases ai_ifE h with ⟨hc, h⟩ | ⟨hc, h⟩
    · refine ev_ic_ge (t := 28) rfl rfl (fun _ => ?_) (fun c9 => absurd hc c9)
      refine ev_go 1 (pc' := 29) (L' := [some (.ref 1), some (.int y1668), some (.int y1669), some (.int y1670)]) (st' := [.int y1669]) (h' := (HX w T)) (cs' := 0) (sl' := 0) rfl ?_
      obtain ⟨rfl, rfl⟩ := ai_smP h
      exact ev_end rfl
    · refine ev_ic_ge (t := 28) rfl rfl (fun c9 => absurd c9 hc) (fun _ => ?_)
      refine ev_go 6 (pc' := 17) (L' := [some (.ref 1), some (.int y1668), some (.int y1669), some (.int y1670)]) (st' := [.int (a_s1_hour w), .int y1668, .int y1670, .ref 1, .int y1669]) (h' := (HX w T)) (cs' := 0) (sl' := 0) rfl ?_
      obtain ⟨c1671, hq, h⟩ := ai_bdE h
      refine ev_call (M' := msea_thickAt) (L' := [some (.ref 1), some (.int y1670), some (.int y1668), some (.int (a_s1_hour w))]) (rest := [.int y1669]) (rv := some (.int c1671.1)) (h' := (HX c1671.2 T)) rfl (Esea_thickAt_1 y1670 y1668 (a_s1_hour w) w _ _ hq T) ?_
      show ai_ev D1 msea_allThick 20 [some (.ref 1), some (.int y1668), some (.int y1669), some (.int y1670)] [.int c1671.1, .int y1669] (HX c1671.2 T) 0 0 _
      refine ev_go 4 (pc' := 4) (L' := [some (.ref 1), some (.int y1668), some (.int (y1669 + c1671.1)), some (.int (y1670 + 1))]) (st' := []) (h' := (HX c1671.2 T)) (cs' := 0) (sl' := 0) rfl ?_
      exact ih0 _ _ _ _ _ _ h T
set_option maxHeartbeats 40000000 in
set_option maxRecDepth 100000 in
theorem Esea_allThick_1 (n : Nat) (x1667 : Int32) (w : WX) (r : Int32) (w' : WX) (h : Fsea_allThick_1 n x1667 w = some (r, w')) (T : ai_H) : ai_ev D1 msea_allThick 0 [some (.ref 1), some (.int x1667), none, none] [] (HX w T) 0 0 (some (.int r), HX w' T) := by
  unfold Fsea_allThick_1 at h
  have ih0 := EGsea_allThick_1 n
  refine ev_go 4 (pc' := 4) (L' := [some (.ref 1), some (.int x1667), some (.int 0), some (.int 0)]) (st' := []) (h' := (HX w T)) (cs' := 0) (sl' := 0) rfl ?_
  exact ih0 _ _ _ _ _ _ h T
set_option maxHeartbeats 40000000 in
set_option maxRecDepth 100000 in
theorem EGf_shaken_0 : ∀ n : Nat, (∀ (y1674 : Int32) (y1675 : Int32) (y1676 : Int32) (y1677 : Int32) (y1678 : Int32) (y1679 : Int32) (y1680 : Int32) (w : WX) (r : Int32) (w' : WX), Gf_shaken_0 n 0 y1674 y1675 y1676 y1677 y1678 y1679 y1680 w = some (r, w') → ∀ (T : ai_H), ai_ev D1 mf_shaken 64 [some (.ref 0), some (.int y1674), some (.int y1675), some (.int y1676), some (.int y1677), some (.int y1678), some (.int y1679), some (.int y1680)] [] (HX w T) 0 0 (some (.int r), HX w' T)) := by
  intro n
  induction n with
  | zero =>
    exact (fun _ _ _ _ _ _ _ _ _ _ h => by cases h)
  | succ n ih0 =>
    intro y1674 y1675 y1676 y1677 y1678 y1679 y1680 w r w' h T
    simp only [Gf_shaken_0] at h
    refine ev_go 2 (pc' := 67) (L' := [some (.ref 0), some (.int y1674), some (.int y1675), some (.int y1676), some (.int y1677), some (.int y1678), some (.int y1679), some (.int y1680)]) (st' := [.int y1674, .int y1680]) (h' := (HX w T)) (cs' := 0) (sl' := 0) rfl ?_
    rcases ai_ifE h with ⟨hc, h⟩ | ⟨hc, h⟩
    · refine ev_ic_gt (t := 97) rfl rfl (fun _ => ?_) (fun c9 => absurd hc c9)
      refine ev_go 1 (pc' := 99) (L' := [some (.ref 0), some (.int y1674), some (.int y1675), some (.int y1676), some (.int y1677), some (.int y1678), some (.int y1679), some (.int y1680)]) (st' := [.int y1678]) (h' := (HX w T)) (cs' := 0) (sl' := 0) rfl ?_
      obtain ⟨rfl, rfl⟩ := ai_smP h
      exact ev_end rfl
    · refine ev_ic_gt (t := 97) rfl rfl (fun c9 => absurd c9 hc) (fun _ => ?_)
      refine ev_go 2 (pc' := 74) (L' := [some (.ref 0), some (.int y1674), some (.int y1675), some (.int y1676), some (.int y1677), some (.int y1678), some (.int y1679), some (.int y1680)]) (st' := [.int y1677, .int y1679]) (h' := (HX w T)) (cs' := 0) (sl' := 0) rfl ?_
      rcases ai_ifE h with ⟨hc, h⟩ | ⟨hc, h⟩
      · refine ev_ic_le (t := 97) rfl rfl (fun _ => ?_) (fun c9 => absurd hc c9)
        refine ev_go 1 (pc' := 99) (L' := [some (.ref 0), some (.int y1674), some (.int y1675), some (.int y1676), some (.int y1677), some (.int y1678), some (.int y1679), some (.int y1680)]) (st' := [.int y1678]) (h' := (HX w T)) (cs' := 0) (sl' := 0) rfl ?_
        obtain ⟨rfl, rfl⟩ := ai_smP h
        exact ev_end rfl
      · refine ev_ic_le (t := 97) rfl rfl (fun c9 => absurd c9 hc) (fun _ => ?_)
        refine ev_go 11 (pc' := 64) (L' := [some (.ref 0), some (.int y1674), some (.int y1675), some (.int y1676), some (.int y1677), some (.int (y1678 + 1)), some (.int (y1679 - ((y1679 + 3) / 4))), some (.int (y1680 + 1))]) (st' := []) (h' := (HX w T)) (cs' := 0) (sl' := 0) rfl ?_
        exact ih0 _ _ _ _ _ _ _ _ _ _ h T
set_option maxHeartbeats 40000000 in
set_option maxRecDepth 100000 in
theorem Ef_shaken_0 (n : Nat) (x1659 : Int32) (x1660 : Int32) (x1661 : Int32) (w : WX) (r : Int32) (w' : WX) (h : Ff_shaken_0 n x1659 x1660 x1661 w = some (r, w')) (T : ai_H) : ai_ev D1 mf_shaken 0 [some (.ref 0), some (.int x1659), some (.int x1660), some (.int x1661), none, none, none, none] [] (HX w T) 0 0 (some (.int r), HX w' T) := by
  unfold Ff_shaken_0 at h
  have ih0 := EGf_shaken_0 n
  refine ev_go 3 (pc' := 4) (L' := [some (.ref 0), some (.int x1659), some (.int x1660), some (.int x1661), none, none, none, none]) (st' := [.int 99, .int 0, .int x1659]) (h' := (HX w T)) (cs' := 0) (sl' := 0) rfl ?_
  obtain ⟨c1662, hq, h⟩ := ai_bdE h
  refine ev_call (M' := mf_within) (L' := [some (.int x1659), some (.int 0), some (.int 99)]) (rest := []) (rv := some (.int c1662)) (h' := (HX w T)) rfl (Ef_within x1659 0 99 _ hq (HX w T)) ?_
  show ai_ev D1 mf_shaken 7 [some (.ref 0), some (.int x1659), some (.int x1660), some (.int x1661), none, none, none, none] [.int c1662] (HX w T) 0 0 _
  rcases ai_ifE h with ⟨hc, h⟩ | ⟨hc, h⟩
  · refine ev_if_eq (t := 30) rfl rfl (fun _ => ?_) (fun c9 => absurd hc c9)
    refine ev_go 2 (pc' := 33) (L' := [some (.ref 0), some (.int x1659), some (.int x1660), some (.int x1661), none, none, none, none]) (st' := [.int (-2), .ref 0]) (h' := (HX w T)) (cs' := 0) (sl' := 0) rfl ?_
    obtain ⟨c1663, hq, h⟩ := ai_bdE h
    refine ev_call (M' := mf_bad) (L' := [some (.ref 0), some (.int (-2))]) (rest := []) (rv := some (.int c1663.1)) (h' := (HX c1663.2 T)) rfl (Ef_bad_0 (-2) w _ _ hq T) ?_
    show ai_ev D1 mf_shaken 36 [some (.ref 0), some (.int x1659), some (.int x1660), some (.int x1661), none, none, none, none] [.int c1663.1] (HX c1663.2 T) 0 0 _
    obtain ⟨rfl, rfl⟩ := ai_smP h
    exact ev_end rfl
  · refine ev_if_eq (t := 30) rfl rfl (fun c9 => absurd c9 hc) (fun _ => ?_)
    refine ev_go 3 (pc' := 15) (L' := [some (.ref 0), some (.int x1659), some (.int x1660), some (.int x1661), none, none, none, none]) (st' := [.int x1660, .ref 1]) (h' := (HX w T)) (cs' := 0) (sl' := 0) rfl ?_
    obtain ⟨c1664, hq, h⟩ := ai_bdE h
    refine ev_call (M' := msea_hasCell) (L' := [some (.ref 1), some (.int x1660)]) (rest := []) (rv := some (.int c1664.1)) (h' := (HX c1664.2 T)) rfl (Esea_hasCell_1 x1660 w _ _ hq T) ?_
    show ai_ev D1 mf_shaken 18 [some (.ref 0), some (.int x1659), some (.int x1660), some (.int x1661), none, none, none, none] [.int c1664.1] (HX c1664.2 T) 0 0 _
    rcases ai_ifE h with ⟨hc, h⟩ | ⟨hc, h⟩
    · refine ev_if_eq (t := 30) rfl rfl (fun _ => ?_) (fun c9 => absurd hc c9)
      refine ev_go 2 (pc' := 33) (L' := [some (.ref 0), some (.int x1659), some (.int x1660), some (.int x1661), none, none, none, none]) (st' := [.int (-2), .ref 0]) (h' := (HX c1664.2 T)) (cs' := 0) (sl' := 0) rfl ?_
      obtain ⟨c1665, hq, h⟩ := ai_bdE h
      refine ev_call (M' := mf_bad) (L' := [some (.ref 0), some (.int (-2))]) (rest := []) (rv := some (.int c1665.1)) (h' := (HX c1665.2 T)) rfl (Ef_bad_0 (-2) c1664.2 _ _ hq T) ?_
      show ai_ev D1 mf_shaken 36 [some (.ref 0), some (.int x1659), some (.int x1660), some (.int x1661), none, none, none, none] [.int c1665.1] (HX c1665.2 T) 0 0 _
      obtain ⟨rfl, rfl⟩ := ai_smP h
      exact ev_end rfl
    · refine ev_if_eq (t := 30) rfl rfl (fun c9 => absurd c9 hc) (fun _ => ?_)
      refine ev_go 3 (pc' := 24) (L' := [some (.ref 0), some (.int x1659), some (.int x1660), some (.int x1661), none, none, none, none]) (st' := [.int 1, .int 0, .int x1661]) (h' := (HX c1664.2 T)) (cs' := 0) (sl' := 0) rfl ?_
      obtain ⟨c1666, hq, h⟩ := ai_bdE h
      refine ev_call (M' := mf_within) (L' := [some (.int x1661), some (.int 0), some (.int 1)]) (rest := []) (rv := some (.int c1666)) (h' := (HX c1664.2 T)) rfl (Ef_within x1661 0 1 _ hq (HX c1664.2 T)) ?_
      show ai_ev D1 mf_shaken 27 [some (.ref 0), some (.int x1659), some (.int x1660), some (.int x1661), none, none, none, none] [.int c1666] (HX c1664.2 T) 0 0 _
      rcases ai_ifE h with ⟨hc, h⟩ | ⟨hc, h⟩
      · refine ev_if_ne (t := 37) rfl rfl (fun c9 => absurd hc c9) (fun _ => ?_)
        refine ev_go 2 (pc' := 33) (L' := [some (.ref 0), some (.int x1659), some (.int x1660), some (.int x1661), none, none, none, none]) (st' := [.int (-2), .ref 0]) (h' := (HX c1664.2 T)) (cs' := 0) (sl' := 0) rfl ?_
        obtain ⟨c1673, hq, h⟩ := ai_bdE h
        refine ev_call (M' := mf_bad) (L' := [some (.ref 0), some (.int (-2))]) (rest := []) (rv := some (.int c1673.1)) (h' := (HX c1673.2 T)) rfl (Ef_bad_0 (-2) c1664.2 _ _ hq T) ?_
        show ai_ev D1 mf_shaken 36 [some (.ref 0), some (.int x1659), some (.int x1660), some (.int x1661), none, none, none, none] [.int c1673.1] (HX c1673.2 T) 0 0 _
        obtain ⟨rfl, rfl⟩ := ai_smP h
        exact ev_end rfl
      · refine ev_if_ne (t := 37) rfl rfl (fun _ => ?_) (fun c9 => absurd c9 hc)
        refine ev_go 1 (pc' := 38) (L' := [some (.ref 0), some (.int x1659), some (.int x1660), some (.int x1661), none, none, none, none]) (st' := [.int x1661]) (h' := (HX c1664.2 T)) (cs' := 0) (sl' := 0) rfl ?_
        rcases ai_ifE h with ⟨hc, h⟩ | ⟨hc, h⟩
        · refine ev_if_ne (t := 45) rfl rfl (fun c9 => absurd hc c9) (fun _ => ?_)
          refine ev_go 9 (pc' := 64) (L' := [some (.ref 0), some (.int x1659), some (.int x1660), some (.int x1661), some (.int 0), some (.int 0), some (.int x1659), some (.int 0)]) (st' := []) (h' := (HX c1664.2 T)) (cs' := 0) (sl' := 0) rfl ?_
          exact ih0 _ _ _ _ _ _ _ _ _ _ h T
        · refine ev_if_ne (t := 45) rfl rfl (fun _ => ?_) (fun c9 => absurd c9 hc)
          refine ev_go 3 (pc' := 50) (L' := [some (.ref 0), some (.int x1659), some (.int x1660), some (.int x1661), none, none, none, none]) (st' := [.int x1660, .ref 1]) (h' := (HX c1664.2 T)) (cs' := 0) (sl' := 0) rfl ?_
          obtain ⟨c1672, hq, h⟩ := ai_bdE h
          refine ev_call (M' := msea_allThick) (L' := [some (.ref 1), some (.int x1660), none, none]) (rest := []) (rv := some (.int c1672.1)) (h' := (HX c1672.2 T)) rfl (Esea_allThick_1 n x1660 c1664.2 _ _ hq T) ?_
          show ai_ev D1 mf_shaken 53 [some (.ref 0), some (.int x1659), some (.int x1660), some (.int x1661), none, none, none, none] [.int c1672.1] (HX c1672.2 T) 0 0 _
          refine ev_go 7 (pc' := 64) (L' := [some (.ref 0), some (.int x1659), some (.int x1660), some (.int x1661), some (.int c1672.1), some (.int 0), some (.int x1659), some (.int 0)]) (st' := []) (h' := (HX c1672.2 T)) (cs' := 0) (sl' := 0) rfl ?_
          exact ih0 _ _ _ _ _ _ _ _ _ _ h T
set_option maxHeartbeats 40000000 in
set_option maxRecDepth 100000 in
theorem EGf_lies_0 : ∀ n : Nat, (∀ (y1696 : Int32) (y1697 : Int32) (y1698 : Int32) (y1699 : Int32) (y1700 : Int32) (y1701 : Int32) (y1702 : Int32) (y1703 : Int32) (y1704 : Int32) (w : WX) (r : Int32) (w' : WX), Gf_lies_0 n 0 y1696 y1697 y1698 y1699 y1700 y1701 y1702 y1703 y1704 w = some (r, w') → ∀ (T : ai_H), ai_ev D1 mf_lies 71 [some (.ref 0), some (.int y1696), some (.int y1697), some (.int y1698), some (.int y1699), some (.int y1700), some (.int y1701), some (.int y1702), some (.int y1703), some (.int y1704)] [] (HX w T) 0 0 (some (.int r), HX w' T)) := by
  intro n
  induction n with
  | zero =>
    exact (fun _ _ _ _ _ _ _ _ _ _ _ _ h => by cases h)
  | succ n ih0 =>
    intro y1696 y1697 y1698 y1699 y1700 y1701 y1702 y1703 y1704 w r w' h T
    simp only [Gf_lies_0] at h
    refine ev_go 2 (pc' := 75) (L' := [some (.ref 0), some (.int y1696), some (.int y1697), some (.int y1698), some (.int y1699), some (.int y1700), some (.int y1701), some (.int y1702), some (.int y1703), some (.int y1704)]) (st' := [.int 99, .int y1704]) (h' := (HX w T)) (cs' := 0) (sl' := 0) rfl ?_
    rcases ai_ifE h with ⟨hc, h⟩ | ⟨hc, h⟩
    · refine ev_ic_gt (t := 146) rfl rfl (fun _ => ?_) (fun c9 => absurd hc c9)
      refine ev_go 1 (pc' := 148) (L' := [some (.ref 0), some (.int y1696), some (.int y1697), some (.int y1698), some (.int y1699), some (.int y1700), some (.int y1701), some (.int y1702), some (.int y1703), some (.int y1704)]) (st' := [.int y1700]) (h' := (HX w T)) (cs' := 0) (sl' := 0) rfl ?_
      rcases ai_ifE h with ⟨hc, h⟩ | ⟨hc, h⟩
      · refine ev_if_ne (t := 154) rfl rfl (fun c9 => absurd hc c9) (fun _ => ?_)
        refine ev_go 1 (pc' := 153) (L' := [some (.ref 0), some (.int y1696), some (.int y1697), some (.int y1698), some (.int y1699), some (.int y1700), some (.int y1701), some (.int y1702), some (.int y1703), some (.int y1704)]) (st' := [.int y1701]) (h' := (HX w T)) (cs' := 0) (sl' := 0) rfl ?_
        obtain ⟨rfl, rfl⟩ := ai_smP h
        exact ev_end rfl
      · refine ev_if_ne (t := 154) rfl rfl (fun _ => ?_) (fun c9 => absurd c9 hc)
        refine ev_go 2 (pc' := 157) (L' := [some (.ref 0), some (.int y1696), some (.int y1697), some (.int y1698), some (.int y1699), some (.int y1700), some (.int y1701), some (.int y1702), some (.int y1703), some (.int y1704)]) (st' := [.int 1, .int y1700]) (h' := (HX w T)) (cs' := 0) (sl' := 0) rfl ?_
        rcases ai_ifE h with ⟨hc, h⟩ | ⟨hc, h⟩
        · refine ev_ic_ne (t := 165) rfl rfl (fun c9 => absurd hc c9) (fun _ => ?_)
          refine ev_go 2 (pc' := 167) (L' := [some (.ref 0), some (.int y1696), some (.int y1697), some (.int y1698), some (.int y1699), some (.int y1700), some (.int y1701), some (.int y1702), some (.int y1703), some (.int y1704)]) (st' := [.int y1702]) (h' := (HX w T)) (cs' := 0) (sl' := 0) rfl ?_
          obtain ⟨rfl, rfl⟩ := ai_smP h
          exact ev_end rfl
        · refine ev_ic_ne (t := 165) rfl rfl (fun _ => ?_) (fun c9 => absurd c9 hc)
          refine ev_go 1 (pc' := 167) (L' := [some (.ref 0), some (.int y1696), some (.int y1697), some (.int y1698), some (.int y1699), some (.int y1700), some (.int y1701), some (.int y1702), some (.int y1703), some (.int y1704)]) (st' := [.int y1703]) (h' := (HX w T)) (cs' := 0) (sl' := 0) rfl ?_
          obtain ⟨rfl, rfl⟩ := ai_smP h
          exact ev_end rfl
    · refine ev_ic_gt (t := 146) rfl rfl (fun c9 => absurd c9 hc) (fun _ => ?_)
      refine ev_go 7 (pc' := 89) (L' := [some (.ref 0), some (.int y1696), some (.int y1697), some (.int y1698), some (.int y1699), some (.int y1700), some (.int y1701), some (.int y1702), some (.int y1703), some (.int y1704)]) (st' := [.int y1699, .int 0, .int y1696, .int y1704, .int 4, .ref 81]) (h' := (HX w T)) (cs' := 0) (sl' := 0) rfl ?_
      obtain ⟨c1705, hq, h⟩ := ai_bdE h
      refine ev_call (M' := mfall_shape) (L' := [some (.ref 81), some (.int 4), some (.int y1704), some (.int y1696), some (.int 0), some (.int y1699)]) (rest := []) (rv := none) (h' := (HX c1705 T)) rfl (Efall_shape_81 4 y1704 y1696 0 y1699 w _ hq T) ?_
      show ai_ev D1 mf_lies 92 [some (.ref 0), some (.int y1696), some (.int y1697), some (.int y1698), some (.int y1699), some (.int y1700), some (.int y1701), some (.int y1702), some (.int y1703), some (.int y1704)] [] (HX c1705 T) 0 0 _
      refine ev_go 7 (pc' := 104) (L' := [some (.ref 0), some (.int y1696), some (.int y1697), some (.int y1698), some (.int y1699), some (.int y1700), some (.int y1701), some (.int y1702), some (.int y1703), some (.int y1704)]) (st' := [.int 0, .int y1699, .int y1697, .ref 1, .ref 81]) (h' := (HX c1705 T)) (cs' := 0) (sl' := 0) rfl ?_
      obtain ⟨c1706, hq, h⟩ := ai_bdE h
      refine ev_call (M' := mfall_letGo) (L' := [some (.ref 81), some (.ref 1), some (.int y1697), some (.int y1699), some (.int 0), none, none, none]) (rest := []) (rv := none) (h' := (HX c1706 T)) rfl (Efall_letGo_81_1 n y1697 y1699 0 c1705 _ hq T) ?_
      show ai_ev D1 mf_lies 107 [some (.ref 0), some (.int y1696), some (.int y1697), some (.int y1698), some (.int y1699), some (.int y1700), some (.int y1701), some (.int y1702), some (.int y1703), some (.int y1704)] [] (HX c1706 T) 0 0 _
      refine ev_go 4 (pc' := 115) (L' := [some (.ref 0), some (.int y1696), some (.int y1697), some (.int y1698), some (.int y1699), some (.int y1700), some (.int y1701), some (.int y1702), some (.int y1703), some (.int y1704)]) (st' := [.int y1698, .int (a_fall_layer c1706)]) (h' := (HX c1706 T)) (cs' := 0) (sl' := 0) rfl ?_
      rcases ai_ifE h with ⟨hc, h⟩ | ⟨hc, h⟩
      · refine ev_ic_ne (t := 140) rfl rfl (fun c9 => absurd hc c9) (fun _ => ?_)
        refine ev_go 3 (pc' := 124) (L' := [some (.ref 0), some (.int y1696), some (.int y1697), some (.int y1698), some (.int y1699), some (.int y1700), some (.int (y1701 + 1)), some (.int y1702), some (.int y1703), some (.int y1704)]) (st' := [.int (-1), .int y1702]) (h' := (HX c1706 T)) (cs' := 0) (sl' := 0) rfl ?_
        rcases ai_ifE h with ⟨hc, h⟩ | ⟨hc, h⟩
        · refine ev_ic_ne (t := 132) rfl rfl (fun c9 => absurd hc c9) (fun _ => ?_)
          refine ev_go 7 (pc' := 71) (L' := [some (.ref 0), some (.int y1696), some (.int y1697), some (.int y1698), some (.int y1699), some (.int y1700), some (.int (y1701 + 1)), some (.int y1704), some (.int y1704), some (.int (y1704 + 1))]) (st' := []) (h' := (HX c1706 T)) (cs' := 0) (sl' := 0) rfl ?_
          exact ih0 _ _ _ _ _ _ _ _ _ _ _ _ h T
        · refine ev_ic_ne (t := 132) rfl rfl (fun _ => ?_) (fun c9 => absurd c9 hc)
          refine ev_go 6 (pc' := 71) (L' := [some (.ref 0), some (.int y1696), some (.int y1697), some (.int y1698), some (.int y1699), some (.int y1700), some (.int (y1701 + 1)), some (.int y1702), some (.int y1704), some (.int (y1704 + 1))]) (st' := []) (h' := (HX c1706 T)) (cs' := 0) (sl' := 0) rfl ?_
          exact ih0 _ _ _ _ _ _ _ _ _ _ _ _ h T
      · refine ev_ic_ne (t := 140) rfl rfl (fun _ => ?_) (fun c9 => absurd c9 hc)
        refine ev_go 2 (pc' := 71) (L' := [some (.ref 0), some (.int y1696), some (.int y1697), some (.int y1698), some (.int y1699), some (.int y1700), some (.int y1701), some (.int y1702), some (.int y1703), some (.int (y1704 + 1))]) (st' := []) (h' := (HX c1706 T)) (cs' := 0) (sl' := 0) rfl ?_
        exact ih0 _ _ _ _ _ _ _ _ _ _ _ _ h T
set_option maxHeartbeats 40000000 in
set_option maxRecDepth 100000 in
theorem Ef_lies_0 (n : Nat) (x1681 : Int32) (x1682 : Int32) (x1683 : Int32) (x1684 : Int32) (x1685 : Int32) (w : WX) (r : Int32) (w' : WX) (h : Ff_lies_0 n x1681 x1682 x1683 x1684 x1685 w = some (r, w')) (T : ai_H) : ai_ev D1 mf_lies 0 [some (.ref 0), some (.int x1681), some (.int x1682), some (.int x1683), some (.int x1684), some (.int x1685), none, none, none, none] [] (HX w T) 0 0 (some (.int r), HX w' T) := by
  unfold Ff_lies_0 at h
  have ih0 := EGf_lies_0 n
  refine ev_go 3 (pc' := 4) (L' := [some (.ref 0), some (.int x1681), some (.int x1682), some (.int x1683), some (.int x1684), some (.int x1685), none, none, none, none]) (st' := [.int 9, .int 1, .int x1681]) (h' := (HX w T)) (cs' := 0) (sl' := 0) rfl ?_
  obtain ⟨c1686, hq, h⟩ := ai_bdE h
  refine ev_call (M' := mf_within) (L' := [some (.int x1681), some (.int 1), some (.int 9)]) (rest := []) (rv := some (.int c1686)) (h' := (HX w T)) rfl (Ef_within x1681 1 9 _ hq (HX w T)) ?_
  show ai_ev D1 mf_lies 7 [some (.ref 0), some (.int x1681), some (.int x1682), some (.int x1683), some (.int x1684), some (.int x1685), none, none, none, none] [.int c1686] (HX w T) 0 0 _
  rcases ai_ifE h with ⟨hc, h⟩ | ⟨hc, h⟩
  · refine ev_if_eq (t := 52) rfl rfl (fun _ => ?_) (fun c9 => absurd hc c9)
    refine ev_go 2 (pc' := 55) (L' := [some (.ref 0), some (.int x1681), some (.int x1682), some (.int x1683), some (.int x1684), some (.int x1685), none, none, none, none]) (st' := [.int (-10), .ref 0]) (h' := (HX w T)) (cs' := 0) (sl' := 0) rfl ?_
    obtain ⟨c1687, hq, h⟩ := ai_bdE h
    refine ev_call (M' := mf_bad) (L' := [some (.ref 0), some (.int (-10))]) (rest := []) (rv := some (.int c1687.1)) (h' := (HX c1687.2 T)) rfl (Ef_bad_0 (-10) w _ _ hq T) ?_
    show ai_ev D1 mf_lies 58 [some (.ref 0), some (.int x1681), some (.int x1682), some (.int x1683), some (.int x1684), some (.int x1685), none, none, none, none] [.int c1687.1] (HX c1687.2 T) 0 0 _
    obtain ⟨rfl, rfl⟩ := ai_smP h
    exact ev_end rfl
  · refine ev_if_eq (t := 52) rfl rfl (fun c9 => absurd c9 hc) (fun _ => ?_)
    refine ev_go 3 (pc' := 15) (L' := [some (.ref 0), some (.int x1681), some (.int x1682), some (.int x1683), some (.int x1684), some (.int x1685), none, none, none, none]) (st' := [.int x1682, .ref 1]) (h' := (HX w T)) (cs' := 0) (sl' := 0) rfl ?_
    obtain ⟨c1688, hq, h⟩ := ai_bdE h
    refine ev_call (M' := msea_hasCell) (L' := [some (.ref 1), some (.int x1682)]) (rest := []) (rv := some (.int c1688.1)) (h' := (HX c1688.2 T)) rfl (Esea_hasCell_1 x1682 w _ _ hq T) ?_
    show ai_ev D1 mf_lies 18 [some (.ref 0), some (.int x1681), some (.int x1682), some (.int x1683), some (.int x1684), some (.int x1685), none, none, none, none] [.int c1688.1] (HX c1688.2 T) 0 0 _
    rcases ai_ifE h with ⟨hc, h⟩ | ⟨hc, h⟩
    · refine ev_if_eq (t := 52) rfl rfl (fun _ => ?_) (fun c9 => absurd hc c9)
      refine ev_go 2 (pc' := 55) (L' := [some (.ref 0), some (.int x1681), some (.int x1682), some (.int x1683), some (.int x1684), some (.int x1685), none, none, none, none]) (st' := [.int (-10), .ref 0]) (h' := (HX c1688.2 T)) (cs' := 0) (sl' := 0) rfl ?_
      obtain ⟨c1689, hq, h⟩ := ai_bdE h
      refine ev_call (M' := mf_bad) (L' := [some (.ref 0), some (.int (-10))]) (rest := []) (rv := some (.int c1689.1)) (h' := (HX c1689.2 T)) rfl (Ef_bad_0 (-10) c1688.2 _ _ hq T) ?_
      show ai_ev D1 mf_lies 58 [some (.ref 0), some (.int x1681), some (.int x1682), some (.int x1683), some (.int x1684), some (.int x1685), none, none, none, none] [.int c1689.1] (HX c1689.2 T) 0 0 _
      obtain ⟨rfl, rfl⟩ := ai_smP h
      exact ev_end rfl
    · refine ev_if_eq (t := 52) rfl rfl (fun c9 => absurd c9 hc) (fun _ => ?_)
      refine ev_go 3 (pc' := 24) (L' := [some (.ref 0), some (.int x1681), some (.int x1682), some (.int x1683), some (.int x1684), some (.int x1685), none, none, none, none]) (st' := [.int 4, .int 0, .int x1683]) (h' := (HX c1688.2 T)) (cs' := 0) (sl' := 0) rfl ?_
      obtain ⟨c1690, hq, h⟩ := ai_bdE h
      refine ev_call (M' := mf_within) (L' := [some (.int x1683), some (.int 0), some (.int 4)]) (rest := []) (rv := some (.int c1690)) (h' := (HX c1688.2 T)) rfl (Ef_within x1683 0 4 _ hq (HX c1688.2 T)) ?_
      show ai_ev D1 mf_lies 27 [some (.ref 0), some (.int x1681), some (.int x1682), some (.int x1683), some (.int x1684), some (.int x1685), none, none, none, none] [.int c1690] (HX c1688.2 T) 0 0 _
      rcases ai_ifE h with ⟨hc, h⟩ | ⟨hc, h⟩
      · refine ev_if_eq (t := 52) rfl rfl (fun _ => ?_) (fun c9 => absurd hc c9)
        refine ev_go 2 (pc' := 55) (L' := [some (.ref 0), some (.int x1681), some (.int x1682), some (.int x1683), some (.int x1684), some (.int x1685), none, none, none, none]) (st' := [.int (-10), .ref 0]) (h' := (HX c1688.2 T)) (cs' := 0) (sl' := 0) rfl ?_
        obtain ⟨c1691, hq, h⟩ := ai_bdE h
        refine ev_call (M' := mf_bad) (L' := [some (.ref 0), some (.int (-10))]) (rest := []) (rv := some (.int c1691.1)) (h' := (HX c1691.2 T)) rfl (Ef_bad_0 (-10) c1688.2 _ _ hq T) ?_
        show ai_ev D1 mf_lies 58 [some (.ref 0), some (.int x1681), some (.int x1682), some (.int x1683), some (.int x1684), some (.int x1685), none, none, none, none] [.int c1691.1] (HX c1691.2 T) 0 0 _
        obtain ⟨rfl, rfl⟩ := ai_smP h
        exact ev_end rfl
      · refine ev_if_eq (t := 52) rfl rfl (fun c9 => absurd c9 hc) (fun _ => ?_)
        refine ev_go 3 (pc' := 36) (L' := [some (.ref 0), some (.int x1681), some (.int x1682), some (.int x1683), some (.int x1684), some (.int x1685), none, none, none, none]) (st' := [.int 999, .int 0, .int x1684]) (h' := (HX c1688.2 T)) (cs' := 0) (sl' := 0) rfl ?_
        obtain ⟨c1692, hq, h⟩ := ai_bdE h
        refine ev_call (M' := mf_within) (L' := [some (.int x1684), some (.int 0), some (.int 999)]) (rest := []) (rv := some (.int c1692)) (h' := (HX c1688.2 T)) rfl (Ef_within x1684 0 999 _ hq (HX c1688.2 T)) ?_
        show ai_ev D1 mf_lies 39 [some (.ref 0), some (.int x1681), some (.int x1682), some (.int x1683), some (.int x1684), some (.int x1685), none, none, none, none] [.int c1692] (HX c1688.2 T) 0 0 _
        rcases ai_ifE h with ⟨hc, h⟩ | ⟨hc, h⟩
        · refine ev_if_eq (t := 52) rfl rfl (fun _ => ?_) (fun c9 => absurd hc c9)
          refine ev_go 2 (pc' := 55) (L' := [some (.ref 0), some (.int x1681), some (.int x1682), some (.int x1683), some (.int x1684), some (.int x1685), none, none, none, none]) (st' := [.int (-10), .ref 0]) (h' := (HX c1688.2 T)) (cs' := 0) (sl' := 0) rfl ?_
          obtain ⟨c1693, hq, h⟩ := ai_bdE h
          refine ev_call (M' := mf_bad) (L' := [some (.ref 0), some (.int (-10))]) (rest := []) (rv := some (.int c1693.1)) (h' := (HX c1693.2 T)) rfl (Ef_bad_0 (-10) c1688.2 _ _ hq T) ?_
          show ai_ev D1 mf_lies 58 [some (.ref 0), some (.int x1681), some (.int x1682), some (.int x1683), some (.int x1684), some (.int x1685), none, none, none, none] [.int c1693.1] (HX c1693.2 T) 0 0 _
          obtain ⟨rfl, rfl⟩ := ai_smP h
          exact ev_end rfl
        · refine ev_if_eq (t := 52) rfl rfl (fun c9 => absurd c9 hc) (fun _ => ?_)
          refine ev_go 3 (pc' := 46) (L' := [some (.ref 0), some (.int x1681), some (.int x1682), some (.int x1683), some (.int x1684), some (.int x1685), none, none, none, none]) (st' := [.int 2, .int 0, .int x1685]) (h' := (HX c1688.2 T)) (cs' := 0) (sl' := 0) rfl ?_
          obtain ⟨c1694, hq, h⟩ := ai_bdE h
          refine ev_call (M' := mf_within) (L' := [some (.int x1685), some (.int 0), some (.int 2)]) (rest := []) (rv := some (.int c1694)) (h' := (HX c1688.2 T)) rfl (Ef_within x1685 0 2 _ hq (HX c1688.2 T)) ?_
          show ai_ev D1 mf_lies 49 [some (.ref 0), some (.int x1681), some (.int x1682), some (.int x1683), some (.int x1684), some (.int x1685), none, none, none, none] [.int c1694] (HX c1688.2 T) 0 0 _
          rcases ai_ifE h with ⟨hc, h⟩ | ⟨hc, h⟩
          · refine ev_if_ne (t := 59) rfl rfl (fun c9 => absurd hc c9) (fun _ => ?_)
            refine ev_go 2 (pc' := 55) (L' := [some (.ref 0), some (.int x1681), some (.int x1682), some (.int x1683), some (.int x1684), some (.int x1685), none, none, none, none]) (st' := [.int (-10), .ref 0]) (h' := (HX c1688.2 T)) (cs' := 0) (sl' := 0) rfl ?_
            obtain ⟨c1695, hq, h⟩ := ai_bdE h
            refine ev_call (M' := mf_bad) (L' := [some (.ref 0), some (.int (-10))]) (rest := []) (rv := some (.int c1695.1)) (h' := (HX c1695.2 T)) rfl (Ef_bad_0 (-10) c1688.2 _ _ hq T) ?_
            show ai_ev D1 mf_lies 58 [some (.ref 0), some (.int x1681), some (.int x1682), some (.int x1683), some (.int x1684), some (.int x1685), none, none, none, none] [.int c1695.1] (HX c1695.2 T) 0 0 _
            obtain ⟨rfl, rfl⟩ := ai_smP h
            exact ev_end rfl
          · refine ev_if_ne (t := 59) rfl rfl (fun _ => ?_) (fun c9 => absurd c9 hc)
            refine ev_go 8 (pc' := 71) (L' := [some (.ref 0), some (.int x1681), some (.int x1682), some (.int x1683), some (.int x1684), some (.int x1685), some (.int 0), some (.int (-1)), some (.int (-1)), some (.int 1)]) (st' := []) (h' := (HX c1688.2 T)) (cs' := 0) (sl' := 0) rfl ?_
            exact ih0 _ _ _ _ _ _ _ _ _ _ _ _ h T
set_option maxHeartbeats 40000000 in
set_option maxRecDepth 100000 in
theorem EGfall_driftFrom_81_1 : ∀ n : Nat, (∀ (y1719 : Int32) (y1720 : Int32) (y1721 : Int32) (w : WX) (r : Int32) (w' : WX), Gfall_driftFrom_81_1 n 0 y1719 y1720 y1721 0 w = some (r, w') → ∀ (T : ai_H) (o5 : Option Value), ai_ev D1 mfall_driftFrom 5 [some (.ref 81), some (.ref 1), some (.int y1719), some (.int y1720), some (.int y1721), o5] [] (HX w T) 0 0 (some (.int r), HX w' T)) ∧ (∀ (y1722 : Int32) (y1723 : Int32) (y1724 : Int32) (y1725 : Int32) (w : WX) (r : Int32) (w' : WX), Gfall_driftFrom_81_1 n 1 y1722 y1723 y1724 y1725 w = some (r, w') → ∀ (T : ai_H), ai_ev D1 mfall_driftFrom 14 [some (.ref 81), some (.ref 1), some (.int y1722), some (.int y1723), some (.int y1724), some (.int y1725)] [] (HX w T) 0 0 (some (.int r), HX w' T)) := by
  intro n
  induction n with
  | zero =>
    exact ⟨(fun _ _ _ _ _ _ h => by cases h), (fun _ _ _ _ _ _ _ h => by cases h)⟩
  | succ n ih =>
    obtain ⟨ih0, ih1⟩ := ih
    refine ⟨?_, ?_⟩
    · intro y1719 y1720 y1721 w r w' h T o5
      simp only [Gfall_driftFrom_81_1] at h
      refine ev_go 2 (pc' := 8) (L' := [some (.ref 81), some (.ref 1), some (.int y1719), some (.int y1720), some (.int y1721), o5]) (st' := [.int 4, .int y1721]) (h' := (HX w T)) (cs' := 0) (sl' := 0) rfl ?_
      rcases ai_ifE h with ⟨hc, h⟩ | ⟨hc, h⟩
      · refine ev_ic_ge (t := 61) rfl rfl (fun _ => ?_) (fun c9 => absurd hc c9)
        refine ev_go 1 (pc' := 62) (L' := [some (.ref 81), some (.ref 1), some (.int y1719), some (.int y1720), some (.int y1721), o5]) (st' := [.int y1720]) (h' := (HX w T)) (cs' := 0) (sl' := 0) rfl ?_
        obtain ⟨rfl, rfl⟩ := ai_smP h
        exact ev_end rfl
      · refine ev_ic_ge (t := 61) rfl rfl (fun c9 => absurd c9 hc) (fun _ => ?_)
        refine ev_go 2 (pc' := 14) (L' := [some (.ref 81), some (.ref 1), some (.int y1719), some (.int y1720), some (.int y1721), some (.int 0)]) (st' := []) (h' := (HX w T)) (cs' := 0) (sl' := 0) rfl ?_
        exact ih1 _ _ _ _ _ _ _ h T
    · intro y1722 y1723 y1724 y1725 w r w' h T
      simp only [Gfall_driftFrom_81_1] at h
      refine ev_go 4 (pc' := 22) (L' := [some (.ref 81), some (.ref 1), some (.int y1722), some (.int y1723), some (.int y1724), some (.int y1725)]) (st' := [.int y1724, .ref 82, .int y1725]) (h' := (HX w T)) (cs' := 0) (sl' := 0) rfl ?_
      obtain ⟨v1726, hq, h⟩ := ai_bdE h
      refine ev_iald rfl rfl hq ?_
      rcases ai_ifE h with ⟨hc, h⟩ | ⟨hc, h⟩
      · refine ev_ic_ge (t := 55) rfl rfl (fun _ => ?_) (fun c9 => absurd hc c9)
        refine ev_go 2 (pc' := 5) (L' := [some (.ref 81), some (.ref 1), some (.int y1722), some (.int y1723), some (.int (y1724 + 1)), some (.int y1725)]) (st' := []) (h' := (HX w T)) (cs' := 0) (sl' := 0) rfl ?_
        exact ih0 _ _ _ _ _ _ h T _
      · refine ev_ic_ge (t := 55) rfl rfl (fun c9 => absurd c9 hc) (fun _ => ?_)
        refine ev_go 9 (pc' := 40) (L' := [some (.ref 81), some (.ref 1), some (.int y1722), some (.int y1723), some (.int y1724), some (.int y1725)]) (st' := [.int y1724, .ref 3, .int y1723, .int ((a_s1_cells w) - 1), .int 0]) (h' := (HX w T)) (cs' := 0) (sl' := 0) rfl ?_
        obtain ⟨v1727, hq, h⟩ := ai_bdE h
        refine ev_iald rfl rfl hq ?_
        refine ev_go 6 (pc' := 14) (L' := [some (.ref 81), some (.ref 1), some (.int y1722), some (.int (if 0 < (if (y1723 + v1727) < ((a_s1_cells w) - 1) then (y1723 + v1727) else ((a_s1_cells w) - 1)) then (if (y1723 + v1727) < ((a_s1_cells w) - 1) then (y1723 + v1727) else ((a_s1_cells w) - 1)) else 0)), some (.int y1724), some (.int (y1725 + 1))]) (st' := []) (h' := (HX w T)) (cs' := 0) (sl' := 0) rfl ?_
        exact ih1 _ _ _ _ _ _ _ h T
set_option maxHeartbeats 40000000 in
set_option maxRecDepth 100000 in
theorem Efall_driftFrom_81_1 (n : Nat) (x1718 : Int32) (w : WX) (r : Int32) (w' : WX) (h : Ffall_driftFrom_81_1 n x1718 w = some (r, w')) (T : ai_H) : ai_ev D1 mfall_driftFrom 0 [some (.ref 81), some (.ref 1), some (.int x1718), none, none, none] [] (HX w T) 0 0 (some (.int r), HX w' T) := by
  unfold Ffall_driftFrom_81_1 at h
  obtain ⟨ih0, ih1⟩ := EGfall_driftFrom_81_1 n
  refine ev_go 4 (pc' := 5) (L' := [some (.ref 81), some (.ref 1), some (.int x1718), some (.int x1718), some (.int 0), none]) (st' := []) (h' := (HX w T)) (cs' := 0) (sl' := 0) rfl ?_
  exact ih0 _ _ _ _ _ _ h T _
set_option maxHeartbeats 40000000 in
set_option maxRecDepth 100000 in
theorem EGf_wentIn_0 : ∀ n : Nat, (∀ (y1713 : Int32) (y1714 : Int32) (y1715 : Int32) (y1716 : Int32) (w : WX) (r : Int32) (w' : WX), Gf_wentIn_0 n 0 y1713 y1714 y1715 y1716 w = some (r, w') → ∀ (T : ai_H), ai_ev D1 mf_wentIn 37 [some (.ref 0), some (.int y1713), some (.int y1714), some (.int y1715), some (.int y1716)] [] (HX w T) 0 0 (some (.int r), HX w' T)) := by
  intro n
  induction n with
  | zero =>
    exact (fun _ _ _ _ _ _ _ h => by cases h)
  | succ n ih0 =>
    intro y1713 y1714 y1715 y1716 w r w' h T
    simp only [Gf_wentIn_0] at h
    refine ev_go 4 (pc' := 46) (L' := [some (.ref 0), some (.int y1713), some (.int y1714), some (.int y1715), some (.int y1716)]) (st' := [.int (a_s1_cells w), .int y1716]) (h' := (HX w T)) (cs' := 0) (sl' := 0) rfl ?_
    rcases ai_ifE h with ⟨hc, h⟩ | ⟨hc, h⟩
    · refine ev_ic_ge (t := 87) rfl rfl (fun _ => ?_) (fun c9 => absurd hc c9)
      refine ev_go 1 (pc' := 88) (L' := [some (.ref 0), some (.int y1713), some (.int y1714), some (.int y1715), some (.int y1716)]) (st' := [.int y1715]) (h' := (HX w T)) (cs' := 0) (sl' := 0) rfl ?_
      obtain ⟨rfl, rfl⟩ := ai_smP h
      exact ev_end rfl
    · refine ev_ic_ge (t := 87) rfl rfl (fun c9 => absurd c9 hc) (fun _ => ?_)
      refine ev_go 4 (pc' := 54) (L' := [some (.ref 0), some (.int y1713), some (.int y1714), some (.int y1715), some (.int y1716)]) (st' := [.int 0, .int y1716, .int y1713, .ref 0]) (h' := (HX w T)) (cs' := 0) (sl' := 0) rfl ?_
      obtain ⟨c1717, hq, h⟩ := ai_bdE h
      refine ev_call (M' := mf_letGoNow) (L' := [some (.ref 0), some (.int y1713), some (.int y1716), some (.int 0)]) (rest := []) (rv := none) (h' := (HX c1717 T)) rfl (Ef_letGoNow_0 n y1713 y1716 0 w _ hq T) ?_
      show ai_ev D1 mf_wentIn 57 [some (.ref 0), some (.int y1713), some (.int y1714), some (.int y1715), some (.int y1716)] [] (HX c1717 T) 0 0 _
      refine ev_go 5 (pc' := 67) (L' := [some (.ref 0), some (.int y1713), some (.int y1714), some (.int y1715), some (.int y1716)]) (st' := [.int y1716, .ref 1, .ref 81]) (h' := (HX c1717 T)) (cs' := 0) (sl' := 0) rfl ?_
      obtain ⟨c1728, hq, h⟩ := ai_bdE h
      refine ev_call (M' := mfall_driftFrom) (L' := [some (.ref 81), some (.ref 1), some (.int y1716), none, none, none]) (rest := []) (rv := some (.int c1728.1)) (h' := (HX c1728.2 T)) rfl (Efall_driftFrom_81_1 n y1716 c1717 _ _ hq T) ?_
      show ai_ev D1 mf_wentIn 70 [some (.ref 0), some (.int y1713), some (.int y1714), some (.int y1715), some (.int y1716)] [.int c1728.1] (HX c1728.2 T) 0 0 _
      refine ev_go 1 (pc' := 71) (L' := [some (.ref 0), some (.int y1713), some (.int y1714), some (.int y1715), some (.int y1716)]) (st' := [.int y1714, .int c1728.1]) (h' := (HX c1728.2 T)) (cs' := 0) (sl' := 0) rfl ?_
      rcases ai_ifE h with ⟨hc, h⟩ | ⟨hc, h⟩
      · refine ev_ic_ne (t := 81) rfl rfl (fun c9 => absurd hc c9) (fun _ => ?_)
        refine ev_go 8 (pc' := 37) (L' := [some (.ref 0), some (.int y1713), some (.int y1714), some (.int (y1715 ||| (1 <<< (y1716 &&& 31)))), some (.int (y1716 + 1))]) (st' := []) (h' := (HX c1728.2 T)) (cs' := 0) (sl' := 0) rfl ?_
        exact ih0 _ _ _ _ _ _ _ h T
      · refine ev_ic_ne (t := 81) rfl rfl (fun _ => ?_) (fun c9 => absurd c9 hc)
        refine ev_go 2 (pc' := 37) (L' := [some (.ref 0), some (.int y1713), some (.int y1714), some (.int y1715), some (.int (y1716 + 1))]) (st' := []) (h' := (HX c1728.2 T)) (cs' := 0) (sl' := 0) rfl ?_
        exact ih0 _ _ _ _ _ _ _ h T
set_option maxHeartbeats 40000000 in
set_option maxRecDepth 100000 in
theorem Ef_wentIn_0 (n : Nat) (x1707 : Int32) (x1708 : Int32) (w : WX) (r : Int32) (w' : WX) (h : Ff_wentIn_0 n x1707 x1708 w = some (r, w')) (T : ai_H) : ai_ev D1 mf_wentIn 0 [some (.ref 0), some (.int x1707), some (.int x1708), none, none] [] (HX w T) 0 0 (some (.int r), HX w' T) := by
  unfold Ff_wentIn_0 at h
  have ih0 := EGf_wentIn_0 n
  refine ev_go 4 (pc' := 8) (L' := [some (.ref 0), some (.int x1707), some (.int x1708), none, none]) (st' := [.int x1707, .ref 7]) (h' := (HX w T)) (cs' := 0) (sl' := 0) rfl ?_
  obtain ⟨c1709, hq, h⟩ := ai_bdE h
  refine ev_call (M' := mthg_has) (L' := [some (.ref 7), some (.int x1707)]) (rest := []) (rv := some (.int c1709.1)) (h' := (HX c1709.2 T)) rfl (Ethg_has_7 x1707 w _ _ hq T) ?_
  show ai_ev D1 mf_wentIn 11 [some (.ref 0), some (.int x1707), some (.int x1708), none, none] [.int c1709.1] (HX c1709.2 T) 0 0 _
  rcases ai_ifE h with ⟨hc, h⟩ | ⟨hc, h⟩
  · refine ev_if_eq (t := 25) rfl rfl (fun _ => ?_) (fun c9 => absurd hc c9)
    refine ev_go 2 (pc' := 28) (L' := [some (.ref 0), some (.int x1707), some (.int x1708), none, none]) (st' := [.int (-2), .ref 0]) (h' := (HX c1709.2 T)) (cs' := 0) (sl' := 0) rfl ?_
    obtain ⟨c1710, hq, h⟩ := ai_bdE h
    refine ev_call (M' := mf_bad) (L' := [some (.ref 0), some (.int (-2))]) (rest := []) (rv := some (.int c1710.1)) (h' := (HX c1710.2 T)) rfl (Ef_bad_0 (-2) c1709.2 _ _ hq T) ?_
    show ai_ev D1 mf_wentIn 31 [some (.ref 0), some (.int x1707), some (.int x1708), none, none] [.int c1710.1] (HX c1710.2 T) 0 0 _
    obtain ⟨rfl, rfl⟩ := ai_smP h
    exact ev_end rfl
  · refine ev_if_eq (t := 25) rfl rfl (fun c9 => absurd c9 hc) (fun _ => ?_)
    refine ev_go 3 (pc' := 19) (L' := [some (.ref 0), some (.int x1707), some (.int x1708), none, none]) (st' := [.int x1708, .ref 1]) (h' := (HX c1709.2 T)) (cs' := 0) (sl' := 0) rfl ?_
    obtain ⟨c1711, hq, h⟩ := ai_bdE h
    refine ev_call (M' := msea_hasCell) (L' := [some (.ref 1), some (.int x1708)]) (rest := []) (rv := some (.int c1711.1)) (h' := (HX c1711.2 T)) rfl (Esea_hasCell_1 x1708 c1709.2 _ _ hq T) ?_
    show ai_ev D1 mf_wentIn 22 [some (.ref 0), some (.int x1707), some (.int x1708), none, none] [.int c1711.1] (HX c1711.2 T) 0 0 _
    rcases ai_ifE h with ⟨hc, h⟩ | ⟨hc, h⟩
    · refine ev_if_ne (t := 32) rfl rfl (fun c9 => absurd hc c9) (fun _ => ?_)
      refine ev_go 2 (pc' := 28) (L' := [some (.ref 0), some (.int x1707), some (.int x1708), none, none]) (st' := [.int (-2), .ref 0]) (h' := (HX c1711.2 T)) (cs' := 0) (sl' := 0) rfl ?_
      obtain ⟨c1712, hq, h⟩ := ai_bdE h
      refine ev_call (M' := mf_bad) (L' := [some (.ref 0), some (.int (-2))]) (rest := []) (rv := some (.int c1712.1)) (h' := (HX c1712.2 T)) rfl (Ef_bad_0 (-2) c1711.2 _ _ hq T) ?_
      show ai_ev D1 mf_wentIn 31 [some (.ref 0), some (.int x1707), some (.int x1708), none, none] [.int c1712.1] (HX c1712.2 T) 0 0 _
      obtain ⟨rfl, rfl⟩ := ai_smP h
      exact ev_end rfl
    · refine ev_if_ne (t := 32) rfl rfl (fun _ => ?_) (fun c9 => absurd c9 hc)
      refine ev_go 4 (pc' := 37) (L' := [some (.ref 0), some (.int x1707), some (.int x1708), some (.int 0), some (.int 0)]) (st' := []) (h' := (HX c1711.2 T)) (cs' := 0) (sl' := 0) rfl ?_
      exact ih0 _ _ _ _ _ _ _ h T
set_option maxHeartbeats 40000000 in
set_option maxRecDepth 100000 in
theorem EGf_areFish_0 : ∀ n : Nat, (∀ (y1736 : Int32) (y1737 : Int32) (w : WX) (r : Int32) (w' : WX), Gf_areFish_0 n 0 y1736 y1737 w = some (r, w') → ∀ (T : ai_H), ai_ev D1 mf_areFish 26 [some (.ref 0), some (.int y1736), some (.int y1737)] [] (HX w T) 0 0 (some (.int r), HX w' T)) := by
  intro n
  induction n with
  | zero =>
    exact (fun _ _ _ _ _ h => by cases h)
  | succ n ih0 =>
    intro y1736 y1737 w r w' h T
    simp only [Gf_areFish_0] at h
    refine ev_go 5 (pc' := 37) (L' := [some (.ref 0), some (.int y1736), some (.int y1737)]) (st' := [.int (a_s1things_count w), .int y1737]) (h' := (HX w T)) (cs' := 0) (sl' := 0) rfl ?_
    rcases ai_ifE h with ⟨hc, h⟩ | ⟨hc, h⟩
    · refine ev_ic_ge (t := 73) rfl rfl (fun _ => ?_) (fun c9 => absurd hc c9)
      refine ev_go 1 (pc' := 74) (L' := [some (.ref 0), some (.int y1736), some (.int y1737)]) (st' := [.int 1]) (h' := (HX w T)) (cs' := 0) (sl' := 0) rfl ?_
      obtain ⟨rfl, rfl⟩ := ai_smP h
      exact ev_end rfl
    · refine ev_ic_ge (t := 73) rfl rfl (fun c9 => absurd c9 hc) (fun _ => ?_)
      refine ev_go 6 (pc' := 46) (L' := [some (.ref 0), some (.int y1736), some (.int y1737)]) (st' := [.int 1, .int ((y1736 >>> (y1737 &&& 31)) &&& 1)]) (h' := (HX w T)) (cs' := 0) (sl' := 0) rfl ?_
      rcases ai_ifE h with ⟨hc, h⟩ | ⟨hc, h⟩
      · refine ev_ic_ne (t := 67) rfl rfl (fun c9 => absurd hc c9) (fun _ => ?_)
        refine ev_go 5 (pc' := 60) (L' := [some (.ref 0), some (.int y1736), some (.int y1737)]) (st' := [.int y1737, .ref 8]) (h' := (HX w T)) (cs' := 0) (sl' := 0) rfl ?_
        obtain ⟨v1738, hq, h⟩ := ai_bdE h
        refine ev_iald rfl rfl hq ?_
        refine ev_go 1 (pc' := 62) (L' := [some (.ref 0), some (.int y1736), some (.int y1737)]) (st' := [.int 5, .int v1738]) (h' := (HX w T)) (cs' := 0) (sl' := 0) rfl ?_
        rcases ai_ifE h with ⟨hc, h⟩ | ⟨hc, h⟩
        · refine ev_ic_eq (t := 67) rfl rfl (fun _ => ?_) (fun c9 => absurd hc c9)
          refine ev_go 2 (pc' := 26) (L' := [some (.ref 0), some (.int y1736), some (.int (y1737 + 1))]) (st' := []) (h' := (HX w T)) (cs' := 0) (sl' := 0) rfl ?_
          exact ih0 _ _ _ _ _ h T
        · refine ev_ic_eq (t := 67) rfl rfl (fun c9 => absurd c9 hc) (fun _ => ?_)
          refine ev_go 1 (pc' := 66) (L' := [some (.ref 0), some (.int y1736), some (.int y1737)]) (st' := [.int 0]) (h' := (HX w T)) (cs' := 0) (sl' := 0) rfl ?_
          obtain ⟨rfl, rfl⟩ := ai_smP h
          exact ev_end rfl
      · refine ev_ic_ne (t := 67) rfl rfl (fun _ => ?_) (fun c9 => absurd c9 hc)
        refine ev_go 2 (pc' := 26) (L' := [some (.ref 0), some (.int y1736), some (.int (y1737 + 1))]) (st' := []) (h' := (HX w T)) (cs' := 0) (sl' := 0) rfl ?_
        exact ih0 _ _ _ _ _ h T
set_option maxHeartbeats 40000000 in
set_option maxRecDepth 100000 in
theorem Ef_areFish_0 (n : Nat) (x1734 : Int32) (w : WX) (r : Int32) (w' : WX) (h : Ff_areFish_0 n x1734 w = some (r, w')) (T : ai_H) : ai_ev D1 mf_areFish 0 [some (.ref 0), some (.int x1734), none] [] (HX w T) 0 0 (some (.int r), HX w' T) := by
  unfold Ff_areFish_0 at h
  have ih0 := EGf_areFish_0 n
  refine ev_go 10 (pc' := 16) (L' := [some (.ref 0), some (.int x1734), none]) (st' := [.int ((1 <<< ((a_s1things_count w) &&& 31)) - 1), .int 0, .int x1734]) (h' := (HX w T)) (cs' := 0) (sl' := 0) rfl ?_
  obtain ⟨c1735, hq, h⟩ := ai_bdE h
  refine ev_call (M' := mf_within) (L' := [some (.int x1734), some (.int 0), some (.int ((1 <<< ((a_s1things_count w) &&& 31)) - 1))]) (rest := []) (rv := some (.int c1735)) (h' := (HX w T)) rfl (Ef_within x1734 0 ((1 <<< ((a_s1things_count w) &&& 31)) - 1) _ hq (HX w T)) ?_
  show ai_ev D1 mf_areFish 19 [some (.ref 0), some (.int x1734), none] [.int c1735] (HX w T) 0 0 _
  rcases ai_ifE h with ⟨hc, h⟩ | ⟨hc, h⟩
  · refine ev_if_ne (t := 24) rfl rfl (fun c9 => absurd hc c9) (fun _ => ?_)
    refine ev_go 1 (pc' := 23) (L' := [some (.ref 0), some (.int x1734), none]) (st' := [.int 0]) (h' := (HX w T)) (cs' := 0) (sl' := 0) rfl ?_
    obtain ⟨rfl, rfl⟩ := ai_smP h
    exact ev_end rfl
  · refine ev_if_ne (t := 24) rfl rfl (fun _ => ?_) (fun c9 => absurd c9 hc)
    refine ev_go 2 (pc' := 26) (L' := [some (.ref 0), some (.int x1734), some (.int 0)]) (st' := []) (h' := (HX w T)) (cs' := 0) (sl' := 0) rfl ?_
    exact ih0 _ _ _ _ _ h T
set_option maxHeartbeats 40000000 in
set_option maxRecDepth 100000 in
theorem EGf_fillDowns_0 : ∀ n : Nat, (∀ (y1743 : Int32) (y1744 : Int32) (w : WX) (w' : WX), Gf_fillDowns_0 n 0 y1743 y1744 w = some w' → ∀ (T : ai_H), ai_ev D1 mf_fillDowns 2 [some (.ref 0), some (.int y1743), some (.int y1744)] [] (HX w T) 0 0 (none, HX w' T)) := by
  intro n
  induction n with
  | zero =>
    exact (fun _ _ _ _ h => by cases h)
  | succ n ih0 =>
    intro y1743 y1744 w w' h T
    simp only [Gf_fillDowns_0] at h
    refine ev_go 5 (pc' := 13) (L' := [some (.ref 0), some (.int y1743), some (.int y1744)]) (st' := [.int (a_s1things_count w), .int y1744]) (h' := (HX w T)) (cs' := 0) (sl' := 0) rfl ?_
    rcases ai_ifE h with ⟨hc, h⟩ | ⟨hc, h⟩
    · refine ev_ic_ge (t := 65) rfl rfl (fun _ => ?_) (fun c9 => absurd hc c9)
      obtain rfl := Option.some.inj h
      exact ev_end rfl
    · refine ev_ic_ge (t := 65) rfl rfl (fun c9 => absurd c9 hc) (fun _ => ?_)
      refine ev_go 4 (pc' := 22) (L' := [some (.ref 0), some (.int y1743), some (.int y1744)]) (st' := [.int (-1), .int y1744, .ref 88]) (h' := (HX w T)) (cs' := 0) (sl' := 0) rfl ?_
      obtain ⟨q1745, hq, h⟩ := ai_bdE h
      refine ev_iast rfl rfl hq ?_
      rw [HXs_88]
      refine ev_go 5 (pc' := 34) (L' := [some (.ref 0), some (.int y1743), some (.int y1744)]) (st' := [.int y1744, .ref 8]) (h' := (HX (u_f_downs w q1745) T)) (cs' := 0) (sl' := 0) rfl ?_
      obtain ⟨v1746, hq, h⟩ := ai_bdE h
      refine ev_iald rfl rfl hq ?_
      refine ev_go 1 (pc' := 36) (L' := [some (.ref 0), some (.int y1743), some (.int y1744)]) (st' := [.int 5, .int v1746]) (h' := (HX (u_f_downs w q1745) T)) (cs' := 0) (sl' := 0) rfl ?_
      rcases ai_ifE h with ⟨hc, h⟩ | ⟨hc, h⟩
      · refine ev_ic_ne (t := 59) rfl rfl (fun c9 => absurd hc c9) (fun _ => ?_)
        refine ev_go 4 (pc' := 43) (L' := [some (.ref 0), some (.int y1743), some (.int y1744)]) (st' := [.int 0, .int y1743, .int y1744, .ref 0]) (h' := (HX (u_f_downs w q1745) T)) (cs' := 0) (sl' := 0) rfl ?_
        obtain ⟨c1747, hq, h⟩ := ai_bdE h
        refine ev_call (M' := mf_letGoNow) (L' := [some (.ref 0), some (.int y1744), some (.int y1743), some (.int 0)]) (rest := []) (rv := none) (h' := (HX c1747 T)) rfl (Ef_letGoNow_0 n y1744 y1743 0 (u_f_downs w q1745) _ hq T) ?_
        show ai_ev D1 mf_fillDowns 46 [some (.ref 0), some (.int y1743), some (.int y1744)] [] (HX c1747 T) 0 0 _
        refine ev_go 6 (pc' := 58) (L' := [some (.ref 0), some (.int y1743), some (.int y1744)]) (st' := [.int (a_fall_down c1747), .int y1744, .ref 88]) (h' := (HX c1747 T)) (cs' := 0) (sl' := 0) rfl ?_
        obtain ⟨q1748, hq, h⟩ := ai_bdE h
        refine ev_iast rfl rfl hq ?_
        rw [HXs_88]
        refine ev_go 2 (pc' := 2) (L' := [some (.ref 0), some (.int y1743), some (.int (y1744 + 1))]) (st' := []) (h' := (HX (u_f_downs c1747 q1748) T)) (cs' := 0) (sl' := 0) rfl ?_
        exact ih0 _ _ _ _ h T
      · refine ev_ic_ne (t := 59) rfl rfl (fun _ => ?_) (fun c9 => absurd c9 hc)
        refine ev_go 2 (pc' := 2) (L' := [some (.ref 0), some (.int y1743), some (.int (y1744 + 1))]) (st' := []) (h' := (HX (u_f_downs w q1745) T)) (cs' := 0) (sl' := 0) rfl ?_
        exact ih0 _ _ _ _ h T
set_option maxHeartbeats 40000000 in
set_option maxRecDepth 100000 in
theorem Ef_fillDowns_0 (n : Nat) (x1742 : Int32) (w : WX) (w' : WX) (h : Ff_fillDowns_0 n x1742 w = some w') (T : ai_H) : ai_ev D1 mf_fillDowns 0 [some (.ref 0), some (.int x1742), none] [] (HX w T) 0 0 (none, HX w' T) := by
  unfold Ff_fillDowns_0 at h
  have ih0 := EGf_fillDowns_0 n
  refine ev_go 2 (pc' := 2) (L' := [some (.ref 0), some (.int x1742), some (.int 0)]) (st' := []) (h' := (HX w T)) (cs' := 0) (sl' := 0) rfl ?_
  exact ih0 _ _ _ _ h T
set_option maxHeartbeats 40000000 in
set_option maxRecDepth 100000 in
theorem EGf_caught_0 : ∀ n : Nat, (∀ (y1766 : Int32) (y1767 : Int32) (y1768 : Int32) (y1769 : Int32) (w : WX) (r : Int32) (w' : WX), Gf_caught_0 n 0 y1766 y1767 y1768 y1769 w = some (r, w') → ∀ (T : ai_H), ai_ev D1 mf_caught 5 [some (.ref 0), some (.int y1766), some (.int y1767), some (.int y1768), some (.int y1769)] [] (HX w T) 0 0 (some (.int r), HX w' T)) := by
  intro n
  induction n with
  | zero =>
    exact (fun _ _ _ _ _ _ _ h => by cases h)
  | succ n ih0 =>
    intro y1766 y1767 y1768 y1769 w r w' h T
    simp only [Gf_caught_0] at h
    refine ev_go 5 (pc' := 17) (L' := [some (.ref 0), some (.int y1766), some (.int y1767), some (.int y1768), some (.int y1769)]) (st' := [.int (a_s1things_count w), .int y1769]) (h' := (HX w T)) (cs' := 0) (sl' := 0) rfl ?_
    rcases ai_ifE h with ⟨hc, h⟩ | ⟨hc, h⟩
    · refine ev_ic_ge (t := 48) rfl rfl (fun _ => ?_) (fun c9 => absurd hc c9)
      refine ev_go 1 (pc' := 49) (L' := [some (.ref 0), some (.int y1766), some (.int y1767), some (.int y1768), some (.int y1769)]) (st' := [.int y1768]) (h' := (HX w T)) (cs' := 0) (sl' := 0) rfl ?_
      obtain ⟨rfl, rfl⟩ := ai_smP h
      exact ev_end rfl
    · refine ev_ic_ge (t := 48) rfl rfl (fun c9 => absurd c9 hc) (fun _ => ?_)
      refine ev_go 3 (pc' := 26) (L' := [some (.ref 0), some (.int y1766), some (.int y1767), some (.int y1768), some (.int y1769)]) (st' := [.int y1769, .ref 88]) (h' := (HX w T)) (cs' := 0) (sl' := 0) rfl ?_
      obtain ⟨v1770, hq, h⟩ := ai_bdE h
      refine ev_iald rfl rfl hq ?_
      refine ev_go 2 (pc' := 29) (L' := [some (.ref 0), some (.int y1766), some (.int y1767), some (.int y1768), some (.int y1769)]) (st' := [.int y1767, .int y1766, .int v1770]) (h' := (HX w T)) (cs' := 0) (sl' := 0) rfl ?_
      obtain ⟨c1771, hq, h⟩ := ai_bdE h
      refine ev_call (M' := mf_within) (L' := [some (.int v1770), some (.int y1766), some (.int y1767)]) (rest := []) (rv := some (.int c1771)) (h' := (HX w T)) rfl (Ef_within v1770 y1766 y1767 _ hq (HX w T)) ?_
      show ai_ev D1 mf_caught 32 [some (.ref 0), some (.int y1766), some (.int y1767), some (.int y1768), some (.int y1769)] [.int c1771] (HX w T) 0 0 _
      rcases ai_ifE h with ⟨hc, h⟩ | ⟨hc, h⟩
      · refine ev_if_eq (t := 42) rfl rfl (fun _ => ?_) (fun c9 => absurd hc c9)
        refine ev_go 2 (pc' := 5) (L' := [some (.ref 0), some (.int y1766), some (.int y1767), some (.int y1768), some (.int (y1769 + 1))]) (st' := []) (h' := (HX w T)) (cs' := 0) (sl' := 0) rfl ?_
        exact ih0 _ _ _ _ _ _ _ h T
      · refine ev_if_eq (t := 42) rfl rfl (fun c9 => absurd c9 hc) (fun _ => ?_)
        refine ev_go 8 (pc' := 5) (L' := [some (.ref 0), some (.int y1766), some (.int y1767), some (.int (y1768 ||| (1 <<< (y1769 &&& 31)))), some (.int (y1769 + 1))]) (st' := []) (h' := (HX w T)) (cs' := 0) (sl' := 0) rfl ?_
        exact ih0 _ _ _ _ _ _ _ h T
set_option maxHeartbeats 40000000 in
set_option maxRecDepth 100000 in
theorem Ef_caught_0 (n : Nat) (x1764 : Int32) (x1765 : Int32) (w : WX) (r : Int32) (w' : WX) (h : Ff_caught_0 n x1764 x1765 w = some (r, w')) (T : ai_H) : ai_ev D1 mf_caught 0 [some (.ref 0), some (.int x1764), some (.int x1765), none, none] [] (HX w T) 0 0 (some (.int r), HX w' T) := by
  unfold Ff_caught_0 at h
  have ih0 := EGf_caught_0 n
  refine ev_go 4 (pc' := 5) (L' := [some (.ref 0), some (.int x1764), some (.int x1765), some (.int 0), some (.int 0)]) (st' := []) (h' := (HX w T)) (cs' := 0) (sl' := 0) rfl ?_
  exact ih0 _ _ _ _ _ _ _ h T
set_option maxHeartbeats 40000000 in
set_option maxRecDepth 100000 in
theorem EGf_nets_0 : ∀ n : Nat, (∀ (y1751 : Int32) (y1752 : Int32) (y1753 : Int32) (y1754 : Int32) (y1755 : Int32) (y1756 : Int32) (w : WX) (r : Int32) (w' : WX), Gf_nets_0 n 0 y1751 y1752 y1753 y1754 y1755 y1756 0 w = some (r, w') → ∀ (T : ai_H) (o7 : Option Value), ai_ev D1 mf_nets 49 [some (.ref 0), some (.int y1751), some (.int y1752), some (.int y1753), some (.int y1754), some (.int y1755), some (.int y1756), o7] [] (HX w T) 0 0 (some (.int r), HX w' T)) ∧ (∀ (y1757 : Int32) (y1758 : Int32) (y1759 : Int32) (y1760 : Int32) (y1761 : Int32) (y1762 : Int32) (y1763 : Int32) (w : WX) (r : Int32) (w' : WX), Gf_nets_0 n 1 y1757 y1758 y1759 y1760 y1761 y1762 y1763 w = some (r, w') → ∀ (T : ai_H), ai_ev D1 mf_nets 60 [some (.ref 0), some (.int y1757), some (.int y1758), some (.int y1759), some (.int y1760), some (.int y1761), some (.int y1762), some (.int y1763)] [] (HX w T) 0 0 (some (.int r), HX w' T)) := by
  intro n
  induction n with
  | zero =>
    exact ⟨(fun _ _ _ _ _ _ _ _ _ h => by cases h), (fun _ _ _ _ _ _ _ _ _ _ h => by cases h)⟩
  | succ n ih =>
    obtain ⟨ih0, ih1⟩ := ih
    refine ⟨?_, ?_⟩
    · intro y1751 y1752 y1753 y1754 y1755 y1756 w r w' h T o7
      simp only [Gf_nets_0] at h
      refine ev_go 2 (pc' := 53) (L' := [some (.ref 0), some (.int y1751), some (.int y1752), some (.int y1753), some (.int y1754), some (.int y1755), some (.int y1756), o7]) (st' := [.int 60, .int y1756]) (h' := (HX w T)) (cs' := 0) (sl' := 0) rfl ?_
      rcases ai_ifE h with ⟨hc, h⟩ | ⟨hc, h⟩
      · refine ev_ic_gt (t := 115) rfl rfl (fun _ => ?_) (fun c9 => absurd hc c9)
        refine ev_go 1 (pc' := 116) (L' := [some (.ref 0), some (.int y1751), some (.int y1752), some (.int y1753), some (.int y1754), some (.int y1755), some (.int y1756), o7]) (st' := [.int y1753]) (h' := (HX w T)) (cs' := 0) (sl' := 0) rfl ?_
        rcases ai_ifE h with ⟨hc, h⟩ | ⟨hc, h⟩
        · refine ev_if_ne (t := 124) rfl rfl (fun c9 => absurd hc c9) (fun _ => ?_)
          refine ev_go 2 (pc' := 126) (L' := [some (.ref 0), some (.int y1751), some (.int y1752), some (.int y1753), some (.int y1754), some (.int y1755), some (.int y1756), o7]) (st' := [.int y1754]) (h' := (HX w T)) (cs' := 0) (sl' := 0) rfl ?_
          obtain ⟨rfl, rfl⟩ := ai_smP h
          exact ev_end rfl
        · refine ev_if_ne (t := 124) rfl rfl (fun _ => ?_) (fun c9 => absurd c9 hc)
          refine ev_go 1 (pc' := 126) (L' := [some (.ref 0), some (.int y1751), some (.int y1752), some (.int y1753), some (.int y1754), some (.int y1755), some (.int y1756), o7]) (st' := [.int y1755]) (h' := (HX w T)) (cs' := 0) (sl' := 0) rfl ?_
          obtain ⟨rfl, rfl⟩ := ai_smP h
          exact ev_end rfl
      · refine ev_ic_gt (t := 115) rfl rfl (fun c9 => absurd c9 hc) (fun _ => ?_)
        refine ev_go 2 (pc' := 60) (L' := [some (.ref 0), some (.int y1751), some (.int y1752), some (.int y1753), some (.int y1754), some (.int y1755), some (.int y1756), some (.int y1756)]) (st' := []) (h' := (HX w T)) (cs' := 0) (sl' := 0) rfl ?_
        exact ih1 _ _ _ _ _ _ _ _ _ _ h T
    · intro y1757 y1758 y1759 y1760 y1761 y1762 y1763 w r w' h T
      simp only [Gf_nets_0] at h
      refine ev_go 2 (pc' := 64) (L' := [some (.ref 0), some (.int y1757), some (.int y1758), some (.int y1759), some (.int y1760), some (.int y1761), some (.int y1762), some (.int y1763)]) (st' := [.int 60, .int y1763]) (h' := (HX w T)) (cs' := 0) (sl' := 0) rfl ?_
      rcases ai_ifE h with ⟨hc, h⟩ | ⟨hc, h⟩
      · refine ev_ic_gt (t := 109) rfl rfl (fun _ => ?_) (fun c9 => absurd hc c9)
        refine ev_go 2 (pc' := 49) (L' := [some (.ref 0), some (.int y1757), some (.int y1758), some (.int y1759), some (.int y1760), some (.int y1761), some (.int (y1762 + 1)), some (.int y1763)]) (st' := []) (h' := (HX w T)) (cs' := 0) (sl' := 0) rfl ?_
        exact ih0 _ _ _ _ _ _ _ _ _ h T _
      · refine ev_ic_gt (t := 109) rfl rfl (fun c9 => absurd c9 hc) (fun _ => ?_)
        refine ev_go 3 (pc' := 72) (L' := [some (.ref 0), some (.int y1757), some (.int y1758), some (.int y1759), some (.int y1760), some (.int y1761), some (.int y1762), some (.int y1763)]) (st' := [.int y1763, .int y1762, .ref 0]) (h' := (HX w T)) (cs' := 0) (sl' := 0) rfl ?_
        obtain ⟨c1772, hq, h⟩ := ai_bdE h
        refine ev_call (M' := mf_caught) (L' := [some (.ref 0), some (.int y1762), some (.int y1763), none, none]) (rest := []) (rv := some (.int c1772.1)) (h' := (HX c1772.2 T)) rfl (Ef_caught_0 n y1762 y1763 w _ _ hq T) ?_
        show ai_ev D1 mf_nets 75 [some (.ref 0), some (.int y1757), some (.int y1758), some (.int y1759), some (.int y1760), some (.int y1761), some (.int y1762), some (.int y1763)] [.int c1772.1] (HX c1772.2 T) 0 0 _
        refine ev_go 1 (pc' := 76) (L' := [some (.ref 0), some (.int y1757), some (.int y1758), some (.int y1759), some (.int y1760), some (.int y1761), some (.int y1762), some (.int y1763)]) (st' := [.int y1758, .int c1772.1]) (h' := (HX c1772.2 T)) (cs' := 0) (sl' := 0) rfl ?_
        rcases ai_ifE h with ⟨hc, h⟩ | ⟨hc, h⟩
        · refine ev_ic_ne (t := 103) rfl rfl (fun c9 => absurd hc c9) (fun _ => ?_)
          refine ev_go 3 (pc' := 85) (L' := [some (.ref 0), some (.int y1757), some (.int y1758), some (.int y1759), some (.int (y1760 + 1)), some (.int y1761), some (.int y1762), some (.int y1763)]) (st' := [.int (-1), .int y1761]) (h' := (HX c1772.2 T)) (cs' := 0) (sl' := 0) rfl ?_
          rcases ai_ifE h with ⟨hc, h⟩ | ⟨hc, h⟩
          · refine ev_ic_ne (t := 99) rfl rfl (fun c9 => absurd hc c9) (fun _ => ?_)
            refine ev_go 9 (pc' := 60) (L' := [some (.ref 0), some (.int y1757), some (.int y1758), some (.int y1759), some (.int (y1760 + 1)), some (.int ((100 * y1762) + y1763)), some (.int y1762), some (.int (y1763 + 1))]) (st' := []) (h' := (HX c1772.2 T)) (cs' := 0) (sl' := 0) rfl ?_
            exact ih1 _ _ _ _ _ _ _ _ _ _ h T
          · refine ev_ic_ne (t := 99) rfl rfl (fun _ => ?_) (fun c9 => absurd c9 hc)
            refine ev_go 4 (pc' := 60) (L' := [some (.ref 0), some (.int y1757), some (.int y1758), some (.int y1759), some (.int (y1760 + 1)), some (.int y1761), some (.int y1762), some (.int (y1763 + 1))]) (st' := []) (h' := (HX c1772.2 T)) (cs' := 0) (sl' := 0) rfl ?_
            exact ih1 _ _ _ _ _ _ _ _ _ _ h T
        · refine ev_ic_ne (t := 103) rfl rfl (fun _ => ?_) (fun c9 => absurd c9 hc)
          refine ev_go 2 (pc' := 60) (L' := [some (.ref 0), some (.int y1757), some (.int y1758), some (.int y1759), some (.int y1760), some (.int y1761), some (.int y1762), some (.int (y1763 + 1))]) (st' := []) (h' := (HX c1772.2 T)) (cs' := 0) (sl' := 0) rfl ?_
          exact ih1 _ _ _ _ _ _ _ _ _ _ h T
set_option maxHeartbeats 40000000 in
set_option maxRecDepth 100000 in
theorem Ef_nets_0 (n : Nat) (x1729 : Int32) (x1730 : Int32) (x1731 : Int32) (w : WX) (r : Int32) (w' : WX) (h : Ff_nets_0 n x1729 x1730 x1731 w = some (r, w')) (T : ai_H) : ai_ev D1 mf_nets 0 [some (.ref 0), some (.int x1729), some (.int x1730), some (.int x1731), none, none, none, none] [] (HX w T) 0 0 (some (.int r), HX w' T) := by
  unfold Ff_nets_0 at h
  obtain ⟨ih0, ih1⟩ := EGf_nets_0 n
  refine ev_go 3 (pc' := 5) (L' := [some (.ref 0), some (.int x1729), some (.int x1730), some (.int x1731), none, none, none, none]) (st' := [.int x1729, .ref 1]) (h' := (HX w T)) (cs' := 0) (sl' := 0) rfl ?_
  obtain ⟨c1732, hq, h⟩ := ai_bdE h
  refine ev_call (M' := msea_hasCell) (L' := [some (.ref 1), some (.int x1729)]) (rest := []) (rv := some (.int c1732.1)) (h' := (HX c1732.2 T)) rfl (Esea_hasCell_1 x1729 w _ _ hq T) ?_
  show ai_ev D1 mf_nets 8 [some (.ref 0), some (.int x1729), some (.int x1730), some (.int x1731), none, none, none, none] [.int c1732.1] (HX c1732.2 T) 0 0 _
  rcases ai_ifE h with ⟨hc, h⟩ | ⟨hc, h⟩
  · refine ev_if_eq (t := 28) rfl rfl (fun _ => ?_) (fun c9 => absurd hc c9)
    refine ev_go 2 (pc' := 31) (L' := [some (.ref 0), some (.int x1729), some (.int x1730), some (.int x1731), none, none, none, none]) (st' := [.int (-10), .ref 0]) (h' := (HX c1732.2 T)) (cs' := 0) (sl' := 0) rfl ?_
    obtain ⟨c1733, hq, h⟩ := ai_bdE h
    refine ev_call (M' := mf_bad) (L' := [some (.ref 0), some (.int (-10))]) (rest := []) (rv := some (.int c1733.1)) (h' := (HX c1733.2 T)) rfl (Ef_bad_0 (-10) c1732.2 _ _ hq T) ?_
    show ai_ev D1 mf_nets 34 [some (.ref 0), some (.int x1729), some (.int x1730), some (.int x1731), none, none, none, none] [.int c1733.1] (HX c1733.2 T) 0 0 _
    obtain ⟨rfl, rfl⟩ := ai_smP h
    exact ev_end rfl
  · refine ev_if_eq (t := 28) rfl rfl (fun c9 => absurd c9 hc) (fun _ => ?_)
    refine ev_go 2 (pc' := 13) (L' := [some (.ref 0), some (.int x1729), some (.int x1730), some (.int x1731), none, none, none, none]) (st' := [.int x1730, .ref 0]) (h' := (HX c1732.2 T)) (cs' := 0) (sl' := 0) rfl ?_
    obtain ⟨c1739, hq, h⟩ := ai_bdE h
    refine ev_call (M' := mf_areFish) (L' := [some (.ref 0), some (.int x1730), none]) (rest := []) (rv := some (.int c1739.1)) (h' := (HX c1739.2 T)) rfl (Ef_areFish_0 n x1730 c1732.2 _ _ hq T) ?_
    show ai_ev D1 mf_nets 16 [some (.ref 0), some (.int x1729), some (.int x1730), some (.int x1731), none, none, none, none] [.int c1739.1] (HX c1739.2 T) 0 0 _
    rcases ai_ifE h with ⟨hc, h⟩ | ⟨hc, h⟩
    · refine ev_if_eq (t := 28) rfl rfl (fun _ => ?_) (fun c9 => absurd hc c9)
      refine ev_go 2 (pc' := 31) (L' := [some (.ref 0), some (.int x1729), some (.int x1730), some (.int x1731), none, none, none, none]) (st' := [.int (-10), .ref 0]) (h' := (HX c1739.2 T)) (cs' := 0) (sl' := 0) rfl ?_
      obtain ⟨c1740, hq, h⟩ := ai_bdE h
      refine ev_call (M' := mf_bad) (L' := [some (.ref 0), some (.int (-10))]) (rest := []) (rv := some (.int c1740.1)) (h' := (HX c1740.2 T)) rfl (Ef_bad_0 (-10) c1739.2 _ _ hq T) ?_
      show ai_ev D1 mf_nets 34 [some (.ref 0), some (.int x1729), some (.int x1730), some (.int x1731), none, none, none, none] [.int c1740.1] (HX c1740.2 T) 0 0 _
      obtain ⟨rfl, rfl⟩ := ai_smP h
      exact ev_end rfl
    · refine ev_if_eq (t := 28) rfl rfl (fun c9 => absurd c9 hc) (fun _ => ?_)
      refine ev_go 3 (pc' := 22) (L' := [some (.ref 0), some (.int x1729), some (.int x1730), some (.int x1731), none, none, none, none]) (st' := [.int 1, .int 0, .int x1731]) (h' := (HX c1739.2 T)) (cs' := 0) (sl' := 0) rfl ?_
      obtain ⟨c1741, hq, h⟩ := ai_bdE h
      refine ev_call (M' := mf_within) (L' := [some (.int x1731), some (.int 0), some (.int 1)]) (rest := []) (rv := some (.int c1741)) (h' := (HX c1739.2 T)) rfl (Ef_within x1731 0 1 _ hq (HX c1739.2 T)) ?_
      show ai_ev D1 mf_nets 25 [some (.ref 0), some (.int x1729), some (.int x1730), some (.int x1731), none, none, none, none] [.int c1741] (HX c1739.2 T) 0 0 _
      rcases ai_ifE h with ⟨hc, h⟩ | ⟨hc, h⟩
      · refine ev_if_ne (t := 35) rfl rfl (fun c9 => absurd hc c9) (fun _ => ?_)
        refine ev_go 2 (pc' := 31) (L' := [some (.ref 0), some (.int x1729), some (.int x1730), some (.int x1731), none, none, none, none]) (st' := [.int (-10), .ref 0]) (h' := (HX c1739.2 T)) (cs' := 0) (sl' := 0) rfl ?_
        obtain ⟨c1750, hq, h⟩ := ai_bdE h
        refine ev_call (M' := mf_bad) (L' := [some (.ref 0), some (.int (-10))]) (rest := []) (rv := some (.int c1750.1)) (h' := (HX c1750.2 T)) rfl (Ef_bad_0 (-10) c1739.2 _ _ hq T) ?_
        show ai_ev D1 mf_nets 34 [some (.ref 0), some (.int x1729), some (.int x1730), some (.int x1731), none, none, none, none] [.int c1750.1] (HX c1750.2 T) 0 0 _
        obtain ⟨rfl, rfl⟩ := ai_smP h
        exact ev_end rfl
      · refine ev_if_ne (t := 35) rfl rfl (fun _ => ?_) (fun c9 => absurd c9 hc)
        refine ev_go 2 (pc' := 37) (L' := [some (.ref 0), some (.int x1729), some (.int x1730), some (.int x1731), none, none, none, none]) (st' := [.int x1729, .ref 0]) (h' := (HX c1739.2 T)) (cs' := 0) (sl' := 0) rfl ?_
        obtain ⟨c1749, hq, h⟩ := ai_bdE h
        refine ev_call (M' := mf_fillDowns) (L' := [some (.ref 0), some (.int x1729), none]) (rest := []) (rv := none) (h' := (HX c1749 T)) rfl (Ef_fillDowns_0 n x1729 c1739.2 _ hq T) ?_
        show ai_ev D1 mf_nets 40 [some (.ref 0), some (.int x1729), some (.int x1730), some (.int x1731), none, none, none, none] [] (HX c1749 T) 0 0 _
        refine ev_go 6 (pc' := 49) (L' := [some (.ref 0), some (.int x1729), some (.int x1730), some (.int x1731), some (.int 0), some (.int (-1)), some (.int 0), none]) (st' := []) (h' := (HX c1749 T)) (cs' := 0) (sl' := 0) rfl ?_
        exact ih0 _ _ _ _ _ _ _ _ _ h T _
