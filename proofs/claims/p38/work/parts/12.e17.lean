set_option maxHeartbeats 40000000 in
set_option maxRecDepth 100000 in
theorem EGfall_driftFrom_81_1 : ∀ n : Nat, (∀ (y1731 : Int32) (y1732 : Int32) (y1733 : Int32) (w : WX) (r : Int32) (w' : WX), Gfall_driftFrom_81_1 n 0 y1731 y1732 y1733 0 w = some (r, w') → ∀ (T : ai_H) (o5 : Option Value), ai_ev D1 mfall_driftFrom 5 [some (.ref 81), some (.ref 1), some (.int y1731), some (.int y1732), some (.int y1733), o5] [] (HX w T) 0 0 (some (.int r), HX w' T)) ∧ (∀ (y1734 : Int32) (y1735 : Int32) (y1736 : Int32) (y1737 : Int32) (w : WX) (r : Int32) (w' : WX), Gfall_driftFrom_81_1 n 1 y1734 y1735 y1736 y1737 w = some (r, w') → ∀ (T : ai_H), ai_ev D1 mfall_driftFrom 14 [some (.ref 81), some (.ref 1), some (.int y1734), some (.int y1735), some (.int y1736), some (.int y1737)] [] (HX w T) 0 0 (some (.int r), HX w' T)) := by
  intro n
  induction n with
  | zero =>
    exact ⟨(fun _ _ _ _ _ _ h => by cases h), (fun _ _ _ _ _ _ _ h => by cases h)⟩
  | succ n ih =>
    obtain ⟨ih0, ih1⟩ := ih
    refine ⟨?_, ?_⟩
    · intro y1731 y1732 y1733 w r w' h T o5
      simp only [Gfall_driftFrom_81_1] at h
      refine ev_go 2 (pc' := 8) (L' := [some (.ref 81), some (.ref 1), some (.int y1731), some (.int y1732), some (.int y1733), o5]) (st' := [.int 4, .int y1733]) (h' := (HX w T)) (cs' := 0) (sl' := 0) rfl ?_
      rcases ai_ifE h with ⟨hc, h⟩ | ⟨hc, h⟩
      · refine ev_ic_ge (t := 61) rfl rfl (fun _ => ?_) (fun c9 => absurd hc c9)
        refine ev_go 1 (pc' := 62) (L' := [some (.ref 81), some (.ref 1), some (.int y1731), some (.int y1732), some (.int y1733), o5]) (st' := [.int y1732]) (h' := (HX w T)) (cs' := 0) (sl' := 0) rfl ?_
        obtain ⟨rfl, rfl⟩ := ai_smP h
        exact ev_end rfl
      · refine ev_ic_ge (t := 61) rfl rfl (fun c9 => absurd c9 hc) (fun _ => ?_)
        refine ev_go 2 (pc' := 14) (L' := [some (.ref 81), some (.ref 1), some (.int y1731), some (.int y1732), some (.int y1733), some (.int 0)]) (st' := []) (h' := (HX w T)) (cs' := 0) (sl' := 0) rfl ?_
        exact ih1 _ _ _ _ _ _ _ h T
    · intro y1734 y1735 y1736 y1737 w r w' h T
      simp only [Gfall_driftFrom_81_1] at h
      refine ev_go 4 (pc' := 22) (L' := [some (.ref 81), some (.ref 1), some (.int y1734), some (.int y1735), some (.int y1736), some (.int y1737)]) (st' := [.int y1736, .ref 82, .int y1737]) (h' := (HX w T)) (cs' := 0) (sl' := 0) rfl ?_
      obtain ⟨v1738, hq, h⟩ := ai_bdE h
      refine ev_iald rfl rfl hq ?_
      rcases ai_ifE h with ⟨hc, h⟩ | ⟨hc, h⟩
      · refine ev_ic_ge (t := 55) rfl rfl (fun _ => ?_) (fun c9 => absurd hc c9)
        refine ev_go 2 (pc' := 5) (L' := [some (.ref 81), some (.ref 1), some (.int y1734), some (.int y1735), some (.int (y1736 + 1)), some (.int y1737)]) (st' := []) (h' := (HX w T)) (cs' := 0) (sl' := 0) rfl ?_
        exact ih0 _ _ _ _ _ _ h T _
      · refine ev_ic_ge (t := 55) rfl rfl (fun c9 => absurd c9 hc) (fun _ => ?_)
        refine ev_go 9 (pc' := 40) (L' := [some (.ref 81), some (.ref 1), some (.int y1734), some (.int y1735), some (.int y1736), some (.int y1737)]) (st' := [.int y1736, .ref 3, .int y1735, .int ((a_s1_cells w) - 1), .int 0]) (h' := (HX w T)) (cs' := 0) (sl' := 0) rfl ?_
        obtain ⟨v1739, hq, h⟩ := ai_bdE h
        refine ev_iald rfl rfl hq ?_
        refine ev_go 6 (pc' := 14) (L' := [some (.ref 81), some (.ref 1), some (.int y1734), some (.int (if 0 < (if (y1735 + v1739) < ((a_s1_cells w) - 1) then (y1735 + v1739) else ((a_s1_cells w) - 1)) then (if (y1735 + v1739) < ((a_s1_cells w) - 1) then (y1735 + v1739) else ((a_s1_cells w) - 1)) else 0)), some (.int y1736), some (.int (y1737 + 1))]) (st' := []) (h' := (HX w T)) (cs' := 0) (sl' := 0) rfl ?_
        exact ih1 _ _ _ _ _ _ _ h T
set_option maxHeartbeats 40000000 in
set_option maxRecDepth 100000 in
theorem Efall_driftFrom_81_1 (n : Nat) (x1730 : Int32) (w : WX) (r : Int32) (w' : WX) (h : Ffall_driftFrom_81_1 n x1730 w = some (r, w')) (T : ai_H) : ai_ev D1 mfall_driftFrom 0 [some (.ref 81), some (.ref 1), some (.int x1730), none, none, none] [] (HX w T) 0 0 (some (.int r), HX w' T) := by
  unfold Ffall_driftFrom_81_1 at h
  obtain ⟨ih0, ih1⟩ := EGfall_driftFrom_81_1 n
  refine ev_go 4 (pc' := 5) (L' := [some (.ref 81), some (.ref 1), some (.int x1730), some (.int x1730), some (.int 0), none]) (st' := []) (h' := (HX w T)) (cs' := 0) (sl' := 0) rfl ?_
  exact ih0 _ _ _ _ _ _ h T _
set_option maxHeartbeats 40000000 in
set_option maxRecDepth 100000 in
theorem EGf_wentIn_0 : ∀ n : Nat, (∀ (y1725 : Int32) (y1726 : Int32) (y1727 : Int32) (y1728 : Int32) (w : WX) (r : Int32) (w' : WX), Gf_wentIn_0 n 0 y1725 y1726 y1727 y1728 w = some (r, w') → ∀ (T : ai_H), ai_ev D1 mf_wentIn 37 [some (.ref 0), some (.int y1725), some (.int y1726), some (.int y1727), some (.int y1728)] [] (HX w T) 0 0 (some (.int r), HX w' T)) := by
  intro n
  induction n with
  | zero =>
    exact (fun _ _ _ _ _ _ _ h => by cases h)
  | succ n ih0 =>
    intro y1725 y1726 y1727 y1728 w r w' h T
    simp only [Gf_wentIn_0] at h
    refine ev_go 4 (pc' := 46) (L' := [some (.ref 0), some (.int y1725), some (.int y1726), some (.int y1727), some (.int y1728)]) (st' := [.int (a_s1_cells w), .int y1728]) (h' := (HX w T)) (cs' := 0) (sl' := 0) rfl ?_
    rcases ai_ifE h with ⟨hc, h⟩ | ⟨hc, h⟩
    · refine ev_ic_ge (t := 87) rfl rfl (fun _ => ?_) (fun c9 => absurd hc c9)
      refine ev_go 1 (pc' := 88) (L' := [some (.ref 0), some (.int y1725), some (.int y1726), some (.int y1727), some (.int y1728)]) (st' := [.int y1727]) (h' := (HX w T)) (cs' := 0) (sl' := 0) rfl ?_
      obtain ⟨rfl, rfl⟩ := ai_smP h
      exact ev_end rfl
    · refine ev_ic_ge (t := 87) rfl rfl (fun c9 => absurd c9 hc) (fun _ => ?_)
      refine ev_go 4 (pc' := 54) (L' := [some (.ref 0), some (.int y1725), some (.int y1726), some (.int y1727), some (.int y1728)]) (st' := [.int 0, .int y1728, .int y1725, .ref 0]) (h' := (HX w T)) (cs' := 0) (sl' := 0) rfl ?_
      obtain ⟨c1729, hq, h⟩ := ai_bdE h
      refine ev_call (M' := mf_letGoNow) (L' := [some (.ref 0), some (.int y1725), some (.int y1728), some (.int 0)]) (rest := []) (rv := none) (h' := (HX c1729 T)) rfl (Ef_letGoNow_0 n y1725 y1728 0 w _ hq T) ?_
      show ai_ev D1 mf_wentIn 57 [some (.ref 0), some (.int y1725), some (.int y1726), some (.int y1727), some (.int y1728)] [] (HX c1729 T) 0 0 _
      refine ev_go 5 (pc' := 67) (L' := [some (.ref 0), some (.int y1725), some (.int y1726), some (.int y1727), some (.int y1728)]) (st' := [.int y1728, .ref 1, .ref 81]) (h' := (HX c1729 T)) (cs' := 0) (sl' := 0) rfl ?_
      obtain ⟨c1740, hq, h⟩ := ai_bdE h
      refine ev_call (M' := mfall_driftFrom) (L' := [some (.ref 81), some (.ref 1), some (.int y1728), none, none, none]) (rest := []) (rv := some (.int c1740.1)) (h' := (HX c1740.2 T)) rfl (Efall_driftFrom_81_1 n y1728 c1729 _ _ hq T) ?_
      show ai_ev D1 mf_wentIn 70 [some (.ref 0), some (.int y1725), some (.int y1726), some (.int y1727), some (.int y1728)] [.int c1740.1] (HX c1740.2 T) 0 0 _
      refine ev_go 1 (pc' := 71) (L' := [some (.ref 0), some (.int y1725), some (.int y1726), some (.int y1727), some (.int y1728)]) (st' := [.int y1726, .int c1740.1]) (h' := (HX c1740.2 T)) (cs' := 0) (sl' := 0) rfl ?_
      rcases ai_ifE h with ⟨hc, h⟩ | ⟨hc, h⟩
      · refine ev_ic_ne (t := 81) rfl rfl (fun c9 => absurd hc c9) (fun _ => ?_)
        refine ev_go 8 (pc' := 37) (L' := [some (.ref 0), some (.int y1725), some (.int y1726), some (.int (y1727 ||| (1 <<< (y1728 &&& 31)))), some (.int (y1728 + 1))]) (st' := []) (h' := (HX c1740.2 T)) (cs' := 0) (sl' := 0) rfl ?_
        exact ih0 _ _ _ _ _ _ _ h T
      · refine ev_ic_ne (t := 81) rfl rfl (fun _ => ?_) (fun c9 => absurd c9 hc)
        refine ev_go 2 (pc' := 37) (L' := [some (.ref 0), some (.int y1725), some (.int y1726), some (.int y1727), some (.int (y1728 + 1))]) (st' := []) (h' := (HX c1740.2 T)) (cs' := 0) (sl' := 0) rfl ?_
        exact ih0 _ _ _ _ _ _ _ h T
set_option maxHeartbeats 40000000 in
set_option maxRecDepth 100000 in
theorem Ef_wentIn_0 (n : Nat) (x1719 : Int32) (x1720 : Int32) (w : WX) (r : Int32) (w' : WX) (h : Ff_wentIn_0 n x1719 x1720 w = some (r, w')) (T : ai_H) : ai_ev D1 mf_wentIn 0 [some (.ref 0), some (.int x1719), some (.int x1720), none, none] [] (HX w T) 0 0 (some (.int r), HX w' T) := by
  unfold Ff_wentIn_0 at h
  have ih0 := EGf_wentIn_0 n
  refine ev_go 4 (pc' := 8) (L' := [some (.ref 0), some (.int x1719), some (.int x1720), none, none]) (st' := [.int x1719, .ref 7]) (h' := (HX w T)) (cs' := 0) (sl' := 0) rfl ?_
  obtain ⟨c1721, hq, h⟩ := ai_bdE h
  refine ev_call (M' := mthg_has) (L' := [some (.ref 7), some (.int x1719)]) (rest := []) (rv := some (.int c1721.1)) (h' := (HX c1721.2 T)) rfl (Ethg_has_7 x1719 w _ _ hq T) ?_
  show ai_ev D1 mf_wentIn 11 [some (.ref 0), some (.int x1719), some (.int x1720), none, none] [.int c1721.1] (HX c1721.2 T) 0 0 _
  rcases ai_ifE h with ⟨hc, h⟩ | ⟨hc, h⟩
  · refine ev_if_eq (t := 25) rfl rfl (fun _ => ?_) (fun c9 => absurd hc c9)
    refine ev_go 2 (pc' := 28) (L' := [some (.ref 0), some (.int x1719), some (.int x1720), none, none]) (st' := [.int (-2), .ref 0]) (h' := (HX c1721.2 T)) (cs' := 0) (sl' := 0) rfl ?_
    obtain ⟨c1722, hq, h⟩ := ai_bdE h
    refine ev_call (M' := mf_bad) (L' := [some (.ref 0), some (.int (-2))]) (rest := []) (rv := some (.int c1722.1)) (h' := (HX c1722.2 T)) rfl (Ef_bad_0 (-2) c1721.2 _ _ hq T) ?_
    show ai_ev D1 mf_wentIn 31 [some (.ref 0), some (.int x1719), some (.int x1720), none, none] [.int c1722.1] (HX c1722.2 T) 0 0 _
    obtain ⟨rfl, rfl⟩ := ai_smP h
    exact ev_end rfl
  · refine ev_if_eq (t := 25) rfl rfl (fun c9 => absurd c9 hc) (fun _ => ?_)
    refine ev_go 3 (pc' := 19) (L' := [some (.ref 0), some (.int x1719), some (.int x1720), none, none]) (st' := [.int x1720, .ref 1]) (h' := (HX c1721.2 T)) (cs' := 0) (sl' := 0) rfl ?_
    obtain ⟨c1723, hq, h⟩ := ai_bdE h
    refine ev_call (M' := msea_hasCell) (L' := [some (.ref 1), some (.int x1720)]) (rest := []) (rv := some (.int c1723.1)) (h' := (HX c1723.2 T)) rfl (Esea_hasCell_1 x1720 c1721.2 _ _ hq T) ?_
    show ai_ev D1 mf_wentIn 22 [some (.ref 0), some (.int x1719), some (.int x1720), none, none] [.int c1723.1] (HX c1723.2 T) 0 0 _
    rcases ai_ifE h with ⟨hc, h⟩ | ⟨hc, h⟩
    · refine ev_if_ne (t := 32) rfl rfl (fun c9 => absurd hc c9) (fun _ => ?_)
      refine ev_go 2 (pc' := 28) (L' := [some (.ref 0), some (.int x1719), some (.int x1720), none, none]) (st' := [.int (-2), .ref 0]) (h' := (HX c1723.2 T)) (cs' := 0) (sl' := 0) rfl ?_
      obtain ⟨c1724, hq, h⟩ := ai_bdE h
      refine ev_call (M' := mf_bad) (L' := [some (.ref 0), some (.int (-2))]) (rest := []) (rv := some (.int c1724.1)) (h' := (HX c1724.2 T)) rfl (Ef_bad_0 (-2) c1723.2 _ _ hq T) ?_
      show ai_ev D1 mf_wentIn 31 [some (.ref 0), some (.int x1719), some (.int x1720), none, none] [.int c1724.1] (HX c1724.2 T) 0 0 _
      obtain ⟨rfl, rfl⟩ := ai_smP h
      exact ev_end rfl
    · refine ev_if_ne (t := 32) rfl rfl (fun _ => ?_) (fun c9 => absurd c9 hc)
      refine ev_go 4 (pc' := 37) (L' := [some (.ref 0), some (.int x1719), some (.int x1720), some (.int 0), some (.int 0)]) (st' := []) (h' := (HX c1723.2 T)) (cs' := 0) (sl' := 0) rfl ?_
      exact ih0 _ _ _ _ _ _ _ h T
set_option maxHeartbeats 40000000 in
set_option maxRecDepth 100000 in
theorem EGf_areFish_0 : ∀ n : Nat, (∀ (y1748 : Int32) (y1749 : Int32) (w : WX) (r : Int32) (w' : WX), Gf_areFish_0 n 0 y1748 y1749 w = some (r, w') → ∀ (T : ai_H), ai_ev D1 mf_areFish 26 [some (.ref 0), some (.int y1748), some (.int y1749)] [] (HX w T) 0 0 (some (.int r), HX w' T)) := by
  intro n
  induction n with
  | zero =>
    exact (fun _ _ _ _ _ h => by cases h)
  | succ n ih0 =>
    intro y1748 y1749 w r w' h T
    simp only [Gf_areFish_0] at h
    refine ev_go 5 (pc' := 37) (L' := [some (.ref 0), some (.int y1748), some (.int y1749)]) (st' := [.int (a_s1things_count w), .int y1749]) (h' := (HX w T)) (cs' := 0) (sl' := 0) rfl ?_
    rcases ai_ifE h with ⟨hc, h⟩ | ⟨hc, h⟩
    · refine ev_ic_ge (t := 73) rfl rfl (fun _ => ?_) (fun c9 => absurd hc c9)
      refine ev_go 1 (pc' := 74) (L' := [some (.ref 0), some (.int y1748), some (.int y1749)]) (st' := [.int 1]) (h' := (HX w T)) (cs' := 0) (sl' := 0) rfl ?_
      obtain ⟨rfl, rfl⟩ := ai_smP h
      exact ev_end rfl
    · refine ev_ic_ge (t := 73) rfl rfl (fun c9 => absurd c9 hc) (fun _ => ?_)
      refine ev_go 6 (pc' := 46) (L' := [some (.ref 0), some (.int y1748), some (.int y1749)]) (st' := [.int 1, .int ((y1748 >>> (y1749 &&& 31)) &&& 1)]) (h' := (HX w T)) (cs' := 0) (sl' := 0) rfl ?_
      rcases ai_ifE h with ⟨hc, h⟩ | ⟨hc, h⟩
      · refine ev_ic_ne (t := 67) rfl rfl (fun c9 => absurd hc c9) (fun _ => ?_)
        refine ev_go 5 (pc' := 60) (L' := [some (.ref 0), some (.int y1748), some (.int y1749)]) (st' := [.int y1749, .ref 8]) (h' := (HX w T)) (cs' := 0) (sl' := 0) rfl ?_
        obtain ⟨v1750, hq, h⟩ := ai_bdE h
        refine ev_iald rfl rfl hq ?_
        refine ev_go 1 (pc' := 62) (L' := [some (.ref 0), some (.int y1748), some (.int y1749)]) (st' := [.int 5, .int v1750]) (h' := (HX w T)) (cs' := 0) (sl' := 0) rfl ?_
        rcases ai_ifE h with ⟨hc, h⟩ | ⟨hc, h⟩
        · refine ev_ic_eq (t := 67) rfl rfl (fun _ => ?_) (fun c9 => absurd hc c9)
          refine ev_go 2 (pc' := 26) (L' := [some (.ref 0), some (.int y1748), some (.int (y1749 + 1))]) (st' := []) (h' := (HX w T)) (cs' := 0) (sl' := 0) rfl ?_
          exact ih0 _ _ _ _ _ h T
        · refine ev_ic_eq (t := 67) rfl rfl (fun c9 => absurd c9 hc) (fun _ => ?_)
          refine ev_go 1 (pc' := 66) (L' := [some (.ref 0), some (.int y1748), some (.int y1749)]) (st' := [.int 0]) (h' := (HX w T)) (cs' := 0) (sl' := 0) rfl ?_
          obtain ⟨rfl, rfl⟩ := ai_smP h
          exact ev_end rfl
      · refine ev_ic_ne (t := 67) rfl rfl (fun _ => ?_) (fun c9 => absurd c9 hc)
        refine ev_go 2 (pc' := 26) (L' := [some (.ref 0), some (.int y1748), some (.int (y1749 + 1))]) (st' := []) (h' := (HX w T)) (cs' := 0) (sl' := 0) rfl ?_
        exact ih0 _ _ _ _ _ h T
set_option maxHeartbeats 40000000 in
set_option maxRecDepth 100000 in
theorem Ef_areFish_0 (n : Nat) (x1746 : Int32) (w : WX) (r : Int32) (w' : WX) (h : Ff_areFish_0 n x1746 w = some (r, w')) (T : ai_H) : ai_ev D1 mf_areFish 0 [some (.ref 0), some (.int x1746), none] [] (HX w T) 0 0 (some (.int r), HX w' T) := by
  unfold Ff_areFish_0 at h
  have ih0 := EGf_areFish_0 n
  refine ev_go 10 (pc' := 16) (L' := [some (.ref 0), some (.int x1746), none]) (st' := [.int ((1 <<< ((a_s1things_count w) &&& 31)) - 1), .int 0, .int x1746]) (h' := (HX w T)) (cs' := 0) (sl' := 0) rfl ?_
  obtain ⟨c1747, hq, h⟩ := ai_bdE h
  refine ev_call (M' := mf_within) (L' := [some (.int x1746), some (.int 0), some (.int ((1 <<< ((a_s1things_count w) &&& 31)) - 1))]) (rest := []) (rv := some (.int c1747)) (h' := (HX w T)) rfl (Ef_within x1746 0 ((1 <<< ((a_s1things_count w) &&& 31)) - 1) _ hq (HX w T)) ?_
  show ai_ev D1 mf_areFish 19 [some (.ref 0), some (.int x1746), none] [.int c1747] (HX w T) 0 0 _
  rcases ai_ifE h with ⟨hc, h⟩ | ⟨hc, h⟩
  · refine ev_if_ne (t := 24) rfl rfl (fun c9 => absurd hc c9) (fun _ => ?_)
    refine ev_go 1 (pc' := 23) (L' := [some (.ref 0), some (.int x1746), none]) (st' := [.int 0]) (h' := (HX w T)) (cs' := 0) (sl' := 0) rfl ?_
    obtain ⟨rfl, rfl⟩ := ai_smP h
    exact ev_end rfl
  · refine ev_if_ne (t := 24) rfl rfl (fun _ => ?_) (fun c9 => absurd c9 hc)
    refine ev_go 2 (pc' := 26) (L' := [some (.ref 0), some (.int x1746), some (.int 0)]) (st' := []) (h' := (HX w T)) (cs' := 0) (sl' := 0) rfl ?_
    exact ih0 _ _ _ _ _ h T
set_option maxHeartbeats 40000000 in
set_option maxRecDepth 100000 in
theorem EGf_fillDowns_0 : ∀ n : Nat, (∀ (y1755 : Int32) (y1756 : Int32) (w : WX) (w' : WX), Gf_fillDowns_0 n 0 y1755 y1756 w = some w' → ∀ (T : ai_H), ai_ev D1 mf_fillDowns 2 [some (.ref 0), some (.int y1755), some (.int y1756)] [] (HX w T) 0 0 (none, HX w' T)) := by
  intro n
  induction n with
  | zero =>
    exact (fun _ _ _ _ h => by cases h)
  | succ n ih0 =>
    intro y1755 y1756 w w' h T
    simp only [Gf_fillDowns_0] at h
    refine ev_go 5 (pc' := 13) (L' := [some (.ref 0), some (.int y1755), some (.int y1756)]) (st' := [.int (a_s1things_count w), .int y1756]) (h' := (HX w T)) (cs' := 0) (sl' := 0) rfl ?_
    rcases ai_ifE h with ⟨hc, h⟩ | ⟨hc, h⟩
    · refine ev_ic_ge (t := 65) rfl rfl (fun _ => ?_) (fun c9 => absurd hc c9)
      obtain rfl := Option.some.inj h
      exact ev_end rfl
    · refine ev_ic_ge (t := 65) rfl rfl (fun c9 => absurd c9 hc) (fun _ => ?_)
      refine ev_go 4 (pc' := 22) (L' := [some (.ref 0), some (.int y1755), some (.int y1756)]) (st' := [.int (-1), .int y1756, .ref 88]) (h' := (HX w T)) (cs' := 0) (sl' := 0) rfl ?_
      obtain ⟨q1757, hq, h⟩ := ai_bdE h
      refine ev_iast rfl rfl hq ?_
      rw [HXs_88]
      refine ev_go 5 (pc' := 34) (L' := [some (.ref 0), some (.int y1755), some (.int y1756)]) (st' := [.int y1756, .ref 8]) (h' := (HX (u_f_downs w q1757) T)) (cs' := 0) (sl' := 0) rfl ?_
      obtain ⟨v1758, hq, h⟩ := ai_bdE h
      refine ev_iald rfl rfl hq ?_
      refine ev_go 1 (pc' := 36) (L' := [some (.ref 0), some (.int y1755), some (.int y1756)]) (st' := [.int 5, .int v1758]) (h' := (HX (u_f_downs w q1757) T)) (cs' := 0) (sl' := 0) rfl ?_
      rcases ai_ifE h with ⟨hc, h⟩ | ⟨hc, h⟩
      · refine ev_ic_ne (t := 59) rfl rfl (fun c9 => absurd hc c9) (fun _ => ?_)
        refine ev_go 4 (pc' := 43) (L' := [some (.ref 0), some (.int y1755), some (.int y1756)]) (st' := [.int 0, .int y1755, .int y1756, .ref 0]) (h' := (HX (u_f_downs w q1757) T)) (cs' := 0) (sl' := 0) rfl ?_
        obtain ⟨c1759, hq, h⟩ := ai_bdE h
        refine ev_call (M' := mf_letGoNow) (L' := [some (.ref 0), some (.int y1756), some (.int y1755), some (.int 0)]) (rest := []) (rv := none) (h' := (HX c1759 T)) rfl (Ef_letGoNow_0 n y1756 y1755 0 (u_f_downs w q1757) _ hq T) ?_
        show ai_ev D1 mf_fillDowns 46 [some (.ref 0), some (.int y1755), some (.int y1756)] [] (HX c1759 T) 0 0 _
        refine ev_go 6 (pc' := 58) (L' := [some (.ref 0), some (.int y1755), some (.int y1756)]) (st' := [.int (a_fall_down c1759), .int y1756, .ref 88]) (h' := (HX c1759 T)) (cs' := 0) (sl' := 0) rfl ?_
        obtain ⟨q1760, hq, h⟩ := ai_bdE h
        refine ev_iast rfl rfl hq ?_
        rw [HXs_88]
        refine ev_go 2 (pc' := 2) (L' := [some (.ref 0), some (.int y1755), some (.int (y1756 + 1))]) (st' := []) (h' := (HX (u_f_downs c1759 q1760) T)) (cs' := 0) (sl' := 0) rfl ?_
        exact ih0 _ _ _ _ h T
      · refine ev_ic_ne (t := 59) rfl rfl (fun _ => ?_) (fun c9 => absurd c9 hc)
        refine ev_go 2 (pc' := 2) (L' := [some (.ref 0), some (.int y1755), some (.int (y1756 + 1))]) (st' := []) (h' := (HX (u_f_downs w q1757) T)) (cs' := 0) (sl' := 0) rfl ?_
        exact ih0 _ _ _ _ h T
set_option maxHeartbeats 40000000 in
set_option maxRecDepth 100000 in
theorem Ef_fillDowns_0 (n : Nat) (x1754 : Int32) (w : WX) (w' : WX) (h : Ff_fillDowns_0 n x1754 w = some w') (T : ai_H) : ai_ev D1 mf_fillDowns 0 [some (.ref 0), some (.int x1754), none] [] (HX w T) 0 0 (none, HX w' T) := by
  unfold Ff_fillDowns_0 at h
  have ih0 := EGf_fillDowns_0 n
  refine ev_go 2 (pc' := 2) (L' := [some (.ref 0), some (.int x1754), some (.int 0)]) (st' := []) (h' := (HX w T)) (cs' := 0) (sl' := 0) rfl ?_
  exact ih0 _ _ _ _ h T
set_option maxHeartbeats 40000000 in
set_option maxRecDepth 100000 in
theorem EGf_caught_0 : ∀ n : Nat, (∀ (y1778 : Int32) (y1779 : Int32) (y1780 : Int32) (y1781 : Int32) (w : WX) (r : Int32) (w' : WX), Gf_caught_0 n 0 y1778 y1779 y1780 y1781 w = some (r, w') → ∀ (T : ai_H), ai_ev D1 mf_caught 5 [some (.ref 0), some (.int y1778), some (.int y1779), some (.int y1780), some (.int y1781)] [] (HX w T) 0 0 (some (.int r), HX w' T)) := by
  intro n
  induction n with
  | zero =>
    exact (fun _ _ _ _ _ _ _ h => by cases h)
  | succ n ih0 =>
    intro y1778 y1779 y1780 y1781 w r w' h T
    simp only [Gf_caught_0] at h
    refine ev_go 5 (pc' := 17) (L' := [some (.ref 0), some (.int y1778), some (.int y1779), some (.int y1780), some (.int y1781)]) (st' := [.int (a_s1things_count w), .int y1781]) (h' := (HX w T)) (cs' := 0) (sl' := 0) rfl ?_
    rcases ai_ifE h with ⟨hc, h⟩ | ⟨hc, h⟩
    · refine ev_ic_ge (t := 48) rfl rfl (fun _ => ?_) (fun c9 => absurd hc c9)
      refine ev_go 1 (pc' := 49) (L' := [some (.ref 0), some (.int y1778), some (.int y1779), some (.int y1780), some (.int y1781)]) (st' := [.int y1780]) (h' := (HX w T)) (cs' := 0) (sl' := 0) rfl ?_
      obtain ⟨rfl, rfl⟩ := ai_smP h
      exact ev_end rfl
    · refine ev_ic_ge (t := 48) rfl rfl (fun c9 => absurd c9 hc) (fun _ => ?_)
      refine ev_go 3 (pc' := 26) (L' := [some (.ref 0), some (.int y1778), some (.int y1779), some (.int y1780), some (.int y1781)]) (st' := [.int y1781, .ref 88]) (h' := (HX w T)) (cs' := 0) (sl' := 0) rfl ?_
      obtain ⟨v1782, hq, h⟩ := ai_bdE h
      refine ev_iald rfl rfl hq ?_
      refine ev_go 2 (pc' := 29) (L' := [some (.ref 0), some (.int y1778), some (.int y1779), some (.int y1780), some (.int y1781)]) (st' := [.int y1779, .int y1778, .int v1782]) (h' := (HX w T)) (cs' := 0) (sl' := 0) rfl ?_
      obtain ⟨c1783, hq, h⟩ := ai_bdE h
      refine ev_call (M' := mf_within) (L' := [some (.int v1782), some (.int y1778), some (.int y1779)]) (rest := []) (rv := some (.int c1783)) (h' := (HX w T)) rfl (Ef_within v1782 y1778 y1779 _ hq (HX w T)) ?_
      show ai_ev D1 mf_caught 32 [some (.ref 0), some (.int y1778), some (.int y1779), some (.int y1780), some (.int y1781)] [.int c1783] (HX w T) 0 0 _
      rcases ai_ifE h with ⟨hc, h⟩ | ⟨hc, h⟩
      · refine ev_if_eq (t := 42) rfl rfl (fun _ => ?_) (fun c9 => absurd hc c9)
        refine ev_go 2 (pc' := 5) (L' := [some (.ref 0), some (.int y1778), some (.int y1779), some (.int y1780), some (.int (y1781 + 1))]) (st' := []) (h' := (HX w T)) (cs' := 0) (sl' := 0) rfl ?_
        exact ih0 _ _ _ _ _ _ _ h T
      · refine ev_if_eq (t := 42) rfl rfl (fun c9 => absurd c9 hc) (fun _ => ?_)
        refine ev_go 8 (pc' := 5) (L' := [some (.ref 0), some (.int y1778), some (.int y1779), some (.int (y1780 ||| (1 <<< (y1781 &&& 31)))), some (.int (y1781 + 1))]) (st' := []) (h' := (HX w T)) (cs' := 0) (sl' := 0) rfl ?_
        exact ih0 _ _ _ _ _ _ _ h T
set_option maxHeartbeats 40000000 in
set_option maxRecDepth 100000 in
theorem Ef_caught_0 (n : Nat) (x1776 : Int32) (x1777 : Int32) (w : WX) (r : Int32) (w' : WX) (h : Ff_caught_0 n x1776 x1777 w = some (r, w')) (T : ai_H) : ai_ev D1 mf_caught 0 [some (.ref 0), some (.int x1776), some (.int x1777), none, none] [] (HX w T) 0 0 (some (.int r), HX w' T) := by
  unfold Ff_caught_0 at h
  have ih0 := EGf_caught_0 n
  refine ev_go 4 (pc' := 5) (L' := [some (.ref 0), some (.int x1776), some (.int x1777), some (.int 0), some (.int 0)]) (st' := []) (h' := (HX w T)) (cs' := 0) (sl' := 0) rfl ?_
  exact ih0 _ _ _ _ _ _ _ h T
set_option maxHeartbeats 40000000 in
set_option maxRecDepth 100000 in
theorem EGf_nets_0 : ∀ n : Nat, (∀ (y1763 : Int32) (y1764 : Int32) (y1765 : Int32) (y1766 : Int32) (y1767 : Int32) (y1768 : Int32) (w : WX) (r : Int32) (w' : WX), Gf_nets_0 n 0 y1763 y1764 y1765 y1766 y1767 y1768 0 w = some (r, w') → ∀ (T : ai_H) (o7 : Option Value), ai_ev D1 mf_nets 49 [some (.ref 0), some (.int y1763), some (.int y1764), some (.int y1765), some (.int y1766), some (.int y1767), some (.int y1768), o7] [] (HX w T) 0 0 (some (.int r), HX w' T)) ∧ (∀ (y1769 : Int32) (y1770 : Int32) (y1771 : Int32) (y1772 : Int32) (y1773 : Int32) (y1774 : Int32) (y1775 : Int32) (w : WX) (r : Int32) (w' : WX), Gf_nets_0 n 1 y1769 y1770 y1771 y1772 y1773 y1774 y1775 w = some (r, w') → ∀ (T : ai_H), ai_ev D1 mf_nets 60 [some (.ref 0), some (.int y1769), some (.int y1770), some (.int y1771), some (.int y1772), some (.int y1773), some (.int y1774), some (.int y1775)] [] (HX w T) 0 0 (some (.int r), HX w' T)) := by
  intro n
  induction n with
  | zero =>
    exact ⟨(fun _ _ _ _ _ _ _ _ _ h => by cases h), (fun _ _ _ _ _ _ _ _ _ _ h => by cases h)⟩
  | succ n ih =>
    obtain ⟨ih0, ih1⟩ := ih
    refine ⟨?_, ?_⟩
    · intro y1763 y1764 y1765 y1766 y1767 y1768 w r w' h T o7
      simp only [Gf_nets_0] at h
      refine ev_go 2 (pc' := 53) (L' := [some (.ref 0), some (.int y1763), some (.int y1764), some (.int y1765), some (.int y1766), some (.int y1767), some (.int y1768), o7]) (st' := [.int 60, .int y1768]) (h' := (HX w T)) (cs' := 0) (sl' := 0) rfl ?_
      rcases ai_ifE h with ⟨hc, h⟩ | ⟨hc, h⟩
      · refine ev_ic_gt (t := 115) rfl rfl (fun _ => ?_) (fun c9 => absurd hc c9)
        refine ev_go 1 (pc' := 116) (L' := [some (.ref 0), some (.int y1763), some (.int y1764), some (.int y1765), some (.int y1766), some (.int y1767), some (.int y1768), o7]) (st' := [.int y1765]) (h' := (HX w T)) (cs' := 0) (sl' := 0) rfl ?_
        rcases ai_ifE h with ⟨hc, h⟩ | ⟨hc, h⟩
        · refine ev_if_ne (t := 124) rfl rfl (fun c9 => absurd hc c9) (fun _ => ?_)
          refine ev_go 2 (pc' := 126) (L' := [some (.ref 0), some (.int y1763), some (.int y1764), some (.int y1765), some (.int y1766), some (.int y1767), some (.int y1768), o7]) (st' := [.int y1766]) (h' := (HX w T)) (cs' := 0) (sl' := 0) rfl ?_
          obtain ⟨rfl, rfl⟩ := ai_smP h
          exact ev_end rfl
        · refine ev_if_ne (t := 124) rfl rfl (fun _ => ?_) (fun c9 => absurd c9 hc)
          refine ev_go 1 (pc' := 126) (L' := [some (.ref 0), some (.int y1763), some (.int y1764), some (.int y1765), some (.int y1766), some (.int y1767), some (.int y1768), o7]) (st' := [.int y1767]) (h' := (HX w T)) (cs' := 0) (sl' := 0) rfl ?_
          obtain ⟨rfl, rfl⟩ := ai_smP h
          exact ev_end rfl
      · refine ev_ic_gt (t := 115) rfl rfl (fun c9 => absurd c9 hc) (fun _ => ?_)
        refine ev_go 2 (pc' := 60) (L' := [some (.ref 0), some (.int y1763), some (.int y1764), some (.int y1765), some (.int y1766), some (.int y1767), some (.int y1768), some (.int y1768)]) (st' := []) (h' := (HX w T)) (cs' := 0) (sl' := 0) rfl ?_
        exact ih1 _ _ _ _ _ _ _ _ _ _ h T
    · intro y1769 y1770 y1771 y1772 y1773 y1774 y1775 w r w' h T
      simp only [Gf_nets_0] at h
      refine ev_go 2 (pc' := 64) (L' := [some (.ref 0), some (.int y1769), some (.int y1770), some (.int y1771), some (.int y1772), some (.int y1773), some (.int y1774), some (.int y1775)]) (st' := [.int 60, .int y1775]) (h' := (HX w T)) (cs' := 0) (sl' := 0) rfl ?_
      rcases ai_ifE h with ⟨hc, h⟩ | ⟨hc, h⟩
      · refine ev_ic_gt (t := 109) rfl rfl (fun _ => ?_) (fun c9 => absurd hc c9)
        refine ev_go 2 (pc' := 49) (L' := [some (.ref 0), some (.int y1769), some (.int y1770), some (.int y1771), some (.int y1772), some (.int y1773), some (.int (y1774 + 1)), some (.int y1775)]) (st' := []) (h' := (HX w T)) (cs' := 0) (sl' := 0) rfl ?_
        exact ih0 _ _ _ _ _ _ _ _ _ h T _
      · refine ev_ic_gt (t := 109) rfl rfl (fun c9 => absurd c9 hc) (fun _ => ?_)
        refine ev_go 3 (pc' := 72) (L' := [some (.ref 0), some (.int y1769), some (.int y1770), some (.int y1771), some (.int y1772), some (.int y1773), some (.int y1774), some (.int y1775)]) (st' := [.int y1775, .int y1774, .ref 0]) (h' := (HX w T)) (cs' := 0) (sl' := 0) rfl ?_
        obtain ⟨c1784, hq, h⟩ := ai_bdE h
        refine ev_call (M' := mf_caught) (L' := [some (.ref 0), some (.int y1774), some (.int y1775), none, none]) (rest := []) (rv := some (.int c1784.1)) (h' := (HX c1784.2 T)) rfl (Ef_caught_0 n y1774 y1775 w _ _ hq T) ?_
        show ai_ev D1 mf_nets 75 [some (.ref 0), some (.int y1769), some (.int y1770), some (.int y1771), some (.int y1772), some (.int y1773), some (.int y1774), some (.int y1775)] [.int c1784.1] (HX c1784.2 T) 0 0 _
        refine ev_go 1 (pc' := 76) (L' := [some (.ref 0), some (.int y1769), some (.int y1770), some (.int y1771), some (.int y1772), some (.int y1773), some (.int y1774), some (.int y1775)]) (st' := [.int y1770, .int c1784.1]) (h' := (HX c1784.2 T)) (cs' := 0) (sl' := 0) rfl ?_
        rcases ai_ifE h with ⟨hc, h⟩ | ⟨hc, h⟩
        · refine ev_ic_ne (t := 103) rfl rfl (fun c9 => absurd hc c9) (fun _ => ?_)
          refine ev_go 3 (pc' := 85) (L' := [some (.ref 0), some (.int y1769), some (.int y1770), some (.int y1771), some (.int (y1772 + 1)), some (.int y1773), some (.int y1774), some (.int y1775)]) (st' := [.int (-1), .int y1773]) (h' := (HX c1784.2 T)) (cs' := 0) (sl' := 0) rfl ?_
          rcases ai_ifE h with ⟨hc, h⟩ | ⟨hc, h⟩
          · refine ev_ic_ne (t := 99) rfl rfl (fun c9 => absurd hc c9) (fun _ => ?_)
            refine ev_go 9 (pc' := 60) (L' := [some (.ref 0), some (.int y1769), some (.int y1770), some (.int y1771), some (.int (y1772 + 1)), some (.int ((100 * y1774) + y1775)), some (.int y1774), some (.int (y1775 + 1))]) (st' := []) (h' := (HX c1784.2 T)) (cs' := 0) (sl' := 0) rfl ?_
            exact ih1 _ _ _ _ _ _ _ _ _ _ h T
          · refine ev_ic_ne (t := 99) rfl rfl (fun _ => ?_) (fun c9 => absurd c9 hc)
            refine ev_go 4 (pc' := 60) (L' := [some (.ref 0), some (.int y1769), some (.int y1770), some (.int y1771), some (.int (y1772 + 1)), some (.int y1773), some (.int y1774), some (.int (y1775 + 1))]) (st' := []) (h' := (HX c1784.2 T)) (cs' := 0) (sl' := 0) rfl ?_
            exact ih1 _ _ _ _ _ _ _ _ _ _ h T
        · refine ev_ic_ne (t := 103) rfl rfl (fun _ => ?_) (fun c9 => absurd c9 hc)
          refine ev_go 2 (pc' := 60) (L' := [some (.ref 0), some (.int y1769), some (.int y1770), some (.int y1771), some (.int y1772), some (.int y1773), some (.int y1774), some (.int (y1775 + 1))]) (st' := []) (h' := (HX c1784.2 T)) (cs' := 0) (sl' := 0) rfl ?_
          exact ih1 _ _ _ _ _ _ _ _ _ _ h T
set_option maxHeartbeats 40000000 in
set_option maxRecDepth 100000 in
theorem Ef_nets_0 (n : Nat) (x1741 : Int32) (x1742 : Int32) (x1743 : Int32) (w : WX) (r : Int32) (w' : WX) (h : Ff_nets_0 n x1741 x1742 x1743 w = some (r, w')) (T : ai_H) : ai_ev D1 mf_nets 0 [some (.ref 0), some (.int x1741), some (.int x1742), some (.int x1743), none, none, none, none] [] (HX w T) 0 0 (some (.int r), HX w' T) := by
  unfold Ff_nets_0 at h
  obtain ⟨ih0, ih1⟩ := EGf_nets_0 n
  refine ev_go 3 (pc' := 5) (L' := [some (.ref 0), some (.int x1741), some (.int x1742), some (.int x1743), none, none, none, none]) (st' := [.int x1741, .ref 1]) (h' := (HX w T)) (cs' := 0) (sl' := 0) rfl ?_
  obtain ⟨c1744, hq, h⟩ := ai_bdE h
  refine ev_call (M' := msea_hasCell) (L' := [some (.ref 1), some (.int x1741)]) (rest := []) (rv := some (.int c1744.1)) (h' := (HX c1744.2 T)) rfl (Esea_hasCell_1 x1741 w _ _ hq T) ?_
  show ai_ev D1 mf_nets 8 [some (.ref 0), some (.int x1741), some (.int x1742), some (.int x1743), none, none, none, none] [.int c1744.1] (HX c1744.2 T) 0 0 _
  rcases ai_ifE h with ⟨hc, h⟩ | ⟨hc, h⟩
  · refine ev_if_eq (t := 28) rfl rfl (fun _ => ?_) (fun c9 => absurd hc c9)
    refine ev_go 2 (pc' := 31) (L' := [some (.ref 0), some (.int x1741), some (.int x1742), some (.int x1743), none, none, none, none]) (st' := [.int (-10), .ref 0]) (h' := (HX c1744.2 T)) (cs' := 0) (sl' := 0) rfl ?_
    obtain ⟨c1745, hq, h⟩ := ai_bdE h
    refine ev_call (M' := mf_bad) (L' := [some (.ref 0), some (.int (-10))]) (rest := []) (rv := some (.int c1745.1)) (h' := (HX c1745.2 T)) rfl (Ef_bad_0 (-10) c1744.2 _ _ hq T) ?_
    show ai_ev D1 mf_nets 34 [some (.ref 0), some (.int x1741), some (.int x1742), some (.int x1743), none, none, none, none] [.int c1745.1] (HX c1745.2 T) 0 0 _
    obtain ⟨rfl, rfl⟩ := ai_smP h
    exact ev_end rfl
  · refine ev_if_eq (t := 28) rfl rfl (fun c9 => absurd c9 hc) (fun _ => ?_)
    refine ev_go 2 (pc' := 13) (L' := [some (.ref 0), some (.int x1741), some (.int x1742), some (.int x1743), none, none, none, none]) (st' := [.int x1742, .ref 0]) (h' := (HX c1744.2 T)) (cs' := 0) (sl' := 0) rfl ?_
    obtain ⟨c1751, hq, h⟩ := ai_bdE h
    refine ev_call (M' := mf_areFish) (L' := [some (.ref 0), some (.int x1742), none]) (rest := []) (rv := some (.int c1751.1)) (h' := (HX c1751.2 T)) rfl (Ef_areFish_0 n x1742 c1744.2 _ _ hq T) ?_
    show ai_ev D1 mf_nets 16 [some (.ref 0), some (.int x1741), some (.int x1742), some (.int x1743), none, none, none, none] [.int c1751.1] (HX c1751.2 T) 0 0 _
    rcases ai_ifE h with ⟨hc, h⟩ | ⟨hc, h⟩
    · refine ev_if_eq (t := 28) rfl rfl (fun _ => ?_) (fun c9 => absurd hc c9)
      refine ev_go 2 (pc' := 31) (L' := [some (.ref 0), some (.int x1741), some (.int x1742), some (.int x1743), none, none, none, none]) (st' := [.int (-10), .ref 0]) (h' := (HX c1751.2 T)) (cs' := 0) (sl' := 0) rfl ?_
      obtain ⟨c1752, hq, h⟩ := ai_bdE h
      refine ev_call (M' := mf_bad) (L' := [some (.ref 0), some (.int (-10))]) (rest := []) (rv := some (.int c1752.1)) (h' := (HX c1752.2 T)) rfl (Ef_bad_0 (-10) c1751.2 _ _ hq T) ?_
      show ai_ev D1 mf_nets 34 [some (.ref 0), some (.int x1741), some (.int x1742), some (.int x1743), none, none, none, none] [.int c1752.1] (HX c1752.2 T) 0 0 _
      obtain ⟨rfl, rfl⟩ := ai_smP h
      exact ev_end rfl
    · refine ev_if_eq (t := 28) rfl rfl (fun c9 => absurd c9 hc) (fun _ => ?_)
      refine ev_go 3 (pc' := 22) (L' := [some (.ref 0), some (.int x1741), some (.int x1742), some (.int x1743), none, none, none, none]) (st' := [.int 1, .int 0, .int x1743]) (h' := (HX c1751.2 T)) (cs' := 0) (sl' := 0) rfl ?_
      obtain ⟨c1753, hq, h⟩ := ai_bdE h
      refine ev_call (M' := mf_within) (L' := [some (.int x1743), some (.int 0), some (.int 1)]) (rest := []) (rv := some (.int c1753)) (h' := (HX c1751.2 T)) rfl (Ef_within x1743 0 1 _ hq (HX c1751.2 T)) ?_
      show ai_ev D1 mf_nets 25 [some (.ref 0), some (.int x1741), some (.int x1742), some (.int x1743), none, none, none, none] [.int c1753] (HX c1751.2 T) 0 0 _
      rcases ai_ifE h with ⟨hc, h⟩ | ⟨hc, h⟩
      · refine ev_if_ne (t := 35) rfl rfl (fun c9 => absurd hc c9) (fun _ => ?_)
        refine ev_go 2 (pc' := 31) (L' := [some (.ref 0), some (.int x1741), some (.int x1742), some (.int x1743), none, none, none, none]) (st' := [.int (-10), .ref 0]) (h' := (HX c1751.2 T)) (cs' := 0) (sl' := 0) rfl ?_
        obtain ⟨c1762, hq, h⟩ := ai_bdE h
        refine ev_call (M' := mf_bad) (L' := [some (.ref 0), some (.int (-10))]) (rest := []) (rv := some (.int c1762.1)) (h' := (HX c1762.2 T)) rfl (Ef_bad_0 (-10) c1751.2 _ _ hq T) ?_
        show ai_ev D1 mf_nets 34 [some (.ref 0), some (.int x1741), some (.int x1742), some (.int x1743), none, none, none, none] [.int c1762.1] (HX c1762.2 T) 0 0 _
        obtain ⟨rfl, rfl⟩ := ai_smP h
        exact ev_end rfl
      · refine ev_if_ne (t := 35) rfl rfl (fun _ => ?_) (fun c9 => absurd c9 hc)
        refine ev_go 2 (pc' := 37) (L' := [some (.ref 0), some (.int x1741), some (.int x1742), some (.int x1743), none, none, none, none]) (st' := [.int x1741, .ref 0]) (h' := (HX c1751.2 T)) (cs' := 0) (sl' := 0) rfl ?_
        obtain ⟨c1761, hq, h⟩ := ai_bdE h
        refine ev_call (M' := mf_fillDowns) (L' := [some (.ref 0), some (.int x1741), none]) (rest := []) (rv := none) (h' := (HX c1761 T)) rfl (Ef_fillDowns_0 n x1741 c1751.2 _ hq T) ?_
        show ai_ev D1 mf_nets 40 [some (.ref 0), some (.int x1741), some (.int x1742), some (.int x1743), none, none, none, none] [] (HX c1761 T) 0 0 _
        refine ev_go 6 (pc' := 49) (L' := [some (.ref 0), some (.int x1741), some (.int x1742), some (.int x1743), some (.int 0), some (.int (-1)), some (.int 0), none]) (st' := []) (h' := (HX c1761 T)) (cs' := 0) (sl' := 0) rfl ?_
        exact ih0 _ _ _ _ _ _ _ _ _ h T _
set_option maxHeartbeats 40000000 in
set_option maxRecDepth 100000 in
theorem EGsea_sweetInAll_1 : ∀ n : Nat, (∀ (y1787 : Int32) (y1788 : Int32) (w : WX) (r : Int32) (w' : WX), Gsea_sweetInAll_1 n 0 y1787 y1788 w = some (r, w') → ∀ (T : ai_H), ai_ev D1 msea_sweetInAll 4 [some (.ref 1), some (.int y1787), some (.int y1788)] [] (HX w T) 0 0 (some (.int r), HX w' T)) := by
  intro n
  induction n with
  | zero =>
    exact (fun _ _ _ _ _ h => by cases h)
  | succ n ih0 =>
    intro y1787 y1788 w r w' h T
    simp only [Gsea_sweetInAll_1] at h
    refine ev_go 3 (pc' := 9) (L' := [some (.ref 1), some (.int y1787), some (.int y1788)]) (st' := [.int (a_s1_cells w), .int y1788]) (h' := (HX w T)) (cs' := 0) (sl' := 0) rfl ?_
    rcases ai_ifE h with ⟨hc, h⟩ | ⟨hc, h⟩
    · refine ev_ic_ge (t := 31) rfl rfl (fun _ => ?_) (fun c9 => absurd hc c9)
      refine ev_go 1 (pc' := 32) (L' := [some (.ref 1), some (.int y1787), some (.int y1788)]) (st' := [.int y1787]) (h' := (HX w T)) (cs' := 0) (sl' := 0) rfl ?_
      obtain ⟨rfl, rfl⟩ := ai_smP h
      exact ev_end rfl
    · refine ev_ic_ge (t := 31) rfl rfl (fun c9 => absurd c9 hc) (fun _ => ?_)
      refine ev_go 6 (pc' := 20) (L' := [some (.ref 1), some (.int y1787), some (.int y1788)]) (st' := [.int (a_s1_hour w), .int y1788, .int 0, .ref 1, .int y1787]) (h' := (HX w T)) (cs' := 0) (sl' := 0) rfl ?_
      obtain ⟨c1789, hq, h⟩ := ai_bdE h
      refine ev_call (M' := msea_thickAt) (L' := [some (.ref 1), some (.int 0), some (.int y1788), some (.int (a_s1_hour w))]) (rest := [.int y1787]) (rv := some (.int c1789.1)) (h' := (HX c1789.2 T)) rfl (Esea_thickAt_1 0 y1788 (a_s1_hour w) w _ _ hq T) ?_
      show ai_ev D1 msea_sweetInAll 23 [some (.ref 1), some (.int y1787), some (.int y1788)] [.int c1789.1, .int y1787] (HX c1789.2 T) 0 0 _
      refine ev_go 4 (pc' := 4) (L' := [some (.ref 1), some (.int (y1787 + c1789.1)), some (.int (y1788 + 1))]) (st' := []) (h' := (HX c1789.2 T)) (cs' := 0) (sl' := 0) rfl ?_
      exact ih0 _ _ _ _ _ h T
set_option maxHeartbeats 40000000 in
set_option maxRecDepth 100000 in
theorem Esea_sweetInAll_1 (n : Nat) (w : WX) (r : Int32) (w' : WX) (h : Fsea_sweetInAll_1 n w = some (r, w')) (T : ai_H) : ai_ev D1 msea_sweetInAll 0 [some (.ref 1), none, none] [] (HX w T) 0 0 (some (.int r), HX w' T) := by
  unfold Fsea_sweetInAll_1 at h
  have ih0 := EGsea_sweetInAll_1 n
  refine ev_go 4 (pc' := 4) (L' := [some (.ref 1), some (.int 0), some (.int 0)]) (st' := []) (h' := (HX w T)) (cs' := 0) (sl' := 0) rfl ?_
  exact ih0 _ _ _ _ _ h T
set_option maxHeartbeats 40000000 in
set_option maxRecDepth 100000 in
theorem Ef_tapped (x1806 : Int32) (x1807 : Int32) (x1808 : Int32) (r : Int32) (h : Ff_tapped x1806 x1807 x1808 = some r) (hh : ai_H) : ai_ev D1 mf_tapped 0 [some (.int x1806), some (.int x1807), some (.int x1808)] [] hh 0 0 (some (.int r), hh) := by
  unfold Ff_tapped at h
  refine ev_go 11 (pc' := 13) (L' := [some (.int x1806), some (.int x1807), some (.int x1808)]) (st' := [.int (x1806 - (2 * (if 0 < ((x1806 + x1807) - x1808) then ((x1806 + x1807) - x1808) else 0)))]) (h' := hh) (cs' := 0) (sl' := 0) rfl ?_
  obtain rfl := Option.some.inj h
  exact ev_end rfl
set_option maxHeartbeats 40000000 in
set_option maxRecDepth 100000 in
theorem EGf_isBestTap : ∀ n : Nat, (∀ (y1810 : Int32) (y1811 : Int32) (y1812 : Int32) (y1813 : Int32) (y1814 : Int32) (r : Int32), Gf_isBestTap n 0 y1810 y1811 y1812 y1813 y1814 = some r → ∀ (hh : ai_H), ai_ev D1 mf_isBestTap 10 [some (.int y1810), some (.int y1811), some (.int y1812), some (.int y1813), some (.int y1814)] [] hh 0 0 (some (.int r), hh)) := by
  intro n
  induction n with
  | zero =>
    exact (fun _ _ _ _ _ _ h => by cases h)
  | succ n ih0 =>
    intro y1810 y1811 y1812 y1813 y1814 r h hh
    simp only [Gf_isBestTap] at h
    refine ev_go 2 (pc' := 14) (L' := [some (.int y1810), some (.int y1811), some (.int y1812), some (.int y1813), some (.int y1814)]) (st' := [.int 9, .int y1814]) (h' := hh) (cs' := 0) (sl' := 0) rfl ?_
    rcases ai_ifE h with ⟨hc, h⟩ | ⟨hc, h⟩
    · refine ev_ic_gt (t := 36) rfl rfl (fun _ => ?_) (fun c9 => absurd hc c9)
      refine ev_go 1 (pc' := 37) (L' := [some (.int y1810), some (.int y1811), some (.int y1812), some (.int y1813), some (.int y1814)]) (st' := [.int 1]) (h' := hh) (cs' := 0) (sl' := 0) rfl ?_
      obtain rfl := Option.some.inj h
      exact ev_end rfl
    · refine ev_ic_gt (t := 36) rfl rfl (fun c9 => absurd c9 hc) (fun _ => ?_)
      refine ev_go 3 (pc' := 21) (L' := [some (.int y1810), some (.int y1811), some (.int y1812), some (.int y1813), some (.int y1814)]) (st' := [.int y1812, .int y1811, .int y1814]) (h' := hh) (cs' := 0) (sl' := 0) rfl ?_
      obtain ⟨c1815, hq, h⟩ := ai_bdE h
      refine ev_call (M' := mf_tapped) (L' := [some (.int y1814), some (.int y1811), some (.int y1812)]) (rest := []) (rv := some (.int c1815)) (h' := hh) rfl (Ef_tapped y1814 y1811 y1812 _ hq hh) ?_
      show ai_ev D1 mf_isBestTap 24 [some (.int y1810), some (.int y1811), some (.int y1812), some (.int y1813), some (.int y1814)] [.int c1815] hh 0 0 _
      refine ev_go 1 (pc' := 25) (L' := [some (.int y1810), some (.int y1811), some (.int y1812), some (.int y1813), some (.int y1814)]) (st' := [.int y1813, .int c1815]) (h' := hh) (cs' := 0) (sl' := 0) rfl ?_
      rcases ai_ifE h with ⟨hc, h⟩ | ⟨hc, h⟩
      · refine ev_ic_le (t := 30) rfl rfl (fun _ => ?_) (fun c9 => absurd hc c9)
        refine ev_go 2 (pc' := 10) (L' := [some (.int y1810), some (.int y1811), some (.int y1812), some (.int y1813), some (.int (y1814 + 1))]) (st' := []) (h' := hh) (cs' := 0) (sl' := 0) rfl ?_
        exact ih0 _ _ _ _ _ _ h hh
      · refine ev_ic_le (t := 30) rfl rfl (fun c9 => absurd c9 hc) (fun _ => ?_)
        refine ev_go 1 (pc' := 29) (L' := [some (.int y1810), some (.int y1811), some (.int y1812), some (.int y1813), some (.int y1814)]) (st' := [.int 0]) (h' := hh) (cs' := 0) (sl' := 0) rfl ?_
        obtain rfl := Option.some.inj h
        exact ev_end rfl
set_option maxHeartbeats 40000000 in
set_option maxRecDepth 100000 in
theorem Ef_isBestTap (n : Nat) (x1803 : Int32) (x1804 : Int32) (x1805 : Int32) (r : Int32) (h : Ff_isBestTap n x1803 x1804 x1805 = some r) (hh : ai_H) : ai_ev D1 mf_isBestTap 0 [some (.int x1803), some (.int x1804), some (.int x1805), none, none] [] hh 0 0 (some (.int r), hh) := by
  unfold Ff_isBestTap at h
  have ih0 := EGf_isBestTap n
  refine ev_go 3 (pc' := 3) (L' := [some (.int x1803), some (.int x1804), some (.int x1805), none, none]) (st' := [.int x1805, .int x1804, .int x1803]) (h' := hh) (cs' := 0) (sl' := 0) rfl ?_
  obtain ⟨c1809, hq, h⟩ := ai_bdE h
  refine ev_call (M' := mf_tapped) (L' := [some (.int x1803), some (.int x1804), some (.int x1805)]) (rest := []) (rv := some (.int c1809)) (h' := hh) rfl (Ef_tapped x1803 x1804 x1805 _ hq hh) ?_
  show ai_ev D1 mf_isBestTap 6 [some (.int x1803), some (.int x1804), some (.int x1805), none, none] [.int c1809] hh 0 0 _
  refine ev_go 3 (pc' := 10) (L' := [some (.int x1803), some (.int x1804), some (.int x1805), some (.int c1809), some (.int 0)]) (st' := []) (h' := hh) (cs' := 0) (sl' := 0) rfl ?_
  exact ih0 _ _ _ _ _ _ h hh
set_option maxHeartbeats 40000000 in
set_option maxRecDepth 100000 in
theorem EGf_tap_0 : ∀ n : Nat, (∀ (y1792 : Int32) (y1793 : Int32) (y1794 : Int32) (y1795 : Int32) (y1796 : Int32) (w : WX) (r : Int32) (w' : WX), Gf_tap_0 n 0 y1792 y1793 y1794 y1795 y1796 0 w = some (r, w') → ∀ (T : ai_H) (o6 : Option Value), ai_ev D1 mf_tap 32 [some (.ref 0), some (.int y1792), some (.int y1793), some (.int y1794), some (.int y1795), some (.int y1796), o6] [] (HX w T) 0 0 (some (.int r), HX w' T)) ∧ (∀ (y1797 : Int32) (y1798 : Int32) (y1799 : Int32) (y1800 : Int32) (y1801 : Int32) (y1802 : Int32) (w : WX) (r : Int32) (w' : WX), Gf_tap_0 n 1 y1797 y1798 y1799 y1800 y1801 y1802 w = some (r, w') → ∀ (T : ai_H), ai_ev D1 mf_tap 42 [some (.ref 0), some (.int y1797), some (.int y1798), some (.int y1799), some (.int y1800), some (.int y1801), some (.int y1802)] [] (HX w T) 0 0 (some (.int r), HX w' T)) := by
  intro n
  induction n with
  | zero =>
    exact ⟨(fun _ _ _ _ _ _ _ _ h => by cases h), (fun _ _ _ _ _ _ _ _ _ h => by cases h)⟩
  | succ n ih =>
    obtain ⟨ih0, ih1⟩ := ih
    refine ⟨?_, ?_⟩
    · intro y1792 y1793 y1794 y1795 y1796 w r w' h T o6
      simp only [Gf_tap_0] at h
      refine ev_go 2 (pc' := 36) (L' := [some (.ref 0), some (.int y1792), some (.int y1793), some (.int y1794), some (.int y1795), some (.int y1796), o6]) (st' := [.int 9, .int y1796]) (h' := (HX w T)) (cs' := 0) (sl' := 0) rfl ?_
      rcases ai_ifE h with ⟨hc, h⟩ | ⟨hc, h⟩
      · refine ev_ic_gt (t := 107) rfl rfl (fun _ => ?_) (fun c9 => absurd hc c9)
        refine ev_go 1 (pc' := 108) (L' := [some (.ref 0), some (.int y1792), some (.int y1793), some (.int y1794), some (.int y1795), some (.int y1796), o6]) (st' := [.int y1792]) (h' := (HX w T)) (cs' := 0) (sl' := 0) rfl ?_
        rcases ai_ifE h with ⟨hc, h⟩ | ⟨hc, h⟩
        · refine ev_if_ne (t := 115) rfl rfl (fun c9 => absurd hc c9) (fun _ => ?_)
          refine ev_go 2 (pc' := 117) (L' := [some (.ref 0), some (.int y1792), some (.int y1793), some (.int y1794), some (.int y1795), some (.int y1796), o6]) (st' := [.int y1794]) (h' := (HX w T)) (cs' := 0) (sl' := 0) rfl ?_
          obtain ⟨rfl, rfl⟩ := ai_smP h
          exact ev_end rfl
        · refine ev_if_ne (t := 115) rfl rfl (fun _ => ?_) (fun c9 => absurd c9 hc)
          refine ev_go 1 (pc' := 117) (L' := [some (.ref 0), some (.int y1792), some (.int y1793), some (.int y1794), some (.int y1795), some (.int y1796), o6]) (st' := [.int y1795]) (h' := (HX w T)) (cs' := 0) (sl' := 0) rfl ?_
          obtain ⟨rfl, rfl⟩ := ai_smP h
          exact ev_end rfl
      · refine ev_ic_gt (t := 107) rfl rfl (fun c9 => absurd c9 hc) (fun _ => ?_)
        refine ev_go 2 (pc' := 42) (L' := [some (.ref 0), some (.int y1792), some (.int y1793), some (.int y1794), some (.int y1795), some (.int y1796), some (.int 0)]) (st' := []) (h' := (HX w T)) (cs' := 0) (sl' := 0) rfl ?_
        exact ih1 _ _ _ _ _ _ _ _ _ h T
    · intro y1797 y1798 y1799 y1800 y1801 y1802 w r w' h T
      simp only [Gf_tap_0] at h
      refine ev_go 2 (pc' := 46) (L' := [some (.ref 0), some (.int y1797), some (.int y1798), some (.int y1799), some (.int y1800), some (.int y1801), some (.int y1802)]) (st' := [.int 9, .int y1802]) (h' := (HX w T)) (cs' := 0) (sl' := 0) rfl ?_
      rcases ai_ifE h with ⟨hc, h⟩ | ⟨hc, h⟩
      · refine ev_ic_gt (t := 101) rfl rfl (fun _ => ?_) (fun c9 => absurd hc c9)
        refine ev_go 2 (pc' := 32) (L' := [some (.ref 0), some (.int y1797), some (.int y1798), some (.int y1799), some (.int y1800), some (.int (y1801 + 1)), some (.int y1802)]) (st' := []) (h' := (HX w T)) (cs' := 0) (sl' := 0) rfl ?_
        exact ih0 _ _ _ _ _ _ _ _ h T _
      · refine ev_ic_gt (t := 101) rfl rfl (fun c9 => absurd c9 hc) (fun _ => ?_)
        refine ev_go 3 (pc' := 54) (L' := [some (.ref 0), some (.int y1797), some (.int y1798), some (.int y1799), some (.int y1800), some (.int y1801), some (.int y1802)]) (st' := [.int y1798, .int y1802, .int y1801]) (h' := (HX w T)) (cs' := 0) (sl' := 0) rfl ?_
        obtain ⟨c1816, hq, h⟩ := ai_bdE h
        refine ev_call (M' := mf_isBestTap) (L' := [some (.int y1801), some (.int y1802), some (.int y1798), none, none]) (rest := []) (rv := some (.int c1816)) (h' := (HX w T)) rfl (Ef_isBestTap n y1801 y1802 y1798 _ hq (HX w T)) ?_
        show ai_ev D1 mf_tap 57 [some (.ref 0), some (.int y1797), some (.int y1798), some (.int y1799), some (.int y1800), some (.int y1801), some (.int y1802)] [.int c1816] (HX w T) 0 0 _
        rcases ai_ifE h with ⟨hc, h⟩ | ⟨hc, h⟩
        · refine ev_if_eq (t := 95) rfl rfl (fun _ => ?_) (fun c9 => absurd hc c9)
          refine ev_go 2 (pc' := 42) (L' := [some (.ref 0), some (.int y1797), some (.int y1798), some (.int y1799), some (.int y1800), some (.int y1801), some (.int (y1802 + 1))]) (st' := []) (h' := (HX w T)) (cs' := 0) (sl' := 0) rfl ?_
          exact ih1 _ _ _ _ _ _ _ _ _ h T
        · refine ev_if_eq (t := 95) rfl rfl (fun c9 => absurd c9 hc) (fun _ => ?_)
          refine ev_go 3 (pc' := 65) (L' := [some (.ref 0), some (.int y1797), some (.int y1798), some (.int y1799), some (.int y1800), some (.int y1801), some (.int y1802)]) (st' := [.int y1798, .int y1801, .int y1802]) (h' := (HX w T)) (cs' := 0) (sl' := 0) rfl ?_
          obtain ⟨c1817, hq, h⟩ := ai_bdE h
          refine ev_call (M' := mf_isBestTap) (L' := [some (.int y1802), some (.int y1801), some (.int y1798), none, none]) (rest := []) (rv := some (.int c1817)) (h' := (HX w T)) rfl (Ef_isBestTap n y1802 y1801 y1798 _ hq (HX w T)) ?_
          show ai_ev D1 mf_tap 68 [some (.ref 0), some (.int y1797), some (.int y1798), some (.int y1799), some (.int y1800), some (.int y1801), some (.int y1802)] [.int c1817] (HX w T) 0 0 _
          rcases ai_ifE h with ⟨hc, h⟩ | ⟨hc, h⟩
          · refine ev_if_eq (t := 95) rfl rfl (fun _ => ?_) (fun c9 => absurd hc c9)
            refine ev_go 2 (pc' := 42) (L' := [some (.ref 0), some (.int y1797), some (.int y1798), some (.int y1799), some (.int y1800), some (.int y1801), some (.int (y1802 + 1))]) (st' := []) (h' := (HX w T)) (cs' := 0) (sl' := 0) rfl ?_
            exact ih1 _ _ _ _ _ _ _ _ _ h T
          · refine ev_if_eq (t := 95) rfl rfl (fun c9 => absurd c9 hc) (fun _ => ?_)
            refine ev_go 3 (pc' := 77) (L' := [some (.ref 0), some (.int y1797), some (.int y1798), some (.int (y1799 + 1)), some (.int y1800), some (.int y1801), some (.int y1802)]) (st' := [.int (-1), .int y1800]) (h' := (HX w T)) (cs' := 0) (sl' := 0) rfl ?_
            rcases ai_ifE h with ⟨hc, h⟩ | ⟨hc, h⟩
            · refine ev_ic_ne (t := 91) rfl rfl (fun c9 => absurd hc c9) (fun _ => ?_)
              refine ev_go 9 (pc' := 42) (L' := [some (.ref 0), some (.int y1797), some (.int y1798), some (.int (y1799 + 1)), some (.int ((10 * y1801) + y1802)), some (.int y1801), some (.int (y1802 + 1))]) (st' := []) (h' := (HX w T)) (cs' := 0) (sl' := 0) rfl ?_
              exact ih1 _ _ _ _ _ _ _ _ _ h T
            · refine ev_ic_ne (t := 91) rfl rfl (fun _ => ?_) (fun c9 => absurd c9 hc)
              refine ev_go 4 (pc' := 42) (L' := [some (.ref 0), some (.int y1797), some (.int y1798), some (.int (y1799 + 1)), some (.int y1800), some (.int y1801), some (.int (y1802 + 1))]) (st' := []) (h' := (HX w T)) (cs' := 0) (sl' := 0) rfl ?_
              exact ih1 _ _ _ _ _ _ _ _ _ h T
set_option maxHeartbeats 40000000 in
set_option maxRecDepth 100000 in
theorem Ef_tap_0 (n : Nat) (x1785 : Int32) (w : WX) (r : Int32) (w' : WX) (h : Ff_tap_0 n x1785 w = some (r, w')) (T : ai_H) : ai_ev D1 mf_tap 0 [some (.ref 0), some (.int x1785), none, none, none, none, none] [] (HX w T) 0 0 (some (.int r), HX w' T) := by
  unfold Ff_tap_0 at h
  obtain ⟨ih0, ih1⟩ := EGf_tap_0 n
  refine ev_go 3 (pc' := 3) (L' := [some (.ref 0), some (.int x1785), none, none, none, none, none]) (st' := [.int 1, .int 0, .int x1785]) (h' := (HX w T)) (cs' := 0) (sl' := 0) rfl ?_
  obtain ⟨c1786, hq, h⟩ := ai_bdE h
  refine ev_call (M' := mf_within) (L' := [some (.int x1785), some (.int 0), some (.int 1)]) (rest := []) (rv := some (.int c1786)) (h' := (HX w T)) rfl (Ef_within x1785 0 1 _ hq (HX w T)) ?_
  show ai_ev D1 mf_tap 6 [some (.ref 0), some (.int x1785), none, none, none, none, none] [.int c1786] (HX w T) 0 0 _
  rcases ai_ifE h with ⟨hc, h⟩ | ⟨hc, h⟩
  · refine ev_if_ne (t := 16) rfl rfl (fun c9 => absurd hc c9) (fun _ => ?_)
    refine ev_go 2 (pc' := 12) (L' := [some (.ref 0), some (.int x1785), none, none, none, none, none]) (st' := [.int (-10), .ref 0]) (h' := (HX w T)) (cs' := 0) (sl' := 0) rfl ?_
    obtain ⟨c1791, hq, h⟩ := ai_bdE h
    refine ev_call (M' := mf_bad) (L' := [some (.ref 0), some (.int (-10))]) (rest := []) (rv := some (.int c1791.1)) (h' := (HX c1791.2 T)) rfl (Ef_bad_0 (-10) w _ _ hq T) ?_
    show ai_ev D1 mf_tap 15 [some (.ref 0), some (.int x1785), none, none, none, none, none] [.int c1791.1] (HX c1791.2 T) 0 0 _
    obtain ⟨rfl, rfl⟩ := ai_smP h
    exact ev_end rfl
  · refine ev_if_ne (t := 16) rfl rfl (fun _ => ?_) (fun c9 => absurd c9 hc)
    refine ev_go 2 (pc' := 20) (L' := [some (.ref 0), some (.int x1785), none, none, none, none, none]) (st' := [.ref 1]) (h' := (HX w T)) (cs' := 0) (sl' := 0) rfl ?_
    obtain ⟨c1790, hq, h⟩ := ai_bdE h
    refine ev_call (M' := msea_sweetInAll) (L' := [some (.ref 1), none, none]) (rest := []) (rv := some (.int c1790.1)) (h' := (HX c1790.2 T)) rfl (Esea_sweetInAll_1 n w _ _ hq T) ?_
    show ai_ev D1 mf_tap 23 [some (.ref 0), some (.int x1785), none, none, none, none, none] [.int c1790.1] (HX c1790.2 T) 0 0 _
    refine ev_go 7 (pc' := 32) (L' := [some (.ref 0), some (.int x1785), some (.int c1790.1), some (.int 0), some (.int (-1)), some (.int 0), none]) (st' := []) (h' := (HX c1790.2 T)) (cs' := 0) (sl' := 0) rfl ?_
    exact ih0 _ _ _ _ _ _ _ _ h T _
set_option maxHeartbeats 40000000 in
set_option maxRecDepth 100000 in
theorem EGsea_fitsDrops_1 : ∀ n : Nat, (∀ (y1844 : Int32) (y1845 : Int32) (y1846 : Int32) (w : WX) (r : Int32) (w' : WX), Gsea_fitsDrops_1 n 0 y1844 y1845 y1846 w = some (r, w') → ∀ (T : ai_H) (o4 : Option Value), ai_ev D1 msea_fitsDrops 2 [some (.ref 1), some (.int y1844), some (.int y1845), some (.int y1846), o4] [] (HX w T) 0 0 (some (.int r), HX w' T)) := by
  intro n
  induction n with
  | zero =>
    exact (fun _ _ _ _ _ _ h => by cases h)
  | succ n ih0 =>
    intro y1844 y1845 y1846 w r w' h T o4
    simp only [Gsea_fitsDrops_1] at h
    refine ev_go 3 (pc' := 7) (L' := [some (.ref 1), some (.int y1844), some (.int y1845), some (.int y1846), o4]) (st' := [.int (a_s1_drops w), .int y1846]) (h' := (HX w T)) (cs' := 0) (sl' := 0) rfl ?_
    rcases ai_ifE h with ⟨hc, h⟩ | ⟨hc, h⟩
    · refine ev_ic_ge (t := 62) rfl rfl (fun _ => ?_) (fun c9 => absurd hc c9)
      refine ev_go 1 (pc' := 63) (L' := [some (.ref 1), some (.int y1844), some (.int y1845), some (.int y1846), o4]) (st' := [.int 1]) (h' := (HX w T)) (cs' := 0) (sl' := 0) rfl ?_
      obtain ⟨rfl, rfl⟩ := ai_smP h
      exact ev_end rfl
    · refine ev_ic_ge (t := 62) rfl rfl (fun c9 => absurd c9 hc) (fun _ => ?_)
      refine ev_go 7 (pc' := 21) (L' := [some (.ref 1), some (.int y1844), some (.int y1845), some (.int y1846), o4]) (st' := [.int y1846, .ref 17, .ref 2, .int y1844, .int y1845]) (h' := (HX w T)) (cs' := 0) (sl' := 0) rfl ?_
      obtain ⟨v1847, hq, h⟩ := ai_bdE h
      refine ev_iald rfl rfl hq ?_
      obtain ⟨v1848, hq, h⟩ := ai_bdE h
      refine ev_iald rfl rfl hq ?_
      refine ev_go 1 (pc' := 24) (L' := [some (.ref 1), some (.int y1844), some (.int y1845), some (.int y1846), o4]) (st' := [.int (y1844 * v1848), .int y1845]) (h' := (HX w T)) (cs' := 0) (sl' := 0) rfl ?_
      rcases ai_ifE h with ⟨hc, h⟩ | ⟨hc, h⟩
      · refine ev_ic_gt (t := 31) rfl rfl (fun _ => ?_) (fun c9 => absurd hc c9)
        refine ev_go 6 (pc' := 41) (L' := [some (.ref 1), some (.int y1844), some (.int y1845), some (.int y1846), some (.int 0)]) (st' := [.int y1846, .ref 18, .int 0]) (h' := (HX w T)) (cs' := 0) (sl' := 0) rfl ?_
        obtain ⟨v1849, hq, h⟩ := ai_bdE h
        refine ev_iald rfl rfl hq ?_
        refine ev_go 1 (pc' := 43) (L' := [some (.ref 1), some (.int y1844), some (.int y1845), some (.int y1846), some (.int 0)]) (st' := [.int 1, .int v1849, .int 0]) (h' := (HX w T)) (cs' := 0) (sl' := 0) rfl ?_
        rcases ai_ifE h with ⟨hc, h⟩ | ⟨hc, h⟩
        · refine ev_ic_ne (t := 50) rfl rfl (fun c9 => absurd hc c9) (fun _ => ?_)
          refine ev_go 4 (pc' := 55) (L' := [some (.ref 1), some (.int y1844), some (.int y1845), some (.int y1846), some (.int 0)]) (st' := [.int 0]) (h' := (HX w T)) (cs' := 0) (sl' := 0) rfl ?_
          obtain ⟨rfl, rfl⟩ := ai_smP h
          exact ev_end rfl
        · refine ev_ic_ne (t := 50) rfl rfl (fun _ => ?_) (fun c9 => absurd c9 hc)
          refine ev_go 4 (pc' := 2) (L' := [some (.ref 1), some (.int y1844), some (.int y1845), some (.int (y1846 + 1)), some (.int 0)]) (st' := []) (h' := (HX w T)) (cs' := 0) (sl' := 0) rfl ?_
          exact ih0 _ _ _ _ _ _ h T _
      · refine ev_ic_gt (t := 31) rfl rfl (fun c9 => absurd c9 hc) (fun _ => ?_)
        refine ev_go 7 (pc' := 41) (L' := [some (.ref 1), some (.int y1844), some (.int y1845), some (.int y1846), some (.int 1)]) (st' := [.int y1846, .ref 18, .int 1]) (h' := (HX w T)) (cs' := 0) (sl' := 0) rfl ?_
        obtain ⟨v1850, hq, h⟩ := ai_bdE h
        refine ev_iald rfl rfl hq ?_
        refine ev_go 1 (pc' := 43) (L' := [some (.ref 1), some (.int y1844), some (.int y1845), some (.int y1846), some (.int 1)]) (st' := [.int 1, .int v1850, .int 1]) (h' := (HX w T)) (cs' := 0) (sl' := 0) rfl ?_
        rcases ai_ifE h with ⟨hc, h⟩ | ⟨hc, h⟩
        · refine ev_ic_ne (t := 50) rfl rfl (fun c9 => absurd hc c9) (fun _ => ?_)
          refine ev_go 5 (pc' := 2) (L' := [some (.ref 1), some (.int y1844), some (.int y1845), some (.int (y1846 + 1)), some (.int 1)]) (st' := []) (h' := (HX w T)) (cs' := 0) (sl' := 0) rfl ?_
          exact ih0 _ _ _ _ _ _ h T _
        · refine ev_ic_ne (t := 50) rfl rfl (fun _ => ?_) (fun c9 => absurd c9 hc)
          refine ev_go 3 (pc' := 55) (L' := [some (.ref 1), some (.int y1844), some (.int y1845), some (.int y1846), some (.int 1)]) (st' := [.int 0]) (h' := (HX w T)) (cs' := 0) (sl' := 0) rfl ?_
          obtain ⟨rfl, rfl⟩ := ai_smP h
          exact ev_end rfl
set_option maxHeartbeats 40000000 in
set_option maxRecDepth 100000 in
theorem Esea_fitsDrops_1 (n : Nat) (x1842 : Int32) (x1843 : Int32) (w : WX) (r : Int32) (w' : WX) (h : Fsea_fitsDrops_1 n x1842 x1843 w = some (r, w')) (T : ai_H) : ai_ev D1 msea_fitsDrops 0 [some (.ref 1), some (.int x1842), some (.int x1843), none, none] [] (HX w T) 0 0 (some (.int r), HX w' T) := by
  unfold Fsea_fitsDrops_1 at h
  have ih0 := EGsea_fitsDrops_1 n
  refine ev_go 2 (pc' := 2) (L' := [some (.ref 1), some (.int x1842), some (.int x1843), some (.int 0), none]) (st' := []) (h' := (HX w T)) (cs' := 0) (sl' := 0) rfl ?_
  exact ih0 _ _ _ _ _ _ h T _
set_option maxHeartbeats 40000000 in
set_option maxRecDepth 100000 in
theorem EGf_nextToTry_0 : ∀ n : Nat, (∀ (y1830 : Int32) (y1831 : Int32) (y1832 : Int32) (y1833 : Int32) (y1834 : Int32) (w : WX) (r : Int32) (w' : WX), Gf_nextToTry_0 n 0 y1830 y1831 y1832 y1833 y1834 0 0 w = some (r, w') → ∀ (T : ai_H) (o6 o7 : Option Value), ai_ev D1 mf_nextToTry 10 [some (.ref 0), some (.int y1830), some (.int y1831), some (.int y1832), some (.int y1833), some (.int y1834), o6, o7] [] (HX w T) 0 0 (some (.int r), HX w' T)) ∧ (∀ (y1835 : Int32) (y1836 : Int32) (y1837 : Int32) (y1838 : Int32) (y1839 : Int32) (y1840 : Int32) (y1841 : Int32) (w : WX) (r : Int32) (w' : WX), Gf_nextToTry_0 n 1 y1835 y1836 y1837 y1838 y1839 y1840 y1841 w = some (r, w') → ∀ (T : ai_H), ai_ev D1 mf_nextToTry 22 [some (.ref 0), some (.int y1835), some (.int y1836), some (.int y1837), some (.int y1838), some (.int y1839), some (.int y1840), some (.int y1841)] [] (HX w T) 0 0 (some (.int r), HX w' T)) := by
  intro n
  induction n with
  | zero =>
    exact ⟨(fun _ _ _ _ _ _ _ _ h => by cases h), (fun _ _ _ _ _ _ _ _ _ _ h => by cases h)⟩
  | succ n ih =>
    obtain ⟨ih0, ih1⟩ := ih
    refine ⟨?_, ?_⟩
    · intro y1830 y1831 y1832 y1833 y1834 w r w' h T o6 o7
      simp only [Gf_nextToTry_0] at h
      refine ev_go 2 (pc' := 13) (L' := [some (.ref 0), some (.int y1830), some (.int y1831), some (.int y1832), some (.int y1833), some (.int y1834), o6, o7]) (st' := [.int 4, .int y1834]) (h' := (HX w T)) (cs' := 0) (sl' := 0) rfl ?_
      rcases ai_ifE h with ⟨hc, h⟩ | ⟨hc, h⟩
      · refine ev_ic_ge (t := 99) rfl rfl (fun _ => ?_) (fun c9 => absurd hc c9)
        refine ev_go 1 (pc' := 100) (L' := [some (.ref 0), some (.int y1830), some (.int y1831), some (.int y1832), some (.int y1833), some (.int y1834), o6, o7]) (st' := [.int y1832]) (h' := (HX w T)) (cs' := 0) (sl' := 0) rfl ?_
        obtain ⟨rfl, rfl⟩ := ai_smP h
        exact ev_end rfl
      · refine ev_ic_ge (t := 99) rfl rfl (fun c9 => absurd c9 hc) (fun _ => ?_)
        refine ev_go 4 (pc' := 22) (L' := [some (.ref 0), some (.int y1830), some (.int y1831), some (.int y1832), some (.int y1833), some (.int y1834), some (.int 0), some (.int 1)]) (st' := []) (h' := (HX w T)) (cs' := 0) (sl' := 0) rfl ?_
        exact ih1 _ _ _ _ _ _ _ _ _ _ h T
    · intro y1835 y1836 y1837 y1838 y1839 y1840 y1841 w r w' h T
      simp only [Gf_nextToTry_0] at h
      refine ev_go 2 (pc' := 26) (L' := [some (.ref 0), some (.int y1835), some (.int y1836), some (.int y1837), some (.int y1838), some (.int y1839), some (.int y1840), some (.int y1841)]) (st' := [.int 99, .int y1841]) (h' := (HX w T)) (cs' := 0) (sl' := 0) rfl ?_
      rcases ai_ifE h with ⟨hc, h⟩ | ⟨hc, h⟩
      · refine ev_ic_gt (t := 68) rfl rfl (fun _ => ?_) (fun c9 => absurd hc c9)
        refine ev_go 8 (pc' := 83) (L' := [some (.ref 0), some (.int y1835), some (.int y1836), some (.int y1837), some (.int y1838), some (.int y1839), some (.int y1840), some (.int (if y1840 < (y1836 - y1840) then (y1836 - y1840) else y1840))]) (st' := [.int y1838, .int (if y1840 < (y1836 - y1840) then (y1836 - y1840) else y1840)]) (h' := (HX w T)) (cs' := 0) (sl' := 0) rfl ?_
        rcases ai_ifE h with ⟨hc, h⟩ | ⟨hc, h⟩
        · refine ev_ic_ge (t := 93) rfl rfl (fun _ => ?_) (fun c9 => absurd hc c9)
          refine ev_go 2 (pc' := 10) (L' := [some (.ref 0), some (.int y1835), some (.int y1836), some (.int y1837), some (.int y1838), some (.int (y1839 + 1)), some (.int y1840), some (.int (if y1840 < (y1836 - y1840) then (y1836 - y1840) else y1840))]) (st' := []) (h' := (HX w T)) (cs' := 0) (sl' := 0) rfl ?_
          exact ih0 _ _ _ _ _ _ _ _ h T _ _
        · refine ev_ic_ge (t := 93) rfl rfl (fun c9 => absurd c9 hc) (fun _ => ?_)
          refine ev_go 6 (pc' := 10) (L' := [some (.ref 0), some (.int y1835), some (.int y1836), some (.int y1839), some (.int (if y1840 < (y1836 - y1840) then (y1836 - y1840) else y1840)), some (.int (y1839 + 1)), some (.int y1840), some (.int (if y1840 < (y1836 - y1840) then (y1836 - y1840) else y1840))]) (st' := []) (h' := (HX w T)) (cs' := 0) (sl' := 0) rfl ?_
          exact ih0 _ _ _ _ _ _ _ _ h T _ _
      · refine ev_ic_gt (t := 68) rfl rfl (fun c9 => absurd c9 hc) (fun _ => ?_)
        refine ev_go 4 (pc' := 36) (L' := [some (.ref 0), some (.int y1835), some (.int y1836), some (.int y1837), some (.int y1838), some (.int y1839), some (.int y1840), some (.int y1841)]) (st' := [.int y1841, .int y1835, .ref 1]) (h' := (HX w T)) (cs' := 0) (sl' := 0) rfl ?_
        obtain ⟨c1851, hq, h⟩ := ai_bdE h
        refine ev_call (M' := msea_fitsDrops) (L' := [some (.ref 1), some (.int y1835), some (.int y1841), none, none]) (rest := []) (rv := some (.int c1851.1)) (h' := (HX c1851.2 T)) rfl (Esea_fitsDrops_1 n y1835 y1841 w _ _ hq T) ?_
        show ai_ev D1 mf_nextToTry 39 [some (.ref 0), some (.int y1835), some (.int y1836), some (.int y1837), some (.int y1838), some (.int y1839), some (.int y1840), some (.int y1841)] [.int c1851.1] (HX c1851.2 T) 0 0 _
        rcases ai_ifE h with ⟨hc, h⟩ | ⟨hc, h⟩
        · refine ev_if_eq (t := 62) rfl rfl (fun _ => ?_) (fun c9 => absurd hc c9)
          refine ev_go 2 (pc' := 22) (L' := [some (.ref 0), some (.int y1835), some (.int y1836), some (.int y1837), some (.int y1838), some (.int y1839), some (.int y1840), some (.int (y1841 + 1))]) (st' := []) (h' := (HX c1851.2 T)) (cs' := 0) (sl' := 0) rfl ?_
          exact ih1 _ _ _ _ _ _ _ _ _ _ h T
        · refine ev_if_eq (t := 62) rfl rfl (fun c9 => absurd c9 hc) (fun _ => ?_)
          refine ev_go 6 (pc' := 54) (L' := [some (.ref 0), some (.int y1835), some (.int y1836), some (.int y1837), some (.int y1838), some (.int y1839), some (.int y1840), some (.int y1841)]) (st' := [.int y1839, .ref 2, .int y1835, .int y1841]) (h' := (HX c1851.2 T)) (cs' := 0) (sl' := 0) rfl ?_
          obtain ⟨v1852, hq, h⟩ := ai_bdE h
          refine ev_iald rfl rfl hq ?_
          refine ev_go 1 (pc' := 56) (L' := [some (.ref 0), some (.int y1835), some (.int y1836), some (.int y1837), some (.int y1838), some (.int y1839), some (.int y1840), some (.int y1841)]) (st' := [.int (y1835 * v1852), .int y1841]) (h' := (HX c1851.2 T)) (cs' := 0) (sl' := 0) rfl ?_
          rcases ai_ifE h with ⟨hc, h⟩ | ⟨hc, h⟩
          · refine ev_ic_gt (t := 62) rfl rfl (fun _ => ?_) (fun c9 => absurd hc c9)
            refine ev_go 2 (pc' := 22) (L' := [some (.ref 0), some (.int y1835), some (.int y1836), some (.int y1837), some (.int y1838), some (.int y1839), some (.int y1840), some (.int (y1841 + 1))]) (st' := []) (h' := (HX c1851.2 T)) (cs' := 0) (sl' := 0) rfl ?_
            exact ih1 _ _ _ _ _ _ _ _ _ _ h T
          · refine ev_ic_gt (t := 62) rfl rfl (fun c9 => absurd c9 hc) (fun _ => ?_)
            refine ev_go 3 (pc' := 22) (L' := [some (.ref 0), some (.int y1835), some (.int y1836), some (.int y1837), some (.int y1838), some (.int y1839), some (.int (y1840 + 1)), some (.int (y1841 + 1))]) (st' := []) (h' := (HX c1851.2 T)) (cs' := 0) (sl' := 0) rfl ?_
            exact ih1 _ _ _ _ _ _ _ _ _ _ h T
set_option maxHeartbeats 40000000 in
set_option maxRecDepth 100000 in
theorem Ef_nextToTry_0 (n : Nat) (x1828 : Int32) (x1829 : Int32) (w : WX) (r : Int32) (w' : WX) (h : Ff_nextToTry_0 n x1828 x1829 w = some (r, w')) (T : ai_H) : ai_ev D1 mf_nextToTry 0 [some (.ref 0), some (.int x1828), some (.int x1829), none, none, none, none, none] [] (HX w T) 0 0 (some (.int r), HX w' T) := by
  unfold Ff_nextToTry_0 at h
  obtain ⟨ih0, ih1⟩ := EGf_nextToTry_0 n
  refine ev_go 8 (pc' := 10) (L' := [some (.ref 0), some (.int x1828), some (.int x1829), some (.int (-1)), some (.int (x1829 + 1)), some (.int 0), none, none]) (st' := []) (h' := (HX w T)) (cs' := 0) (sl' := 0) rfl ?_
  exact ih0 _ _ _ _ _ _ _ _ h T _ _
