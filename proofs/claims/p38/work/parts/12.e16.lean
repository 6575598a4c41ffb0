set_option maxHeartbeats 40000000 in
set_option maxRecDepth 100000 in
theorem Eint_bitCount (x1645 : Int32) (r : Int32) (h : Fint_bitCount x1645 = some r) (hh : ai_H) : ai_ev D1 mint_bitCount 0 [some (.int x1645)] [] hh 0 0 (some (.int r), hh) := by
  unfold Fint_bitCount at h
  refine ev_go 41 (pc' := 52) (L' := [some (.int (((((((x1645 - (((x1645 : Int32).toUInt32 >>> ((1 : Int32).toUInt32 &&& Int32.toUInt32 31)).toInt32 &&& 1431655765)) &&& 858993459) + ((((x1645 - (((x1645 : Int32).toUInt32 >>> ((1 : Int32).toUInt32 &&& Int32.toUInt32 31)).toInt32 &&& 1431655765)) : Int32).toUInt32 >>> ((2 : Int32).toUInt32 &&& Int32.toUInt32 31)).toInt32 &&& 858993459)) + (((((x1645 - (((x1645 : Int32).toUInt32 >>> ((1 : Int32).toUInt32 &&& Int32.toUInt32 31)).toInt32 &&& 1431655765)) &&& 858993459) + ((((x1645 - (((x1645 : Int32).toUInt32 >>> ((1 : Int32).toUInt32 &&& Int32.toUInt32 31)).toInt32 &&& 1431655765)) : Int32).toUInt32 >>> ((2 : Int32).toUInt32 &&& Int32.toUInt32 31)).toInt32 &&& 858993459)) : Int32).toUInt32 >>> ((4 : Int32).toUInt32 &&& Int32.toUInt32 31)).toInt32) &&& 252645135) + (((((((x1645 - (((x1645 : Int32).toUInt32 >>> ((1 : Int32).toUInt32 &&& Int32.toUInt32 31)).toInt32 &&& 1431655765)) &&& 858993459) + ((((x1645 - (((x1645 : Int32).toUInt32 >>> ((1 : Int32).toUInt32 &&& Int32.toUInt32 31)).toInt32 &&& 1431655765)) : Int32).toUInt32 >>> ((2 : Int32).toUInt32 &&& Int32.toUInt32 31)).toInt32 &&& 858993459)) + (((((x1645 - (((x1645 : Int32).toUInt32 >>> ((1 : Int32).toUInt32 &&& Int32.toUInt32 31)).toInt32 &&& 1431655765)) &&& 858993459) + ((((x1645 - (((x1645 : Int32).toUInt32 >>> ((1 : Int32).toUInt32 &&& Int32.toUInt32 31)).toInt32 &&& 1431655765)) : Int32).toUInt32 >>> ((2 : Int32).toUInt32 &&& Int32.toUInt32 31)).toInt32 &&& 858993459)) : Int32).toUInt32 >>> ((4 : Int32).toUInt32 &&& Int32.toUInt32 31)).toInt32) &&& 252645135) : Int32).toUInt32 >>> ((8 : Int32).toUInt32 &&& Int32.toUInt32 31)).toInt32) + ((((((((x1645 - (((x1645 : Int32).toUInt32 >>> ((1 : Int32).toUInt32 &&& Int32.toUInt32 31)).toInt32 &&& 1431655765)) &&& 858993459) + ((((x1645 - (((x1645 : Int32).toUInt32 >>> ((1 : Int32).toUInt32 &&& Int32.toUInt32 31)).toInt32 &&& 1431655765)) : Int32).toUInt32 >>> ((2 : Int32).toUInt32 &&& Int32.toUInt32 31)).toInt32 &&& 858993459)) + (((((x1645 - (((x1645 : Int32).toUInt32 >>> ((1 : Int32).toUInt32 &&& Int32.toUInt32 31)).toInt32 &&& 1431655765)) &&& 858993459) + ((((x1645 - (((x1645 : Int32).toUInt32 >>> ((1 : Int32).toUInt32 &&& Int32.toUInt32 31)).toInt32 &&& 1431655765)) : Int32).toUInt32 >>> ((2 : Int32).toUInt32 &&& Int32.toUInt32 31)).toInt32 &&& 858993459)) : Int32).toUInt32 >>> ((4 : Int32).toUInt32 &&& Int32.toUInt32 31)).toInt32) &&& 252645135) + (((((((x1645 - (((x1645 : Int32).toUInt32 >>> ((1 : Int32).toUInt32 &&& Int32.toUInt32 31)).toInt32 &&& 1431655765)) &&& 858993459) + ((((x1645 - (((x1645 : Int32).toUInt32 >>> ((1 : Int32).toUInt32 &&& Int32.toUInt32 31)).toInt32 &&& 1431655765)) : Int32).toUInt32 >>> ((2 : Int32).toUInt32 &&& Int32.toUInt32 31)).toInt32 &&& 858993459)) + (((((x1645 - (((x1645 : Int32).toUInt32 >>> ((1 : Int32).toUInt32 &&& Int32.toUInt32 31)).toInt32 &&& 1431655765)) &&& 858993459) + ((((x1645 - (((x1645 : Int32).toUInt32 >>> ((1 : Int32).toUInt32 &&& Int32.toUInt32 31)).toInt32 &&& 1431655765)) : Int32).toUInt32 >>> ((2 : Int32).toUInt32 &&& Int32.toUInt32 31)).toInt32 &&& 858993459)) : Int32).toUInt32 >>> ((4 : Int32).toUInt32 &&& Int32.toUInt32 31)).toInt32) &&& 252645135) : Int32).toUInt32 >>> ((8 : Int32).toUInt32 &&& Int32.toUInt32 31)).toInt32) : Int32).toUInt32 >>> ((16 : Int32).toUInt32 &&& Int32.toUInt32 31)).toInt32))]) (st' := [.int ((((((((x1645 - (((x1645 : Int32).toUInt32 >>> ((1 : Int32).toUInt32 &&& Int32.toUInt32 31)).toInt32 &&& 1431655765)) &&& 858993459) + ((((x1645 - (((x1645 : Int32).toUInt32 >>> ((1 : Int32).toUInt32 &&& Int32.toUInt32 31)).toInt32 &&& 1431655765)) : Int32).toUInt32 >>> ((2 : Int32).toUInt32 &&& Int32.toUInt32 31)).toInt32 &&& 858993459)) + (((((x1645 - (((x1645 : Int32).toUInt32 >>> ((1 : Int32).toUInt32 &&& Int32.toUInt32 31)).toInt32 &&& 1431655765)) &&& 858993459) + ((((x1645 - (((x1645 : Int32).toUInt32 >>> ((1 : Int32).toUInt32 &&& Int32.toUInt32 31)).toInt32 &&& 1431655765)) : Int32).toUInt32 >>> ((2 : Int32).toUInt32 &&& Int32.toUInt32 31)).toInt32 &&& 858993459)) : Int32).toUInt32 >>> ((4 : Int32).toUInt32 &&& Int32.toUInt32 31)).toInt32) &&& 252645135) + (((((((x1645 - (((x1645 : Int32).toUInt32 >>> ((1 : Int32).toUInt32 &&& Int32.toUInt32 31)).toInt32 &&& 1431655765)) &&& 858993459) + ((((x1645 - (((x1645 : Int32).toUInt32 >>> ((1 : Int32).toUInt32 &&& Int32.toUInt32 31)).toInt32 &&& 1431655765)) : Int32).toUInt32 >>> ((2 : Int32).toUInt32 &&& Int32.toUInt32 31)).toInt32 &&& 858993459)) + (((((x1645 - (((x1645 : Int32).toUInt32 >>> ((1 : Int32).toUInt32 &&& Int32.toUInt32 31)).toInt32 &&& 1431655765)) &&& 858993459) + ((((x1645 - (((x1645 : Int32).toUInt32 >>> ((1 : Int32).toUInt32 &&& Int32.toUInt32 31)).toInt32 &&& 1431655765)) : Int32).toUInt32 >>> ((2 : Int32).toUInt32 &&& Int32.toUInt32 31)).toInt32 &&& 858993459)) : Int32).toUInt32 >>> ((4 : Int32).toUInt32 &&& Int32.toUInt32 31)).toInt32) &&& 252645135) : Int32).toUInt32 >>> ((8 : Int32).toUInt32 &&& Int32.toUInt32 31)).toInt32) + ((((((((x1645 - (((x1645 : Int32).toUInt32 >>> ((1 : Int32).toUInt32 &&& Int32.toUInt32 31)).toInt32 &&& 1431655765)) &&& 858993459) + ((((x1645 - (((x1645 : Int32).toUInt32 >>> ((1 : Int32).toUInt32 &&& Int32.toUInt32 31)).toInt32 &&& 1431655765)) : Int32).toUInt32 >>> ((2 : Int32).toUInt32 &&& Int32.toUInt32 31)).toInt32 &&& 858993459)) + (((((x1645 - (((x1645 : Int32).toUInt32 >>> ((1 : Int32).toUInt32 &&& Int32.toUInt32 31)).toInt32 &&& 1431655765)) &&& 858993459) + ((((x1645 - (((x1645 : Int32).toUInt32 >>> ((1 : Int32).toUInt32 &&& Int32.toUInt32 31)).toInt32 &&& 1431655765)) : Int32).toUInt32 >>> ((2 : Int32).toUInt32 &&& Int32.toUInt32 31)).toInt32 &&& 858993459)) : Int32).toUInt32 >>> ((4 : Int32).toUInt32 &&& Int32.toUInt32 31)).toInt32) &&& 252645135) + (((((((x1645 - (((x1645 : Int32).toUInt32 >>> ((1 : Int32).toUInt32 &&& Int32.toUInt32 31)).toInt32 &&& 1431655765)) &&& 858993459) + ((((x1645 - (((x1645 : Int32).toUInt32 >>> ((1 : Int32).toUInt32 &&& Int32.toUInt32 31)).toInt32 &&& 1431655765)) : Int32).toUInt32 >>> ((2 : Int32).toUInt32 &&& Int32.toUInt32 31)).toInt32 &&& 858993459)) + (((((x1645 - (((x1645 : Int32).toUInt32 >>> ((1 : Int32).toUInt32 &&& Int32.toUInt32 31)).toInt32 &&& 1431655765)) &&& 858993459) + ((((x1645 - (((x1645 : Int32).toUInt32 >>> ((1 : Int32).toUInt32 &&& Int32.toUInt32 31)).toInt32 &&& 1431655765)) : Int32).toUInt32 >>> ((2 : Int32).toUInt32 &&& Int32.toUInt32 31)).toInt32 &&& 858993459)) : Int32).toUInt32 >>> ((4 : Int32).toUInt32 &&& Int32.toUInt32 31)).toInt32) &&& 252645135) : Int32).toUInt32 >>> ((8 : Int32).toUInt32 &&& Int32.toUInt32 31)).toInt32) : Int32).toUInt32 >>> ((16 : Int32).toUInt32 &&& Int32.toUInt32 31)).toInt32) &&& 63)]) (h' := hh) (cs' := 0) (sl' := 0) rfl ?_
  obtain rfl := Option.some.inj h
  exact ev_end rfl
set_option maxHeartbeats 40000000 in
set_option maxRecDepth 100000 in
theorem EGspr_isIn_83 : ∀ n : Nat, (∀ (y1661 : Int32) (y1662 : Int32) (w : WX) (r : Int32) (w' : WX), Gspr_isIn_83 n 0 y1661 y1662 w = some (r, w') → ∀ (T : ai_H), ai_ev D1 mspr_isIn 2 [some (.ref 83), some (.int y1661), some (.int y1662)] [] (HX w T) 0 0 (some (.int r), HX w' T)) := by
  intro n
  induction n with
  | zero =>
    exact (fun _ _ _ _ _ h => by cases h)
  | succ n ih0 =>
    intro y1661 y1662 w r w' h T
    simp only [Gspr_isIn_83] at h
    refine ev_go 2 (pc' := 5) (L' := [some (.ref 83), some (.int y1661), some (.int y1662)]) (st' := [.int 6, .int y1662]) (h' := (HX w T)) (cs' := 0) (sl' := 0) rfl ?_
    rcases ai_ifE h with ⟨hc, h⟩ | ⟨hc, h⟩
    · refine ev_ic_ge (t := 34) rfl rfl (fun _ => ?_) (fun c9 => absurd hc c9)
      refine ev_go 1 (pc' := 35) (L' := [some (.ref 83), some (.int y1661), some (.int y1662)]) (st' := [.int 0]) (h' := (HX w T)) (cs' := 0) (sl' := 0) rfl ?_
      obtain ⟨rfl, rfl⟩ := ai_smP h
      exact ev_end rfl
    · refine ev_ic_ge (t := 34) rfl rfl (fun c9 => absurd c9 hc) (fun _ => ?_)
      refine ev_go 6 (pc' := 14) (L' := [some (.ref 83), some (.int y1661), some (.int y1662)]) (st' := [.int 1, .int ((y1661 >>> (y1662 &&& 31)) &&& 1)]) (h' := (HX w T)) (cs' := 0) (sl' := 0) rfl ?_
      rcases ai_ifE h with ⟨hc, h⟩ | ⟨hc, h⟩
      · refine ev_ic_ne (t := 28) rfl rfl (fun c9 => absurd hc c9) (fun _ => ?_)
        refine ev_go 3 (pc' := 22) (L' := [some (.ref 83), some (.int y1661), some (.int y1662)]) (st' := [.int y1662, .ref 84]) (h' := (HX w T)) (cs' := 0) (sl' := 0) rfl ?_
        obtain ⟨v1663, hq, h⟩ := ai_bdE h
        refine ev_iald rfl rfl hq ?_
        rcases ai_ifE h with ⟨hc, h⟩ | ⟨hc, h⟩
        · refine ev_if_le (t := 28) rfl rfl (fun _ => ?_) (fun c9 => absurd hc c9)
          refine ev_go 2 (pc' := 2) (L' := [some (.ref 83), some (.int y1661), some (.int (y1662 + 1))]) (st' := []) (h' := (HX w T)) (cs' := 0) (sl' := 0) rfl ?_
          exact ih0 _ _ _ _ _ h T
        · refine ev_if_le (t := 28) rfl rfl (fun c9 => absurd c9 hc) (fun _ => ?_)
          refine ev_go 1 (pc' := 27) (L' := [some (.ref 83), some (.int y1661), some (.int y1662)]) (st' := [.int 1]) (h' := (HX w T)) (cs' := 0) (sl' := 0) rfl ?_
          obtain ⟨rfl, rfl⟩ := ai_smP h
          exact ev_end rfl
      · refine ev_ic_ne (t := 28) rfl rfl (fun _ => ?_) (fun c9 => absurd c9 hc)
        refine ev_go 2 (pc' := 2) (L' := [some (.ref 83), some (.int y1661), some (.int (y1662 + 1))]) (st' := []) (h' := (HX w T)) (cs' := 0) (sl' := 0) rfl ?_
        exact ih0 _ _ _ _ _ h T
set_option maxHeartbeats 40000000 in
set_option maxRecDepth 100000 in
theorem Espr_isIn_83 (n : Nat) (x1660 : Int32) (w : WX) (r : Int32) (w' : WX) (h : Fspr_isIn_83 n x1660 w = some (r, w')) (T : ai_H) : ai_ev D1 mspr_isIn 0 [some (.ref 83), some (.int x1660), none] [] (HX w T) 0 0 (some (.int r), HX w' T) := by
  unfold Fspr_isIn_83 at h
  have ih0 := EGspr_isIn_83 n
  refine ev_go 2 (pc' := 2) (L' := [some (.ref 83), some (.int x1660), some (.int 0)]) (st' := []) (h' := (HX w T)) (cs' := 0) (sl' := 0) rfl ?_
  exact ih0 _ _ _ _ _ h T
set_option maxHeartbeats 40000000 in
set_option maxRecDepth 100000 in
theorem EGf_keepsOut_0 : ∀ n : Nat, (∀ (y1654 : Int32) (y1655 : Int32) (y1656 : Int32) (y1657 : Int32) (y1658 : Int32) (y1659 : Int32) (w : WX) (r : Int32) (w' : WX), Gf_keepsOut_0 n 0 y1654 y1655 y1656 y1657 y1658 y1659 w = some (r, w') → ∀ (T : ai_H), ai_ev D1 mf_keepsOut 12 [some (.ref 0), some (.int y1654), some (.int y1655), some (.int y1656), some (.int y1657), some (.int y1658), some (.int y1659)] [] (HX w T) 0 0 (some (.int r), HX w' T)) := by
  intro n
  induction n with
  | zero =>
    exact (fun _ _ _ _ _ _ _ _ _ h => by cases h)
  | succ n ih0 =>
    intro y1654 y1655 y1656 y1657 y1658 y1659 w r w' h T
    simp only [Gf_keepsOut_0] at h
    refine ev_go 2 (pc' := 15) (L' := [some (.ref 0), some (.int y1654), some (.int y1655), some (.int y1656), some (.int y1657), some (.int y1658), some (.int y1659)]) (st' := [.int y1656, .int y1659]) (h' := (HX w T)) (cs' := 0) (sl' := 0) rfl ?_
    rcases ai_ifE h with ⟨hc, h⟩ | ⟨hc, h⟩
    · refine ev_ic_ge (t := 54) rfl rfl (fun _ => ?_) (fun c9 => absurd hc c9)
      refine ev_go 3 (pc' := 60) (L' := [some (.ref 0), some (.int y1654), some (.int y1655), some (.int y1656), some (.int y1657), some (.int y1658), some (.int y1659)]) (st' := [.int y1657, .ref 83]) (h' := (HX w T)) (cs' := 0) (sl' := 0) rfl ?_
      obtain ⟨c1664, hq, h⟩ := ai_bdE h
      refine ev_call (M' := mspr_isIn) (L' := [some (.ref 83), some (.int y1657), none]) (rest := []) (rv := some (.int c1664.1)) (h' := (HX c1664.2 T)) rfl (Espr_isIn_83 n y1657 w _ _ hq T) ?_
      show ai_ev D1 mf_keepsOut 63 [some (.ref 0), some (.int y1654), some (.int y1655), some (.int y1656), some (.int y1657), some (.int y1658), some (.int y1659)] [.int c1664.1] (HX c1664.2 T) 0 0 _
      rcases ai_ifE h with ⟨hc, h⟩ | ⟨hc, h⟩
      · refine ev_if_ne (t := 70) rfl rfl (fun c9 => absurd hc c9) (fun _ => ?_)
        refine ev_go 2 (pc' := 71) (L' := [some (.ref 0), some (.int y1654), some (.int y1655), some (.int y1656), some (.int y1657), some (.int y1658), some (.int y1659)]) (st' := [.int 1]) (h' := (HX c1664.2 T)) (cs' := 0) (sl' := 0) rfl ?_
        obtain ⟨rfl, rfl⟩ := ai_smP h
        exact ev_end rfl
      · refine ev_if_ne (t := 70) rfl rfl (fun _ => ?_) (fun c9 => absurd c9 hc)
        refine ev_go 1 (pc' := 71) (L' := [some (.ref 0), some (.int y1654), some (.int y1655), some (.int y1656), some (.int y1657), some (.int y1658), some (.int y1659)]) (st' := [.int 0]) (h' := (HX c1664.2 T)) (cs' := 0) (sl' := 0) rfl ?_
        obtain ⟨rfl, rfl⟩ := ai_smP h
        exact ev_end rfl
    · refine ev_ic_ge (t := 54) rfl rfl (fun c9 => absurd c9 hc) (fun _ => ?_)
      refine ev_go 3 (pc' := 24) (L' := [some (.ref 0), some (.int y1654), some (.int y1655), some (.int y1656), some (.int y1657), some (.int y1658), some (.int y1659)]) (st' := [.int y1657, .ref 83]) (h' := (HX w T)) (cs' := 0) (sl' := 0) rfl ?_
      obtain ⟨c1665, hq, h⟩ := ai_bdE h
      refine ev_call (M' := mspr_isIn) (L' := [some (.ref 83), some (.int y1657), none]) (rest := []) (rv := some (.int c1665.1)) (h' := (HX c1665.2 T)) rfl (Espr_isIn_83 n y1657 w _ _ hq T) ?_
      show ai_ev D1 mf_keepsOut 27 [some (.ref 0), some (.int y1654), some (.int y1655), some (.int y1656), some (.int y1657), some (.int y1658), some (.int y1659)] [.int c1665.1] (HX c1665.2 T) 0 0 _
      rcases ai_ifE h with ⟨hc, h⟩ | ⟨hc, h⟩
      · refine ev_if_eq (t := 32) rfl rfl (fun _ => ?_) (fun c9 => absurd hc c9)
        refine ev_go 6 (pc' := 45) (L' := [some (.ref 0), some (.int y1654), some (.int y1655), some (.int y1656), some (.int y1657), some (.int y1658), some (.int y1659)]) (st' := [.int y1658, .int (a_s1_cells c1665.2), .ref 83]) (h' := (HX c1665.2 T)) (cs' := 0) (sl' := 0) rfl ?_
        obtain ⟨c1666, hq, h⟩ := ai_bdE h
        refine ev_call (M' := mspr_goOn) (L' := [some (.ref 83), some (.int (a_s1_cells c1665.2)), some (.int y1658), none]) (rest := []) (rv := none) (h' := (HX c1666 T)) rfl (Espr_goOn_83 n (a_s1_cells c1665.2) y1658 c1665.2 _ hq T) ?_
        show ai_ev D1 mf_keepsOut 48 [some (.ref 0), some (.int y1654), some (.int y1655), some (.int y1656), some (.int y1657), some (.int y1658), some (.int y1659)] [] (HX c1666 T) 0 0 _
        refine ev_go 2 (pc' := 12) (L' := [some (.ref 0), some (.int y1654), some (.int y1655), some (.int y1656), some (.int y1657), some (.int y1658), some (.int (y1659 + 1))]) (st' := []) (h' := (HX c1666 T)) (cs' := 0) (sl' := 0) rfl ?_
        exact ih0 _ _ _ _ _ _ _ _ _ h T
      · refine ev_if_eq (t := 32) rfl rfl (fun c9 => absurd c9 hc) (fun _ => ?_)
        refine ev_go 1 (pc' := 31) (L' := [some (.ref 0), some (.int y1654), some (.int y1655), some (.int y1656), some (.int y1657), some (.int y1658), some (.int y1659)]) (st' := [.int 0]) (h' := (HX c1665.2 T)) (cs' := 0) (sl' := 0) rfl ?_
        obtain ⟨rfl, rfl⟩ := ai_smP h
        exact ev_end rfl
set_option maxHeartbeats 40000000 in
set_option maxRecDepth 100000 in
theorem Ef_keepsOut_0 (n : Nat) (x1648 : Int32) (x1649 : Int32) (x1650 : Int32) (x1651 : Int32) (x1652 : Int32) (w : WX) (r : Int32) (w' : WX) (h : Ff_keepsOut_0 n x1648 x1649 x1650 x1651 x1652 w = some (r, w')) (T : ai_H) : ai_ev D1 mf_keepsOut 0 [some (.ref 0), some (.int x1648), some (.int x1649), some (.int x1650), some (.int x1651), some (.int x1652), none] [] (HX w T) 0 0 (some (.int r), HX w' T) := by
  unfold Ff_keepsOut_0 at h
  have ih0 := EGf_keepsOut_0 n
  refine ev_go 4 (pc' := 6) (L' := [some (.ref 0), some (.int x1648), some (.int x1649), some (.int x1650), some (.int x1651), some (.int x1652), none]) (st' := [.int x1649, .int x1648, .ref 83]) (h' := (HX w T)) (cs' := 0) (sl' := 0) rfl ?_
  obtain ⟨c1653, hq, h⟩ := ai_bdE h
  refine ev_call (M' := mspr_start) (L' := [some (.ref 83), some (.int x1648), some (.int x1649)]) (rest := []) (rv := none) (h' := (HX c1653 T)) rfl (Espr_start_83 n x1648 x1649 w _ hq T) ?_
  show ai_ev D1 mf_keepsOut 9 [some (.ref 0), some (.int x1648), some (.int x1649), some (.int x1650), some (.int x1651), some (.int x1652), none] [] (HX c1653 T) 0 0 _
  refine ev_go 2 (pc' := 12) (L' := [some (.ref 0), some (.int x1648), some (.int x1649), some (.int x1650), some (.int x1651), some (.int x1652), some (.int 0)]) (st' := []) (h' := (HX c1653 T)) (cs' := 0) (sl' := 0) rfl ?_
  exact ih0 _ _ _ _ _ _ _ _ _ h T
set_option maxHeartbeats 40000000 in
set_option maxRecDepth 100000 in
theorem EGf_keepOut_0 : ∀ n : Nat, (∀ (y1638 : Int32) (y1639 : Int32) (y1640 : Int32) (y1641 : Int32) (y1642 : Int32) (y1643 : Int32) (y1644 : Int32) (w : WX) (r : Int32) (w' : WX), Gf_keepOut_0 n 0 y1638 y1639 y1640 y1641 y1642 y1643 y1644 w = some (r, w') → ∀ (T : ai_H) (o8 o9 : Option Value), ai_ev D1 mf_keepOut 56 [some (.ref 0), some (.int y1638), some (.int y1639), some (.int y1640), some (.int y1641), some (.int y1642), some (.int y1643), some (.int y1644), o8, o9] [] (HX w T) 0 0 (some (.int r), HX w' T)) := by
  intro n
  induction n with
  | zero =>
    exact (fun _ _ _ _ _ _ _ _ _ _ h => by cases h)
  | succ n ih0 =>
    intro y1638 y1639 y1640 y1641 y1642 y1643 y1644 w r w' h T o8 o9
    simp only [Gf_keepOut_0] at h
    refine ev_go 2 (pc' := 60) (L' := [some (.ref 0), some (.int y1638), some (.int y1639), some (.int y1640), some (.int y1641), some (.int y1642), some (.int y1643), some (.int y1644), o8, o9]) (st' := [.int y1643, .int y1644]) (h' := (HX w T)) (cs' := 0) (sl' := 0) rfl ?_
    rcases ai_ifE h with ⟨hc, h⟩ | ⟨hc, h⟩
    · refine ev_ic_ge (t := 151) rfl rfl (fun _ => ?_) (fun c9 => absurd hc c9)
      refine ev_go 1 (pc' := 153) (L' := [some (.ref 0), some (.int y1638), some (.int y1639), some (.int y1640), some (.int y1641), some (.int y1642), some (.int y1643), some (.int y1644), o8, o9]) (st' := [.int y1642]) (h' := (HX w T)) (cs' := 0) (sl' := 0) rfl ?_
      obtain ⟨rfl, rfl⟩ := ai_smP h
      exact ev_end rfl
    · refine ev_ic_ge (t := 151) rfl rfl (fun c9 => absurd c9 hc) (fun _ => ?_)
      refine ev_go 5 (pc' := 73) (L' := [some (.ref 0), some (.int y1638), some (.int y1639), some (.int y1640), some (.int y1641), some (.int y1642), some (.int y1643), some (.int y1644), o8, o9]) (st' := [.int (y1644 &&& (a_s1_dams w))]) (h' := (HX w T)) (cs' := 0) (sl' := 0) rfl ?_
      rcases ai_ifE h with ⟨hc, h⟩ | ⟨hc, h⟩
      · refine ev_if_ne (t := 80) rfl rfl (fun c9 => absurd hc c9) (fun _ => ?_)
        refine ev_go 5 (pc' := 86) (L' := [some (.ref 0), some (.int y1638), some (.int y1639), some (.int y1640), some (.int y1641), some (.int y1642), some (.int y1643), some (.int y1644), some (.int 1), o9]) (st' := [.int (-1), .int y1642]) (h' := (HX w T)) (cs' := 0) (sl' := 0) rfl ?_
        rcases ai_ifE h with ⟨hc, h⟩ | ⟨hc, h⟩
        · refine ev_ic_eq (t := 102) rfl rfl (fun _ => ?_) (fun c9 => absurd hc c9)
          refine ev_go 17 (pc' := 135) (L' := [some (.ref 0), some (.int y1638), some (.int y1639), some (.int y1640), some (.int y1641), some (.int y1642), some (.int y1643), some (.int y1644), some (.int 1), some (.int 1)]) (st' := [.int ((a_s1_dams w) ||| y1644), .int y1641, .int y1640, .int y1639, .int y1638, .ref 0]) (h' := (HX w T)) (cs' := 0) (sl' := 0) rfl ?_
          obtain ⟨c1667, hq, h⟩ := ai_bdE h
          refine ev_call (M' := mf_keepsOut) (L' := [some (.ref 0), some (.int y1638), some (.int y1639), some (.int y1640), some (.int y1641), some (.int ((a_s1_dams w) ||| y1644)), none]) (rest := []) (rv := some (.int c1667.1)) (h' := (HX c1667.2 T)) rfl (Ef_keepsOut_0 n y1638 y1639 y1640 y1641 ((a_s1_dams w) ||| y1644) w _ _ hq T) ?_
          show ai_ev D1 mf_keepOut 138 [some (.ref 0), some (.int y1638), some (.int y1639), some (.int y1640), some (.int y1641), some (.int y1642), some (.int y1643), some (.int y1644), some (.int 1), some (.int 1)] [.int c1667.1] (HX c1667.2 T) 0 0 _
          rcases ai_ifE h with ⟨hc, h⟩ | ⟨hc, h⟩
          · refine ev_if_eq (t := 145) rfl rfl (fun _ => ?_) (fun c9 => absurd hc c9)
            refine ev_go 2 (pc' := 56) (L' := [some (.ref 0), some (.int y1638), some (.int y1639), some (.int y1640), some (.int y1641), some (.int y1642), some (.int y1643), some (.int (y1644 + 1)), some (.int 1), some (.int 1)]) (st' := []) (h' := (HX c1667.2 T)) (cs' := 0) (sl' := 0) rfl ?_
            exact ih0 _ _ _ _ _ _ _ _ _ _ h T _ _
          · refine ev_if_eq (t := 145) rfl rfl (fun c9 => absurd c9 hc) (fun _ => ?_)
            refine ev_go 4 (pc' := 56) (L' := [some (.ref 0), some (.int y1638), some (.int y1639), some (.int y1640), some (.int y1641), some (.int y1644), some (.int y1643), some (.int (y1644 + 1)), some (.int 1), some (.int 1)]) (st' := []) (h' := (HX c1667.2 T)) (cs' := 0) (sl' := 0) rfl ?_
            exact ih0 _ _ _ _ _ _ _ _ _ _ h T _ _
        · refine ev_ic_eq (t := 102) rfl rfl (fun c9 => absurd c9 hc) (fun _ => ?_)
          refine ev_go 1 (pc' := 91) (L' := [some (.ref 0), some (.int y1638), some (.int y1639), some (.int y1640), some (.int y1641), some (.int y1642), some (.int y1643), some (.int y1644), some (.int 1), o9]) (st' := [.int y1644]) (h' := (HX w T)) (cs' := 0) (sl' := 0) rfl ?_
          obtain ⟨c1668, hq, h⟩ := ai_bdE h
          refine ev_call (M' := mint_bitCount) (L' := [some (.int y1644)]) (rest := []) (rv := some (.int c1668)) (h' := (HX w T)) rfl (Eint_bitCount y1644 _ hq (HX w T)) ?_
          show ai_ev D1 mf_keepOut 94 [some (.ref 0), some (.int y1638), some (.int y1639), some (.int y1640), some (.int y1641), some (.int y1642), some (.int y1643), some (.int y1644), some (.int 1), o9] [.int c1668] (HX w T) 0 0 _
          refine ev_go 1 (pc' := 96) (L' := [some (.ref 0), some (.int y1638), some (.int y1639), some (.int y1640), some (.int y1641), some (.int y1642), some (.int y1643), some (.int y1644), some (.int 1), o9]) (st' := [.int y1642, .int c1668]) (h' := (HX w T)) (cs' := 0) (sl' := 0) rfl ?_
          obtain ⟨c1669, hq, h⟩ := ai_bdE h
          refine ev_call (M' := mint_bitCount) (L' := [some (.int y1642)]) (rest := [.int c1668]) (rv := some (.int c1669)) (h' := (HX w T)) rfl (Eint_bitCount y1642 _ hq (HX w T)) ?_
          show ai_ev D1 mf_keepOut 99 [some (.ref 0), some (.int y1638), some (.int y1639), some (.int y1640), some (.int y1641), some (.int y1642), some (.int y1643), some (.int y1644), some (.int 1), o9] [.int c1669, .int c1668] (HX w T) 0 0 _
          rcases ai_ifE h with ⟨hc, h⟩ | ⟨hc, h⟩
          · refine ev_ic_ge (t := 106) rfl rfl (fun _ => ?_) (fun c9 => absurd hc c9)
            refine ev_go 8 (pc' := 56) (L' := [some (.ref 0), some (.int y1638), some (.int y1639), some (.int y1640), some (.int y1641), some (.int y1642), some (.int y1643), some (.int (y1644 + 1)), some (.int 1), some (.int 0)]) (st' := []) (h' := (HX w T)) (cs' := 0) (sl' := 0) rfl ?_
            exact ih0 _ _ _ _ _ _ _ _ _ _ h T _ _
          · refine ev_ic_ge (t := 106) rfl rfl (fun c9 => absurd c9 hc) (fun _ => ?_)
            refine ev_go 17 (pc' := 135) (L' := [some (.ref 0), some (.int y1638), some (.int y1639), some (.int y1640), some (.int y1641), some (.int y1642), some (.int y1643), some (.int y1644), some (.int 1), some (.int 1)]) (st' := [.int ((a_s1_dams w) ||| y1644), .int y1641, .int y1640, .int y1639, .int y1638, .ref 0]) (h' := (HX w T)) (cs' := 0) (sl' := 0) rfl ?_
            obtain ⟨c1670, hq, h⟩ := ai_bdE h
            refine ev_call (M' := mf_keepsOut) (L' := [some (.ref 0), some (.int y1638), some (.int y1639), some (.int y1640), some (.int y1641), some (.int ((a_s1_dams w) ||| y1644)), none]) (rest := []) (rv := some (.int c1670.1)) (h' := (HX c1670.2 T)) rfl (Ef_keepsOut_0 n y1638 y1639 y1640 y1641 ((a_s1_dams w) ||| y1644) w _ _ hq T) ?_
            show ai_ev D1 mf_keepOut 138 [some (.ref 0), some (.int y1638), some (.int y1639), some (.int y1640), some (.int y1641), some (.int y1642), some (.int y1643), some (.int y1644), some (.int 1), some (.int 1)] [.int c1670.1] (HX c1670.2 T) 0 0 _
            rcases ai_ifE h with ⟨hc, h⟩ | ⟨hc, h⟩
            · refine ev_if_eq (t := 145) rfl rfl (fun _ => ?_) (fun c9 => absurd hc c9)
              refine ev_go 2 (pc' := 56) (L' := [some (.ref 0), some (.int y1638), some (.int y1639), some (.int y1640), some (.int y1641), some (.int y1642), some (.int y1643), some (.int (y1644 + 1)), some (.int 1), some (.int 1)]) (st' := []) (h' := (HX c1670.2 T)) (cs' := 0) (sl' := 0) rfl ?_
              exact ih0 _ _ _ _ _ _ _ _ _ _ h T _ _
            · refine ev_if_eq (t := 145) rfl rfl (fun c9 => absurd c9 hc) (fun _ => ?_)
              refine ev_go 4 (pc' := 56) (L' := [some (.ref 0), some (.int y1638), some (.int y1639), some (.int y1640), some (.int y1641), some (.int y1644), some (.int y1643), some (.int (y1644 + 1)), some (.int 1), some (.int 1)]) (st' := []) (h' := (HX c1670.2 T)) (cs' := 0) (sl' := 0) rfl ?_
              exact ih0 _ _ _ _ _ _ _ _ _ _ h T _ _
      · refine ev_if_ne (t := 80) rfl rfl (fun _ => ?_) (fun c9 => absurd c9 hc)
        refine ev_go 4 (pc' := 86) (L' := [some (.ref 0), some (.int y1638), some (.int y1639), some (.int y1640), some (.int y1641), some (.int y1642), some (.int y1643), some (.int y1644), some (.int 0), o9]) (st' := [.int (-1), .int y1642]) (h' := (HX w T)) (cs' := 0) (sl' := 0) rfl ?_
        rcases ai_ifE h with ⟨hc, h⟩ | ⟨hc, h⟩
        · refine ev_ic_eq (t := 102) rfl rfl (fun _ => ?_) (fun c9 => absurd hc c9)
          refine ev_go 7 (pc' := 56) (L' := [some (.ref 0), some (.int y1638), some (.int y1639), some (.int y1640), some (.int y1641), some (.int y1642), some (.int y1643), some (.int (y1644 + 1)), some (.int 0), some (.int 1)]) (st' := []) (h' := (HX w T)) (cs' := 0) (sl' := 0) rfl ?_
          exact ih0 _ _ _ _ _ _ _ _ _ _ h T _ _
        · refine ev_ic_eq (t := 102) rfl rfl (fun c9 => absurd c9 hc) (fun _ => ?_)
          refine ev_go 1 (pc' := 91) (L' := [some (.ref 0), some (.int y1638), some (.int y1639), some (.int y1640), some (.int y1641), some (.int y1642), some (.int y1643), some (.int y1644), some (.int 0), o9]) (st' := [.int y1644]) (h' := (HX w T)) (cs' := 0) (sl' := 0) rfl ?_
          obtain ⟨c1646, hq, h⟩ := ai_bdE h
          refine ev_call (M' := mint_bitCount) (L' := [some (.int y1644)]) (rest := []) (rv := some (.int c1646)) (h' := (HX w T)) rfl (Eint_bitCount y1644 _ hq (HX w T)) ?_
          show ai_ev D1 mf_keepOut 94 [some (.ref 0), some (.int y1638), some (.int y1639), some (.int y1640), some (.int y1641), some (.int y1642), some (.int y1643), some (.int y1644), some (.int 0), o9] [.int c1646] (HX w T) 0 0 _
          refine ev_go 1 (pc' := 96) (L' := [some (.ref 0), some (.int y1638), some (.int y1639), some (.int y1640), some (.int y1641), some (.int y1642), some (.int y1643), some (.int y1644), some (.int 0), o9]) (st' := [.int y1642, .int c1646]) (h' := (HX w T)) (cs' := 0) (sl' := 0) rfl ?_
          obtain ⟨c1647, hq, h⟩ := ai_bdE h
          refine ev_call (M' := mint_bitCount) (L' := [some (.int y1642)]) (rest := [.int c1646]) (rv := some (.int c1647)) (h' := (HX w T)) rfl (Eint_bitCount y1642 _ hq (HX w T)) ?_
          show ai_ev D1 mf_keepOut 99 [some (.ref 0), some (.int y1638), some (.int y1639), some (.int y1640), some (.int y1641), some (.int y1642), some (.int y1643), some (.int y1644), some (.int 0), o9] [.int c1647, .int c1646] (HX w T) 0 0 _
          rcases ai_ifE h with ⟨hc, h⟩ | ⟨hc, h⟩
          · refine ev_ic_ge (t := 106) rfl rfl (fun _ => ?_) (fun c9 => absurd hc c9)
            refine ev_go 6 (pc' := 56) (L' := [some (.ref 0), some (.int y1638), some (.int y1639), some (.int y1640), some (.int y1641), some (.int y1642), some (.int y1643), some (.int (y1644 + 1)), some (.int 0), some (.int 0)]) (st' := []) (h' := (HX w T)) (cs' := 0) (sl' := 0) rfl ?_
            exact ih0 _ _ _ _ _ _ _ _ _ _ h T _ _
          · refine ev_ic_ge (t := 106) rfl rfl (fun c9 => absurd c9 hc) (fun _ => ?_)
            refine ev_go 7 (pc' := 56) (L' := [some (.ref 0), some (.int y1638), some (.int y1639), some (.int y1640), some (.int y1641), some (.int y1642), some (.int y1643), some (.int (y1644 + 1)), some (.int 0), some (.int 1)]) (st' := []) (h' := (HX w T)) (cs' := 0) (sl' := 0) rfl ?_
            exact ih0 _ _ _ _ _ _ _ _ _ _ h T _ _
set_option maxHeartbeats 40000000 in
set_option maxRecDepth 100000 in
theorem Ef_keepOut_0 (n : Nat) (x1630 : Int32) (x1631 : Int32) (x1632 : Int32) (x1633 : Int32) (w : WX) (r : Int32) (w' : WX) (h : Ff_keepOut_0 n x1630 x1631 x1632 x1633 w = some (r, w')) (T : ai_H) : ai_ev D1 mf_keepOut 0 [some (.ref 0), some (.int x1630), some (.int x1631), some (.int x1632), some (.int x1633), none, none, none, none, none] [] (HX w T) 0 0 (some (.int r), HX w' T) := by
  unfold Ff_keepOut_0 at h
  have ih0 := EGf_keepOut_0 n
  refine ev_go 4 (pc' := 4) (L' := [some (.ref 0), some (.int x1630), some (.int x1631), some (.int x1632), some (.int x1633), none, none, none, none, none]) (st' := [.int x1632, .int x1631, .int x1630, .ref 0]) (h' := (HX w T)) (cs' := 0) (sl' := 0) rfl ?_
  obtain ⟨c1634, hq, h⟩ := ai_bdE h
  refine ev_call (M' := mf_isSpill) (L' := [some (.ref 0), some (.int x1630), some (.int x1631), some (.int x1632)]) (rest := []) (rv := some (.int c1634.1)) (h' := (HX c1634.2 T)) rfl (Ef_isSpill_0 x1630 x1631 x1632 w _ _ hq T) ?_
  show ai_ev D1 mf_keepOut 7 [some (.ref 0), some (.int x1630), some (.int x1631), some (.int x1632), some (.int x1633), none, none, none, none, none] [.int c1634.1] (HX c1634.2 T) 0 0 _
  rcases ai_ifE h with ⟨hc, h⟩ | ⟨hc, h⟩
  · refine ev_if_eq (t := 30) rfl rfl (fun _ => ?_) (fun c9 => absurd hc c9)
    refine ev_go 2 (pc' := 33) (L' := [some (.ref 0), some (.int x1630), some (.int x1631), some (.int x1632), some (.int x1633), none, none, none, none, none]) (st' := [.int (-2), .ref 0]) (h' := (HX c1634.2 T)) (cs' := 0) (sl' := 0) rfl ?_
    obtain ⟨c1635, hq, h⟩ := ai_bdE h
    refine ev_call (M' := mf_bad) (L' := [some (.ref 0), some (.int (-2))]) (rest := []) (rv := some (.int c1635.1)) (h' := (HX c1635.2 T)) rfl (Ef_bad_0 (-2) c1634.2 _ _ hq T) ?_
    show ai_ev D1 mf_keepOut 36 [some (.ref 0), some (.int x1630), some (.int x1631), some (.int x1632), some (.int x1633), none, none, none, none, none] [.int c1635.1] (HX c1635.2 T) 0 0 _
    obtain ⟨rfl, rfl⟩ := ai_smP h
    exact ev_end rfl
  · refine ev_if_eq (t := 30) rfl rfl (fun c9 => absurd c9 hc) (fun _ => ?_)
    refine ev_go 9 (pc' := 24) (L' := [some (.ref 0), some (.int x1630), some (.int x1631), some (.int x1632), some (.int x1633), none, none, none, none, none]) (st' := [.int ((1 <<< ((a_s1_cells c1634.2) &&& 31)) - 1), .int 0, .int x1633]) (h' := (HX c1634.2 T)) (cs' := 0) (sl' := 0) rfl ?_
    obtain ⟨c1636, hq, h⟩ := ai_bdE h
    refine ev_call (M' := mf_within) (L' := [some (.int x1633), some (.int 0), some (.int ((1 <<< ((a_s1_cells c1634.2) &&& 31)) - 1))]) (rest := []) (rv := some (.int c1636)) (h' := (HX c1634.2 T)) rfl (Ef_within x1633 0 ((1 <<< ((a_s1_cells c1634.2) &&& 31)) - 1) _ hq (HX c1634.2 T)) ?_
    show ai_ev D1 mf_keepOut 27 [some (.ref 0), some (.int x1630), some (.int x1631), some (.int x1632), some (.int x1633), none, none, none, none, none] [.int c1636] (HX c1634.2 T) 0 0 _
    rcases ai_ifE h with ⟨hc, h⟩ | ⟨hc, h⟩
    · refine ev_if_ne (t := 37) rfl rfl (fun c9 => absurd hc c9) (fun _ => ?_)
      refine ev_go 2 (pc' := 33) (L' := [some (.ref 0), some (.int x1630), some (.int x1631), some (.int x1632), some (.int x1633), none, none, none, none, none]) (st' := [.int (-2), .ref 0]) (h' := (HX c1634.2 T)) (cs' := 0) (sl' := 0) rfl ?_
      obtain ⟨c1637, hq, h⟩ := ai_bdE h
      refine ev_call (M' := mf_bad) (L' := [some (.ref 0), some (.int (-2))]) (rest := []) (rv := some (.int c1637.1)) (h' := (HX c1637.2 T)) rfl (Ef_bad_0 (-2) c1634.2 _ _ hq T) ?_
      show ai_ev D1 mf_keepOut 36 [some (.ref 0), some (.int x1630), some (.int x1631), some (.int x1632), some (.int x1633), none, none, none, none, none] [.int c1637.1] (HX c1637.2 T) 0 0 _
      obtain ⟨rfl, rfl⟩ := ai_smP h
      exact ev_end rfl
    · refine ev_if_ne (t := 37) rfl rfl (fun _ => ?_) (fun c9 => absurd c9 hc)
      refine ev_go 12 (pc' := 56) (L' := [some (.ref 0), some (.int x1630), some (.int x1631), some (.int x1632), some (.int x1633), some (.int (-1)), some (.int (1 <<< (((a_s1_cells c1634.2) - 1) &&& 31))), some (.int 0), none, none]) (st' := []) (h' := (HX c1634.2 T)) (cs' := 0) (sl' := 0) rfl ?_
      exact ih0 _ _ _ _ _ _ _ _ _ _ h T _ _
set_option maxHeartbeats 40000000 in
set_option maxRecDepth 100000 in
theorem EGsea_allThick_1 : ∀ n : Nat, (∀ (y1680 : Int32) (y1681 : Int32) (y1682 : Int32) (w : WX) (r : Int32) (w' : WX), Gsea_allThick_1 n 0 y1680 y1681 y1682 w = some (r, w') → ∀ (T : ai_H), ai_ev D1 msea_allThick 4 [some (.ref 1), some (.int y1680), some (.int y1681), some (.int y1682)] [] (HX w T) 0 0 (some (.int r), HX w' T)) := by
  intro n
  induction n with
  | zero =>
    exact (fun _ _ _ _ _ _ h => by cases h)
  | succ n ih0 =>
    intro y1680 y1681 y1682 w r w' h T
    simp only [Gsea_allThick_1] at h
    refine ev_go 2 (pc' := 6) (L' := [some (.ref 1), some (.int y1680), some (.int y1681), some (.int y1682)]) (st' := [.int 4, .int y1682]) (h' := (HX w T)) (cs' := 0) (sl' := 0) rfl ?_
    rcases ai_ifE h with ⟨hc, h⟩ | ⟨hc, h⟩
    · refine ev_ic_ge (t := 28) rfl rfl (fun _ => ?_) (fun c9 => absurd hc c9)
      refine ev_go 1 (pc' := 29) (L' := [some (.ref 1), some (.int y1680), some (.int y1681), some (.int y1682)]) (st' := [.int y1681]) (h' := (HX w T)) (cs' := 0) (sl' := 0) rfl ?_
      obtain ⟨rfl, rfl⟩ := ai_smP h
      exact ev_end rfl
    · refine ev_ic_ge (t := 28) rfl rfl (fun c9 => absurd c9 hc) (fun _ => ?_)
      refine ev_go 6 (pc' := 17) (L' := [some (.ref 1), some (.int y1680), some (.int y1681), some (.int y1682)]) (st' := [.int (a_s1_hour w), .int y1680, .int y1682, .ref 1, .int y1681]) (h' := (HX w T)) (cs' := 0) (sl' := 0) rfl ?_
      obtain ⟨c1683, hq, h⟩ := ai_bdE h
      refine ev_call (M' := msea_thickAt) (L' := [some (.ref 1), some (.int y1682), some (.int y1680), some (.int (a_s1_hour w))]) (rest := [.int y1681]) (rv := some (.int c1683.1)) (h' := (HX c1683.2 T)) rfl (Esea_thickAt_1 y1682 y1680 (a_s1_hour w) w _ _ hq T) ?_
      show ai_ev D1 msea_allThick 20 [some (.ref 1), some (.int y1680), some (.int y1681), some (.int y1682)] [.int c1683.1, .int y1681] (HX c1683.2 T) 0 0 _
      refine ev_go 4 (pc' := 4) (L' := [some (.ref 1), some (.int y1680), some (.int (y1681 + c1683.1)), some (.int (y1682 + 1))]) (st' := []) (h' := (HX c1683.2 T)) (cs' := 0) (sl' := 0) rfl ?_
      exact ih0 _ _ _ _ _ _ h T
set_option maxHeartbeats 40000000 in
set_option maxRecDepth 100000 in
theorem Esea_allThick_1 (n : Nat) (x1679 : Int32) (w : WX) (r : Int32) (w' : WX) (h : Fsea_allThick_1 n x1679 w = some (r, w')) (T : ai_H) : ai_ev D1 msea_allThick 0 [some (.ref 1), some (.int x1679), none, none] [] (HX w T) 0 0 (some (.int r), HX w' T) := by
  unfold Fsea_allThick_1 at h
  have ih0 := EGsea_allThick_1 n
  refine ev_go 4 (pc' := 4) (L' := [some (.ref 1), some (.int x1679), some (.int 0), some (.int 0)]) (st' := []) (h' := (HX w T)) (cs' := 0) (sl' := 0) rfl ?_
  exact ih0 _ _ _ _ _ _ h T
set_option maxHeartbeats 40000000 in
set_option maxRecDepth 100000 in
theorem EGf_shaken_0 : ∀ n : Nat, (∀ (y1686 : Int32) (y1687 : Int32) (y1688 : Int32) (y1689 : Int32) (y1690 : Int32) (y1691 : Int32) (y1692 : Int32) (w : WX) (r : Int32) (w' : WX), Gf_shaken_0 n 0 y1686 y1687 y1688 y1689 y1690 y1691 y1692 w = some (r, w') → ∀ (T : ai_H), ai_ev D1 mf_shaken 64 [some (.ref 0), some (.int y1686), some (.int y1687), some (.int y1688), some (.int y1689), some (.int y1690), some (.int y1691), some (.int y1692)] [] (HX w T) 0 0 (some (.int r), HX w' T)) := by
  intro n
  induction n with
  | zero =>
    exact (fun _ _ _ _ _ _ _ _ _ _ h => by cases h)
  | succ n ih0 =>
    intro y1686 y1687 y1688 y1689 y1690 y1691 y1692 w r w' h T
    simp only [Gf_shaken_0] at h
    refine ev_go 2 (pc' := 67) (L' := [some (.ref 0), some (.int y1686), some (.int y1687), some (.int y1688), some (.int y1689), some (.int y1690), some (.int y1691), some (.int y1692)]) (st' := [.int y1686, .int y1692]) (h' := (HX w T)) (cs' := 0) (sl' := 0) rfl ?_
    rcases ai_ifE h with ⟨hc, h⟩ | ⟨hc, h⟩
    · refine ev_ic_gt (t := 97) rfl rfl (fun _ => ?_) (fun c9 => absurd hc c9)
      refine ev_go 1 (pc' := 99) (L' := [some (.ref 0), some (.int y1686), some (.int y1687), some (.int y1688), some (.int y1689), some (.int y1690), some (.int y1691), some (.int y1692)]) (st' := [.int y1690]) (h' := (HX w T)) (cs' := 0) (sl' := 0) rfl ?_
      obtain ⟨rfl, rfl⟩ := ai_smP h
      exact ev_end rfl
    · refine ev_ic_gt (t := 97) rfl rfl (fun c9 => absurd c9 hc) (fun _ => ?_)
      refine ev_go 2 (pc' := 74) (L' := [some (.ref 0), some (.int y1686), some (.int y1687), some (.int y1688), some (.int y1689), some (.int y1690), some (.int y1691), some (.int y1692)]) (st' := [.int y1689, .int y1691]) (h' := (HX w T)) (cs' := 0) (sl' := 0) rfl ?_
      rcases ai_ifE h with ⟨hc, h⟩ | ⟨hc, h⟩
      · refine ev_ic_le (t := 97) rfl rfl (fun _ => ?_) (fun c9 => absurd hc c9)
        refine ev_go 1 (pc' := 99) (L' := [some (.ref 0), some (.int y1686), some (.int y1687), some (.int y1688), some (.int y1689), some (.int y1690), some (.int y1691), some (.int y1692)]) (st' := [.int y1690]) (h' := (HX w T)) (cs' := 0) (sl' := 0) rfl ?_
        obtain ⟨rfl, rfl⟩ := ai_smP h
        exact ev_end rfl
      · refine ev_ic_le (t := 97) rfl rfl (fun c9 => absurd c9 hc) (fun _ => ?_)
        refine ev_go 11 (pc' := 64) (L' := [some (.ref 0), some (.int y1686), some (.int y1687), some (.int y1688), some (.int y1689), some (.int (y1690 + 1)), some (.int (y1691 - ((y1691 + 3) / 4))), some (.int (y1692 + 1))]) (st' := []) (h' := (HX w T)) (cs' := 0) (sl' := 0) rfl ?_
        exact ih0 _ _ _ _ _ _ _ _ _ _ h T
set_option maxHeartbeats 40000000 in
set_option maxRecDepth 100000 in
theorem Ef_shaken_0 (n : Nat) (x1671 : Int32) (x1672 : Int32) (x1673 : Int32) (w : WX) (r : Int32) (w' : WX) (h : Ff_shaken_0 n x1671 x1672 x1673 w = some (r, w')) (T : ai_H) : ai_ev D1 mf_shaken 0 [some (.ref 0), some (.int x1671), some (.int x1672), some (.int x1673), none, none, none, none] [] (HX w T) 0 0 (some (.int r), HX w' T) := by
  unfold Ff_shaken_0 at h
  have ih0 := EGf_shaken_0 n
  refine ev_go 3 (pc' := 4) (L' := [some (.ref 0), some (.int x1671), some (.int x1672), some (.int x1673), none, none, none, none]) (st' := [.int 99, .int 0, .int x1671]) (h' := (HX w T)) (cs' := 0) (sl' := 0) rfl ?_
  obtain ⟨c1674, hq, h⟩ := ai_bdE h
  refine ev_call (M' := mf_within) (L' := [some (.int x1671), some (.int 0), some (.int 99)]) (rest := []) (rv := some (.int c1674)) (h' := (HX w T)) rfl (Ef_within x1671 0 99 _ hq (HX w T)) ?_
  show ai_ev D1 mf_shaken 7 [some (.ref 0), some (.int x1671), some (.int x1672), some (.int x1673), none, none, none, none] [.int c1674] (HX w T) 0 0 _
  rcases ai_ifE h with ⟨hc, h⟩ | ⟨hc, h⟩
  · refine ev_if_eq (t := 30) rfl rfl (fun _ => ?_) (fun c9 => absurd hc c9)
    refine ev_go 2 (pc' := 33) (L' := [some (.ref 0), some (.int x1671), some (.int x1672), some (.int x1673), none, none, none, none]) (st' := [.int (-2), .ref 0]) (h' := (HX w T)) (cs' := 0) (sl' := 0) rfl ?_
    obtain ⟨c1675, hq, h⟩ := ai_bdE h
    refine ev_call (M' := mf_bad) (L' := [some (.ref 0), some (.int (-2))]) (rest := []) (rv := some (.int c1675.1)) (h' := (HX c1675.2 T)) rfl (Ef_bad_0 (-2) w _ _ hq T) ?_
    show ai_ev D1 mf_shaken 36 [some (.ref 0), some (.int x1671), some (.int x1672), some (.int x1673), none, none, none, none] [.int c1675.1] (HX c1675.2 T) 0 0 _
    obtain ⟨rfl, rfl⟩ := ai_smP h
    exact ev_end rfl
  · refine ev_if_eq (t := 30) rfl rfl (fun c9 => absurd c9 hc) (fun _ => ?_)
    refine ev_go 3 (pc' := 15) (L' := [some (.ref 0), some (.int x1671), some (.int x1672), some (.int x1673), none, none, none, none]) (st' := [.int x1672, .ref 1]) (h' := (HX w T)) (cs' := 0) (sl' := 0) rfl ?_
    obtain ⟨c1676, hq, h⟩ := ai_bdE h
    refine ev_call (M' := msea_hasCell) (L' := [some (.ref 1), some (.int x1672)]) (rest := []) (rv := some (.int c1676.1)) (h' := (HX c1676.2 T)) rfl (Esea_hasCell_1 x1672 w _ _ hq T) ?_
    show ai_ev D1 mf_shaken 18 [some (.ref 0), some (.int x1671), some (.int x1672), some (.int x1673), none, none, none, none] [.int c1676.1] (HX c1676.2 T) 0 0 _
    rcases ai_ifE h with ⟨hc, h⟩ | ⟨hc, h⟩
    · refine ev_if_eq (t := 30) rfl rfl (fun _ => ?_) (fun c9 => absurd hc c9)
      refine ev_go 2 (pc' := 33) (L' := [some (.ref 0), some (.int x1671), some (.int x1672), some (.int x1673), none, none, none, none]) (st' := [.int (-2), .ref 0]) (h' := (HX c1676.2 T)) (cs' := 0) (sl' := 0) rfl ?_
      obtain ⟨c1677, hq, h⟩ := ai_bdE h
      refine ev_call (M' := mf_bad) (L' := [some (.ref 0), some (.int (-2))]) (rest := []) (rv := some (.int c1677.1)) (h' := (HX c1677.2 T)) rfl (Ef_bad_0 (-2) c1676.2 _ _ hq T) ?_
      show ai_ev D1 mf_shaken 36 [some (.ref 0), some (.int x1671), some (.int x1672), some (.int x1673), none, none, none, none] [.int c1677.1] (HX c1677.2 T) 0 0 _
      obtain ⟨rfl, rfl⟩ := ai_smP h
      exact ev_end rfl
    · refine ev_if_eq (t := 30) rfl rfl (fun c9 => absurd c9 hc) (fun _ => ?_)
      refine ev_go 3 (pc' := 24) (L' := [some (.ref 0), some (.int x1671), some (.int x1672), some (.int x1673), none, none, none, none]) (st' := [.int 1, .int 0, .int x1673]) (h' := (HX c1676.2 T)) (cs' := 0) (sl' := 0) rfl ?_
      obtain ⟨c1678, hq, h⟩ := ai_bdE h
      refine ev_call (M' := mf_within) (L' := [some (.int x1673), some (.int 0), some (.int 1)]) (rest := []) (rv := some (.int c1678)) (h' := (HX c1676.2 T)) rfl (Ef_within x1673 0 1 _ hq (HX c1676.2 T)) ?_
      show ai_ev D1 mf_shaken 27 [some (.ref 0), some (.int x1671), some (.int x1672), some (.int x1673), none, none, none, none] [.int c1678] (HX c1676.2 T) 0 0 _
      rcases ai_ifE h with ⟨hc, h⟩ | ⟨hc, h⟩
      · refine ev_if_ne (t := 37) rfl rfl (fun c9 => absurd hc c9) (fun _ => ?_)
        refine ev_go 2 (pc' := 33) (L' := [some (.ref 0), some (.int x1671), some (.int x1672), some (.int x1673), none, none, none, none]) (st' := [.int (-2), .ref 0]) (h' := (HX c1676.2 T)) (cs' := 0) (sl' := 0) rfl ?_
        obtain ⟨c1685, hq, h⟩ := ai_bdE h
        refine ev_call (M' := mf_bad) (L' := [some (.ref 0), some (.int (-2))]) (rest := []) (rv := some (.int c1685.1)) (h' := (HX c1685.2 T)) rfl (Ef_bad_0 (-2) c1676.2 _ _ hq T) ?_
        show ai_ev D1 mf_shaken 36 [some (.ref 0), some (.int x1671), some (.int x1672), some (.int x1673), none, none, none, none] [.int c1685.1] (HX c1685.2 T) 0 0 _
        obtain ⟨rfl, rfl⟩ := ai_smP h
        exact ev_end rfl
      · refine ev_if_ne (t := 37) rfl rfl (fun _ => ?_) (fun c9 => absurd c9 hc)
        refine ev_go 1 (pc' := 38) (L' := [some (.ref 0), some (.int x1671), some (.int x1672), some (.int x1673), none, none, none, none]) (st' := [.int x1673]) (h' := (HX c1676.2 T)) (cs' := 0) (sl' := 0) rfl ?_
        rcases ai_ifE h with ⟨hc, h⟩ | ⟨hc, h⟩
        · refine ev_if_ne (t := 45) rfl rfl (fun c9 => absurd hc c9) (fun _ => ?_)
          refine ev_go 9 (pc' := 64) (L' := [some (.ref 0), some (.int x1671), some (.int x1672), some (.int x1673), some (.int 0), some (.int 0), some (.int x1671), some (.int 0)]) (st' := []) (h' := (HX c1676.2 T)) (cs' := 0) (sl' := 0) rfl ?_
          exact ih0 _ _ _ _ _ _ _ _ _ _ h T
        · refine ev_if_ne (t := 45) rfl rfl (fun _ => ?_) (fun c9 => absurd c9 hc)
          refine ev_go 3 (pc' := 50) (L' := [some (.ref 0), some (.int x1671), some (.int x1672), some (.int x1673), none, none, none, none]) (st' := [.int x1672, .ref 1]) (h' := (HX c1676.2 T)) (cs' := 0) (sl' := 0) rfl ?_
          obtain ⟨c1684, hq, h⟩ := ai_bdE h
          refine ev_call (M' := msea_allThick) (L' := [some (.ref 1), some (.int x1672), none, none]) (rest := []) (rv := some (.int c1684.1)) (h' := (HX c1684.2 T)) rfl (Esea_allThick_1 n x1672 c1676.2 _ _ hq T) ?_
          show ai_ev D1 mf_shaken 53 [some (.ref 0), some (.int x1671), some (.int x1672), some (.int x1673), none, none, none, none] [.int c1684.1] (HX c1684.2 T) 0 0 _
          refine ev_go 7 (pc' := 64) (L' := [some (.ref 0), some (.int x1671), some (.int x1672), some (.int x1673), some (.int c1684.1), some (.int 0), some (.int x1671), some (.int 0)]) (st' := []) (h' := (HX c1684.2 T)) (cs' := 0) (sl' := 0) rfl ?_
          exact ih0 _ _ _ _ _ _ _ _ _ _ h T
set_option maxHeartbeats 40000000 in
set_option maxRecDepth 100000 in
theorem EGf_lies_0 : ∀ n : Nat, (∀ (y1708 : Int32) (y1709 : Int32) (y1710 : Int32) (y1711 : Int32) (y1712 : Int32) (y1713 : Int32) (y1714 : Int32) (y1715 : Int32) (y1716 : Int32) (w : WX) (r : Int32) (w' : WX), Gf_lies_0 n 0 y1708 y1709 y1710 y1711 y1712 y1713 y1714 y1715 y1716 w = some (r, w') → ∀ (T : ai_H), ai_ev D1 mf_lies 71 [some (.ref 0), some (.int y1708), some (.int y1709), some (.int y1710), some (.int y1711), some (.int y1712), some (.int y1713), some (.int y1714), some (.int y1715), some (.int y1716)] [] (HX w T) 0 0 (some (.int r), HX w' T)) := by
  intro n
  induction n with
  | zero =>
    exact (fun _ _ _ _ _ _ _ _ _ _ _ _ h => by cases h)
  | succ n ih0 =>
    intro y1708 y1709 y1710 y1711 y1712 y1713 y1714 y1715 y1716 w r w' h T
    simp only [Gf_lies_0] at h
    refine ev_go 2 (pc' := 75) (L' := [some (.ref 0), some (.int y1708), some (.int y1709), some (.int y1710), some (.int y1711), some (.int y1712), some (.int y1713), some (.int y1714), some (.int y1715), some (.int y1716)]) (st' := [.int 99, .int y1716]) (h' := (HX w T)) (cs' := 0) (sl' := 0) rfl ?_
    rcases ai_ifE h with ⟨hc, h⟩ | ⟨hc, h⟩
    · refine ev_ic_gt (t := 146) rfl rfl (fun _ => ?_) (fun c9 => absurd hc c9)
      refine ev_go 1 (pc' := 148) (L' := [some (.ref 0), some (.int y1708), some (.int y1709), some (.int y1710), some (.int y1711), some (.int y1712), some (.int y1713), some (.int y1714), some (.int y1715), some (.int y1716)]) (st' := [.int y1712]) (h' := (HX w T)) (cs' := 0) (sl' := 0) rfl ?_
      rcases ai_ifE h with ⟨hc, h⟩ | ⟨hc, h⟩
      · refine ev_if_ne (t := 154) rfl rfl (fun c9 => absurd hc c9) (fun _ => ?_)
        refine ev_go 1 (pc' := 153) (L' := [some (.ref 0), some (.int y1708), some (.int y1709), some (.int y1710), some (.int y1711), some (.int y1712), some (.int y1713), some (.int y1714), some (.int y1715), some (.int y1716)]) (st' := [.int y1713]) (h' := (HX w T)) (cs' := 0) (sl' := 0) rfl ?_
        obtain ⟨rfl, rfl⟩ := ai_smP h
        exact ev_end rfl
      · refine ev_if_ne (t := 154) rfl rfl (fun _ => ?_) (fun c9 => absurd c9 hc)
        refine ev_go 2 (pc' := 157) (L' := [some (.ref 0), some (.int y1708), some (.int y1709), some (.int y1710), some (.int y1711), some (.int y1712), some (.int y1713), some (.int y1714), some (.int y1715), some (.int y1716)]) (st' := [.int 1, .int y1712]) (h' := (HX w T)) (cs' := 0) (sl' := 0) rfl ?_
        rcases ai_ifE h with ⟨hc, h⟩ | ⟨hc, h⟩
        · refine ev_ic_ne (t := 165) rfl rfl (fun c9 => absurd hc c9) (fun _ => ?_)
          refine ev_go 2 (pc' := 167) (L' := [some (.ref 0), some (.int y1708), some (.int y1709), some (.int y1710), some (.int y1711), some (.int y1712), some (.int y1713), some (.int y1714), some (.int y1715), some (.int y1716)]) (st' := [.int y1714]) (h' := (HX w T)) (cs' := 0) (sl' := 0) rfl ?_
          obtain ⟨rfl, rfl⟩ := ai_smP h
          exact ev_end rfl
        · refine ev_ic_ne (t := 165) rfl rfl (fun _ => ?_) (fun c9 => absurd c9 hc)
          refine ev_go 1 (pc' := 167) (L' := [some (.ref 0), some (.int y1708), some (.int y1709), some (.int y1710), some (.int y1711), some (.int y1712), some (.int y1713), some (.int y1714), some (.int y1715), some (.int y1716)]) (st' := [.int y1715]) (h' := (HX w T)) (cs' := 0) (sl' := 0) rfl ?_
          obtain ⟨rfl, rfl⟩ := ai_smP h
          exact ev_end rfl
    · refine ev_ic_gt (t := 146) rfl rfl (fun c9 => absurd c9 hc) (fun _ => ?_)
      refine ev_go 7 (pc' := 89) (L' := [some (.ref 0), some (.int y1708), some (.int y1709), some (.int y1710), some (.int y1711), some (.int y1712), some (.int y1713), some (.int y1714), some (.int y1715), some (.int y1716)]) (st' := [.int y1711, .int 0, .int y1708, .int y1716, .int 4, .ref 81]) (h' := (HX w T)) (cs' := 0) (sl' := 0) rfl ?_
      obtain ⟨c1717, hq, h⟩ := ai_bdE h
      refine ev_call (M' := mfall_shape) (L' := [some (.ref 81), some (.int 4), some (.int y1716), some (.int y1708), some (.int 0), some (.int y1711)]) (rest := []) (rv := none) (h' := (HX c1717 T)) rfl (Efall_shape_81 4 y1716 y1708 0 y1711 w _ hq T) ?_
      show ai_ev D1 mf_lies 92 [some (.ref 0), some (.int y1708), some (.int y1709), some (.int y1710), some (.int y1711), some (.int y1712), some (.int y1713), some (.int y1714), some (.int y1715), some (.int y1716)] [] (HX c1717 T) 0 0 _
      refine ev_go 7 (pc' := 104) (L' := [some (.ref 0), some (.int y1708), some (.int y1709), some (.int y1710), some (.int y1711), some (.int y1712), some (.int y1713), some (.int y1714), some (.int y1715), some (.int y1716)]) (st' := [.int 0, .int y1711, .int y1709, .ref 1, .ref 81]) (h' := (HX c1717 T)) (cs' := 0) (sl' := 0) rfl ?_
      obtain ⟨c1718, hq, h⟩ := ai_bdE h
      refine ev_call (M' := mfall_letGo) (L' := [some (.ref 81), some (.ref 1), some (.int y1709), some (.int y1711), some (.int 0), none, none, none]) (rest := []) (rv := none) (h' := (HX c1718 T)) rfl (Efall_letGo_81_1 n y1709 y1711 0 c1717 _ hq T) ?_
      show ai_ev D1 mf_lies 107 [some (.ref 0), some (.int y1708), some (.int y1709), some (.int y1710), some (.int y1711), some (.int y1712), some (.int y1713), some (.int y1714), some (.int y1715), some (.int y1716)] [] (HX c1718 T) 0 0 _
      refine ev_go 4 (pc' := 115) (L' := [some (.ref 0), some (.int y1708), some (.int y1709), some (.int y1710), some (.int y1711), some (.int y1712), some (.int y1713), some (.int y1714), some (.int y1715), some (.int y1716)]) (st' := [.int y1710, .int (a_fall_layer c1718)]) (h' := (HX c1718 T)) (cs' := 0) (sl' := 0) rfl ?_
      rcases ai_ifE h with ⟨hc, h⟩ | ⟨hc, h⟩
      · refine ev_ic_ne (t := 140) rfl rfl (fun c9 => absurd hc c9) (fun _ => ?_)
        refine ev_go 3 (pc' := 124) (L' := [some (.ref 0), some (.int y1708), some (.int y1709), some (.int y1710), some (.int y1711), some (.int y1712), some (.int (y1713 + 1)), some (.int y1714), some (.int y1715), some (.int y1716)]) (st' := [.int (-1), .int y1714]) (h' := (HX c1718 T)) (cs' := 0) (sl' := 0) rfl ?_
        rcases ai_ifE h with ⟨hc, h⟩ | ⟨hc, h⟩
        · refine ev_ic_ne (t := 132) rfl rfl (fun c9 => absurd hc c9) (fun _ => ?_)
          refine ev_go 7 (pc' := 71) (L' := [some (.ref 0), some (.int y1708), some (.int y1709), some (.int y1710), some (.int y1711), some (.int y1712), some (.int (y1713 + 1)), some (.int y1716), some (.int y1716), some (.int (y1716 + 1))]) (st' := []) (h' := (HX c1718 T)) (cs' := 0) (sl' := 0) rfl ?_
          exact ih0 _ _ _ _ _ _ _ _ _ _ _ _ h T
        · refine ev_ic_ne (t := 132) rfl rfl (fun _ => ?_) (fun c9 => absurd c9 hc)
          refine ev_go 6 (pc' := 71) (L' := [some (.ref 0), some (.int y1708), some (.int y1709), some (.int y1710), some (.int y1711), some (.int y1712), some (.int (y1713 + 1)), some (.int y1714), some (.int y1716), some (.int (y1716 + 1))]) (st' := []) (h' := (HX c1718 T)) (cs' := 0) (sl' := 0) rfl ?_
          exact ih0 _ _ _ _ _ _ _ _ _ _ _ _ h T
      · refine ev_ic_ne (t := 140) rfl rfl (fun _ => ?_) (fun c9 => absurd c9 hc)
        refine ev_go 2 (pc' := 71) (L' := [some (.ref 0), some (.int y1708), some (.int y1709), some (.int y1710), some (.int y1711), some (.int y1712), some (.int y1713), some (.int y1714), some (.int y1715), some (.int (y1716 + 1))]) (st' := []) (h' := (HX c1718 T)) (cs' := 0) (sl' := 0) rfl ?_
        exact ih0 _ _ _ _ _ _ _ _ _ _ _ _ h T
set_option maxHeartbeats 40000000 in
set_option maxRecDepth 100000 in
theorem Ef_lies_0 (n : Nat) (x1693 : Int32) (x1694 : Int32) (x1695 : Int32) (x1696 : Int32) (x1697 : Int32) (w : WX) (r : Int32) (w' : WX) (h : Ff_lies_0 n x1693 x1694 x1695 x1696 x1697 w = some (r, w')) (T : ai_H) : ai_ev D1 mf_lies 0 [some (.ref 0), some (.int x1693), some (.int x1694), some (.int x1695), some (.int x1696), some (.int x1697), none, none, none, none] [] (HX w T) 0 0 (some (.int r), HX w' T) := by
  unfold Ff_lies_0 at h
  have ih0 := EGf_lies_0 n
  refine ev_go 3 (pc' := 4) (L' := [some (.ref 0), some (.int x1693), some (.int x1694), some (.int x1695), some (.int x1696), some (.int x1697), none, none, none, none]) (st' := [.int 9, .int 1, .int x1693]) (h' := (HX w T)) (cs' := 0) (sl' := 0) rfl ?_
  obtain ⟨c1698, hq, h⟩ := ai_bdE h
  refine ev_call (M' := mf_within) (L' := [some (.int x1693), some (.int 1), some (.int 9)]) (rest := []) (rv := some (.int c1698)) (h' := (HX w T)) rfl (Ef_within x1693 1 9 _ hq (HX w T)) ?_
  show ai_ev D1 mf_lies 7 [some (.ref 0), some (.int x1693), some (.int x1694), some (.int x1695), some (.int x1696), some (.int x1697), none, none, none, none] [.int c1698] (HX w T) 0 0 _
  rcases ai_ifE h with ⟨hc, h⟩ | ⟨hc, h⟩
  · refine ev_if_eq (t := 52) rfl rfl (fun _ => ?_) (fun c9 => absurd hc c9)
    refine ev_go 2 (pc' := 55) (L' := [some (.ref 0), some (.int x1693), some (.int x1694), some (.int x1695), some (.int x1696), some (.int x1697), none, none, none, none]) (st' := [.int (-10), .ref 0]) (h' := (HX w T)) (cs' := 0) (sl' := 0) rfl ?_
    obtain ⟨c1699, hq, h⟩ := ai_bdE h
    refine ev_call (M' := mf_bad) (L' := [some (.ref 0), some (.int (-10))]) (rest := []) (rv := some (.int c1699.1)) (h' := (HX c1699.2 T)) rfl (Ef_bad_0 (-10) w _ _ hq T) ?_
    show ai_ev D1 mf_lies 58 [some (.ref 0), some (.int x1693), some (.int x1694), some (.int x1695), some (.int x1696), some (.int x1697), none, none, none, none] [.int c1699.1] (HX c1699.2 T) 0 0 _
    obtain ⟨rfl, rfl⟩ := ai_smP h
    exact ev_end rfl
  · refine ev_if_eq (t := 52) rfl rfl (fun c9 => absurd c9 hc) (fun _ => ?_)
    refine ev_go 3 (pc' := 15) (L' := [some (.ref 0), some (.int x1693), some (.int x1694), some (.int x1695), some (.int x1696), some (.int x1697), none, none, none, none]) (st' := [.int x1694, .ref 1]) (h' := (HX w T)) (cs' := 0) (sl' := 0) rfl ?_
    obtain ⟨c1700, hq, h⟩ := ai_bdE h
    refine ev_call (M' := msea_hasCell) (L' := [some (.ref 1), some (.int x1694)]) (rest := []) (rv := some (.int c1700.1)) (h' := (HX c1700.2 T)) rfl (Esea_hasCell_1 x1694 w _ _ hq T) ?_
    show ai_ev D1 mf_lies 18 [some (.ref 0), some (.int x1693), some (.int x1694), some (.int x1695), some (.int x1696), some (.int x1697), none, none, none, none] [.int c1700.1] (HX c1700.2 T) 0 0 _
    rcases ai_ifE h with ⟨hc, h⟩ | ⟨hc, h⟩
    · refine ev_if_eq (t := 52) rfl rfl (fun _ => ?_) (fun c9 => absurd hc c9)
      refine ev_go 2 (pc' := 55) (L' := [some (.ref 0), some (.int x1693), some (.int x1694), some (.int x1695), some (.int x1696), some (.int x1697), none, none, none, none]) (st' := [.int (-10), .ref 0]) (h' := (HX c1700.2 T)) (cs' := 0) (sl' := 0) rfl ?_
      obtain ⟨c1701, hq, h⟩ := ai_bdE h
      refine ev_call (M' := mf_bad) (L' := [some (.ref 0), some (.int (-10))]) (rest := []) (rv := some (.int c1701.1)) (h' := (HX c1701.2 T)) rfl (Ef_bad_0 (-10) c1700.2 _ _ hq T) ?_
      show ai_ev D1 mf_lies 58 [some (.ref 0), some (.int x1693), some (.int x1694), some (.int x1695), some (.int x1696), some (.int x1697), none, none, none, none] [.int c1701.1] (HX c1701.2 T) 0 0 _
      obtain ⟨rfl, rfl⟩ := ai_smP h
      exact ev_end rfl
    · refine ev_if_eq (t := 52) rfl rfl (fun c9 => absurd c9 hc) (fun _ => ?_)
      refine ev_go 3 (pc' := 24) (L' := [some (.ref 0), some (.int x1693), some (.int x1694), some (.int x1695), some (.int x1696), some (.int x1697), none, none, none, none]) (st' := [.int 4, .int 0, .int x1695]) (h' := (HX c1700.2 T)) (cs' := 0) (sl' := 0) rfl ?_
      obtain ⟨c1702, hq, h⟩ := ai_bdE h
      refine ev_call (M' := mf_within) (L' := [some (.int x1695), some (.int 0), some (.int 4)]) (rest := []) (rv := some (.int c1702)) (h' := (HX c1700.2 T)) rfl (Ef_within x1695 0 4 _ hq (HX c1700.2 T)) ?_
      show ai_ev D1 mf_lies 27 [some (.ref 0), some (.int x1693), some (.int x1694), some (.int x1695), some (.int x1696), some (.int x1697), none, none, none, none] [.int c1702] (HX c1700.2 T) 0 0 _
      rcases ai_ifE h with ⟨hc, h⟩ | ⟨hc, h⟩
      · refine ev_if_eq (t := 52) rfl rfl (fun _ => ?_) (fun c9 => absurd hc c9)
        refine ev_go 2 (pc' := 55) (L' := [some (.ref 0), some (.int x1693), some (.int x1694), some (.int x1695), some (.int x1696), some (.int x1697), none, none, none, none]) (st' := [.int (-10), .ref 0]) (h' := (HX c1700.2 T)) (cs' := 0) (sl' := 0) rfl ?_
        obtain ⟨c1703, hq, h⟩ := ai_bdE h
        refine ev_call (M' := mf_bad) (L' := [some (.ref 0), some (.int (-10))]) (rest := []) (rv := some (.int c1703.1)) (h' := (HX c1703.2 T)) rfl (Ef_bad_0 (-10) c1700.2 _ _ hq T) ?_
        show ai_ev D1 mf_lies 58 [some (.ref 0), some (.int x1693), some (.int x1694), some (.int x1695), some (.int x1696), some (.int x1697), none, none, none, none] [.int c1703.1] (HX c1703.2 T) 0 0 _
        obtain ⟨rfl, rfl⟩ := ai_smP h
        exact ev_end rfl
      · refine ev_if_eq (t := 52) rfl rfl (fun c9 => absurd c9 hc) (fun _ => ?_)
        refine ev_go 3 (pc' := 36) (L' := [some (.ref 0), some (.int x1693), some (.int x1694), some (.int x1695), some (.int x1696), some (.int x1697), none, none, none, none]) (st' := [.int 999, .int 0, .int x1696]) (h' := (HX c1700.2 T)) (cs' := 0) (sl' := 0) rfl ?_
        obtain ⟨c1704, hq, h⟩ := ai_bdE h
        refine ev_call (M' := mf_within) (L' := [some (.int x1696), some (.int 0), some (.int 999)]) (rest := []) (rv := some (.int c1704)) (h' := (HX c1700.2 T)) rfl (Ef_within x1696 0 999 _ hq (HX c1700.2 T)) ?_
        show ai_ev D1 mf_lies 39 [some (.ref 0), some (.int x1693), some (.int x1694), some (.int x1695), some (.int x1696), some (.int x1697), none, none, none, none] [.int c1704] (HX c1700.2 T) 0 0 _
        rcases ai_ifE h with ⟨hc, h⟩ | ⟨hc, h⟩
        · refine ev_if_eq (t := 52) rfl rfl (fun _ => ?_) (fun c9 => absurd hc c9)
          refine ev_go 2 (pc' := 55) (L' := [some (.ref 0), some (.int x1693), some (.int x1694), some (.int x1695), some (.int x1696), some (.int x1697), none, none, none, none]) (st' := [.int (-10), .ref 0]) (h' := (HX c1700.2 T)) (cs' := 0) (sl' := 0) rfl ?_
          obtain ⟨c1705, hq, h⟩ := ai_bdE h
          refine ev_call (M' := mf_bad) (L' := [some (.ref 0), some (.int (-10))]) (rest := []) (rv := some (.int c1705.1)) (h' := (HX c1705.2 T)) rfl (Ef_bad_0 (-10) c1700.2 _ _ hq T) ?_
          show ai_ev D1 mf_lies 58 [some (.ref 0), some (.int x1693), some (.int x1694), some (.int x1695), some (.int x1696), some (.int x1697), none, none, none, none] [.int c1705.1] (HX c1705.2 T) 0 0 _
          obtain ⟨rfl, rfl⟩ := ai_smP h
          exact ev_end rfl
        · refine ev_if_eq (t := 52) rfl rfl (fun c9 => absurd c9 hc) (fun _ => ?_)
          refine ev_go 3 (pc' := 46) (L' := [some (.ref 0), some (.int x1693), some (.int x1694), some (.int x1695), some (.int x1696), some (.int x1697), none, none, none, none]) (st' := [.int 2, .int 0, .int x1697]) (h' := (HX c1700.2 T)) (cs' := 0) (sl' := 0) rfl ?_
          obtain ⟨c1706, hq, h⟩ := ai_bdE h
          refine ev_call (M' := mf_within) (L' := [some (.int x1697), some (.int 0), some (.int 2)]) (rest := []) (rv := some (.int c1706)) (h' := (HX c1700.2 T)) rfl (Ef_within x1697 0 2 _ hq (HX c1700.2 T)) ?_
          show ai_ev D1 mf_lies 49 [some (.ref 0), some (.int x1693), some (.int x1694), some (.int x1695), some (.int x1696), some (.int x1697), none, none, none, none] [.int c1706] (HX c1700.2 T) 0 0 _
          rcases ai_ifE h with ⟨hc, h⟩ | ⟨hc, h⟩
          · refine ev_if_ne (t := 59) rfl rfl (fun c9 => absurd hc c9) (fun _ => ?_)
            refine ev_go 2 (pc' := 55) (L' := [some (.ref 0), some (.int x1693), some (.int x1694), some (.int x1695), some (.int x1696), some (.int x1697), none, none, none, none]) (st' := [.int (-10), .ref 0]) (h' := (HX c1700.2 T)) (cs' := 0) (sl' := 0) rfl ?_
            obtain ⟨c1707, hq, h⟩ := ai_bdE h
            refine ev_call (M' := mf_bad) (L' := [some (.ref 0), some (.int (-10))]) (rest := []) (rv := some (.int c1707.1)) (h' := (HX c1707.2 T)) rfl (Ef_bad_0 (-10) c1700.2 _ _ hq T) ?_
            show ai_ev D1 mf_lies 58 [some (.ref 0), some (.int x1693), some (.int x1694), some (.int x1695), some (.int x1696), some (.int x1697), none, none, none, none] [.int c1707.1] (HX c1707.2 T) 0 0 _
            obtain ⟨rfl, rfl⟩ := ai_smP h
            exact ev_end rfl
          · refine ev_if_ne (t := 59) rfl rfl (fun _ => ?_) (fun c9 => absurd c9 hc)
            refine ev_go 8 (pc' := 71) (L' := [some (.ref 0), some (.int x1693), some (.int x1694), some (.int x1695), some (.int x1696), some (.int x1697), some (.int 0), some (.int (-1)), some (.int (-1)), some (.int 1)]) (st' := []) (h' := (HX c1700.2 T)) (cs' := 0) (sl' := 0) rfl ?_
            exact ih0 _ _ _ _ _ _ _ _ _ _ _ _ h T
