set_option maxHeartbeats 40000000 in
set_option maxRecDepth 100000 in
theorem Em_lesser (x366 : Int32) (x367 : Int32) (r : Int32) (h : Fm_lesser x366 x367 = some r) (hh : ai_H) : ai_ev D1 mm_lesser 0 [some (.int x366), some (.int x367)] [] hh 0 0 (some (.int r), hh) := by
  unfold Fm_lesser at h
  refine ev_go 2 (pc' := 2) (L' := [some (.int x366), some (.int x367)]) (st' := [.int x367, .int x366]) (h' := hh) (cs' := 0) (sl' := 0) rfl ?_
  rcases ai_ifE h with ⟨hc, h⟩ | ⟨hc, h⟩
  · refine ev_ic_ge (t := 9) rfl rfl (fun _ => ?_) (fun c9 => absurd hc c9)
    refine ev_go 1 (pc' := 10) (L' := [some (.int x366), some (.int x367)]) (st' := [.int x367]) (h' := hh) (cs' := 0) (sl' := 0) rfl ?_
    obtain rfl := Option.some.inj h
    exact ev_end rfl
  · refine ev_ic_ge (t := 9) rfl rfl (fun c9 => absurd c9 hc) (fun _ => ?_)
    refine ev_go 2 (pc' := 10) (L' := [some (.int x366), some (.int x367)]) (st' := [.int x366]) (h' := hh) (cs' := 0) (sl' := 0) rfl ?_
    obtain rfl := Option.some.inj h
    exact ev_end rfl
set_option maxHeartbeats 40000000 in
set_option maxRecDepth 100000 in
theorem Em_room_89 (w : WM) (r : Int32) (w' : WM) (h : Fm_room_89 w = some (r, w')) (P : Nat → ai_E) (T : ai_H) : ai_ev D1 mm_room 0 [some (.ref 89)] [] (HM P w T) 0 0 (some (.int r), HM P w' T) := by
  unfold Fm_room_89 at h
  refine ev_go 5 (pc' := 9) (L' := [some (.ref 89)]) (st' := [.int 2, .int (a_m_kind w), .int (a_m_volume w)]) (h' := (HM P w T)) (cs' := 0) (sl' := 0) rfl ?_
  rcases ai_ifE h with ⟨hc, h⟩ | ⟨hc, h⟩
  · refine ev_ic_eq (t := 20) rfl rfl (fun _ => ?_) (fun c9 => absurd hc c9)
    refine ev_go 3 (pc' := 47) (L' := [some (.ref 89)]) (st' := [.int ((a_m_volume w) + 1)]) (h' := (HM P w T)) (cs' := 0) (sl' := 0) rfl ?_
    obtain ⟨rfl, rfl⟩ := ai_smP h
    exact ev_end rfl
  · refine ev_ic_eq (t := 20) rfl rfl (fun c9 => absurd c9 hc) (fun _ => ?_)
    refine ev_go 3 (pc' := 17) (L' := [some (.ref 89)]) (st' := [.int 3, .int (a_m_kind w), .int (a_m_volume w)]) (h' := (HM P w T)) (cs' := 0) (sl' := 0) rfl ?_
    rcases ai_ifE h with ⟨hc, h⟩ | ⟨hc, h⟩
    · refine ev_ic_ne (t := 24) rfl rfl (fun c9 => absurd hc c9) (fun _ => ?_)
      refine ev_go 3 (pc' := 47) (L' := [some (.ref 89)]) (st' := [.int ((a_m_volume w) + 1)]) (h' := (HM P w T)) (cs' := 0) (sl' := 0) rfl ?_
      obtain ⟨rfl, rfl⟩ := ai_smP h
      exact ev_end rfl
    · refine ev_ic_ne (t := 24) rfl rfl (fun _ => ?_) (fun c9 => absurd c9 hc)
      refine ev_go 3 (pc' := 29) (L' := [some (.ref 89)]) (st' := [.int 4, .int (a_m_kind w), .int (a_m_volume w)]) (h' := (HM P w T)) (cs' := 0) (sl' := 0) rfl ?_
      rcases ai_ifE h with ⟨hc, h⟩ | ⟨hc, h⟩
      · refine ev_ic_ne (t := 45) rfl rfl (fun c9 => absurd hc c9) (fun _ => ?_)
        refine ev_go 5 (pc' := 39) (L' := [some (.ref 89)]) (st' := [.int 5, .int ((a_m_hour w) / 4), .int (a_m_volume w)]) (h' := (HM P w T)) (cs' := 0) (sl' := 0) rfl ?_
        obtain ⟨c368, hq, h⟩ := ai_bdE h
        refine ev_call (M' := mm_lesser) (L' := [some (.int ((a_m_hour w) / 4)), some (.int 5)]) (rest := [.int (a_m_volume w)]) (rv := some (.int c368)) (h' := (HM P w T)) rfl (Em_lesser ((a_m_hour w) / 4) 5 _ hq (HM P w T)) ?_
        show ai_ev D1 mm_room 42 [some (.ref 89)] [.int c368, .int (a_m_volume w)] (HM P w T) 0 0 _
        refine ev_go 2 (pc' := 47) (L' := [some (.ref 89)]) (st' := [.int ((a_m_volume w) + c368)]) (h' := (HM P w T)) (cs' := 0) (sl' := 0) rfl ?_
        obtain ⟨rfl, rfl⟩ := ai_smP h
        exact ev_end rfl
      · refine ev_ic_ne (t := 45) rfl rfl (fun _ => ?_) (fun c9 => absurd c9 hc)
        refine ev_go 2 (pc' := 47) (L' := [some (.ref 89)]) (st' := [.int ((a_m_volume w) + 0)]) (h' := (HM P w T)) (cs' := 0) (sl' := 0) rfl ?_
        obtain ⟨rfl, rfl⟩ := ai_smP h
        exact ev_end rfl
set_option maxHeartbeats 40000000 in
set_option maxRecDepth 100000 in
theorem Em_weighs_89 (w : WM) (r : Int32) (w' : WM) (h : Fm_weighs_89 w = some (r, w')) (P : Nat → ai_E) (T : ai_H) : ai_ev D1 mm_weighs 0 [some (.ref 89), none] [] (HM P w T) 0 0 (some (.int r), HM P w' T) := by
  unfold Fm_weighs_89 at h
  refine ev_go 5 (pc' := 9) (L' := [some (.ref 89), none]) (st' := [.int 1, .int (a_m_kind w), .int (a_m_weight w)]) (h' := (HM P w T)) (cs' := 0) (sl' := 0) rfl ?_
  rcases ai_ifE h with ⟨hc, h⟩ | ⟨hc, h⟩
  · refine ev_ic_eq (t := 28) rfl rfl (fun _ => ?_) (fun c9 => absurd hc c9)
    refine ev_go 9 (pc' := 44) (L' := [some (.ref 89), some (.int ((a_m_weight w) + (a_m_load w)))]) (st' := [.int 3, .int (a_m_kind w), .int ((a_m_weight w) + (a_m_load w))]) (h' := (HM P w T)) (cs' := 0) (sl' := 0) rfl ?_
    rcases ai_ifE h with ⟨hc, h⟩ | ⟨hc, h⟩
    · refine ev_ic_ne (t := 61) rfl rfl (fun c9 => absurd hc c9) (fun _ => ?_)
      refine ev_go 4 (pc' := 54) (L' := [some (.ref 89), some (.int ((a_m_weight w) + (a_m_load w)))]) (st' := [.int 10, .int (a_m_hour w), .int 2, .int ((a_m_weight w) + (a_m_load w))]) (h' := (HM P w T)) (cs' := 0) (sl' := 0) rfl ?_
      obtain ⟨c370, hq, h⟩ := ai_bdE h
      refine ev_call (M' := mm_lesser) (L' := [some (.int (a_m_hour w)), some (.int 10)]) (rest := [.int 2, .int ((a_m_weight w) + (a_m_load w))]) (rv := some (.int c370)) (h' := (HM P w T)) rfl (Em_lesser (a_m_hour w) 10 _ hq (HM P w T)) ?_
      show ai_ev D1 mm_weighs 57 [some (.ref 89), some (.int ((a_m_weight w) + (a_m_load w)))] [.int c370, .int 2, .int ((a_m_weight w) + (a_m_load w))] (HM P w T) 0 0 _
      refine ev_go 3 (pc' := 63) (L' := [some (.ref 89), some (.int ((a_m_weight w) + (a_m_load w)))]) (st' := [.int (((a_m_weight w) + (a_m_load w)) + (2 * c370))]) (h' := (HM P w T)) (cs' := 0) (sl' := 0) rfl ?_
      obtain ⟨rfl, rfl⟩ := ai_smP h
      exact ev_end rfl
    · refine ev_ic_ne (t := 61) rfl rfl (fun _ => ?_) (fun c9 => absurd c9 hc)
      refine ev_go 2 (pc' := 63) (L' := [some (.ref 89), some (.int ((a_m_weight w) + (a_m_load w)))]) (st' := [.int (((a_m_weight w) + (a_m_load w)) + 0)]) (h' := (HM P w T)) (cs' := 0) (sl' := 0) rfl ?_
      obtain ⟨rfl, rfl⟩ := ai_smP h
      exact ev_end rfl
  · refine ev_ic_eq (t := 28) rfl rfl (fun c9 => absurd c9 hc) (fun _ => ?_)
    refine ev_go 3 (pc' := 17) (L' := [some (.ref 89), none]) (st' := [.int 2, .int (a_m_kind w), .int (a_m_weight w)]) (h' := (HM P w T)) (cs' := 0) (sl' := 0) rfl ?_
    rcases ai_ifE h with ⟨hc, h⟩ | ⟨hc, h⟩
    · refine ev_ic_eq (t := 28) rfl rfl (fun _ => ?_) (fun c9 => absurd hc c9)
      refine ev_go 9 (pc' := 44) (L' := [some (.ref 89), some (.int ((a_m_weight w) + (a_m_load w)))]) (st' := [.int 3, .int (a_m_kind w), .int ((a_m_weight w) + (a_m_load w))]) (h' := (HM P w T)) (cs' := 0) (sl' := 0) rfl ?_
      rcases ai_ifE h with ⟨hc, h⟩ | ⟨hc, h⟩
      · refine ev_ic_ne (t := 61) rfl rfl (fun c9 => absurd hc c9) (fun _ => ?_)
        refine ev_go 4 (pc' := 54) (L' := [some (.ref 89), some (.int ((a_m_weight w) + (a_m_load w)))]) (st' := [.int 10, .int (a_m_hour w), .int 2, .int ((a_m_weight w) + (a_m_load w))]) (h' := (HM P w T)) (cs' := 0) (sl' := 0) rfl ?_
        obtain ⟨c371, hq, h⟩ := ai_bdE h
        refine ev_call (M' := mm_lesser) (L' := [some (.int (a_m_hour w)), some (.int 10)]) (rest := [.int 2, .int ((a_m_weight w) + (a_m_load w))]) (rv := some (.int c371)) (h' := (HM P w T)) rfl (Em_lesser (a_m_hour w) 10 _ hq (HM P w T)) ?_
        show ai_ev D1 mm_weighs 57 [some (.ref 89), some (.int ((a_m_weight w) + (a_m_load w)))] [.int c371, .int 2, .int ((a_m_weight w) + (a_m_load w))] (HM P w T) 0 0 _
        refine ev_go 3 (pc' := 63) (L' := [some (.ref 89), some (.int ((a_m_weight w) + (a_m_load w)))]) (st' := [.int (((a_m_weight w) + (a_m_load w)) + (2 * c371))]) (h' := (HM P w T)) (cs' := 0) (sl' := 0) rfl ?_
        obtain ⟨rfl, rfl⟩ := ai_smP h
        exact ev_end rfl
      · refine ev_ic_ne (t := 61) rfl rfl (fun _ => ?_) (fun c9 => absurd c9 hc)
        refine ev_go 2 (pc' := 63) (L' := [some (.ref 89), some (.int ((a_m_weight w) + (a_m_load w)))]) (st' := [.int (((a_m_weight w) + (a_m_load w)) + 0)]) (h' := (HM P w T)) (cs' := 0) (sl' := 0) rfl ?_
        obtain ⟨rfl, rfl⟩ := ai_smP h
        exact ev_end rfl
    · refine ev_ic_eq (t := 28) rfl rfl (fun c9 => absurd c9 hc) (fun _ => ?_)
      refine ev_go 3 (pc' := 25) (L' := [some (.ref 89), none]) (st' := [.int 3, .int (a_m_kind w), .int (a_m_weight w)]) (h' := (HM P w T)) (cs' := 0) (sl' := 0) rfl ?_
      rcases ai_ifE h with ⟨hc, h⟩ | ⟨hc, h⟩
      · refine ev_ic_ne (t := 35) rfl rfl (fun c9 => absurd hc c9) (fun _ => ?_)
        refine ev_go 9 (pc' := 44) (L' := [some (.ref 89), some (.int ((a_m_weight w) + (a_m_load w)))]) (st' := [.int 3, .int (a_m_kind w), .int ((a_m_weight w) + (a_m_load w))]) (h' := (HM P w T)) (cs' := 0) (sl' := 0) rfl ?_
        rcases ai_ifE h with ⟨hc, h⟩ | ⟨hc, h⟩
        · refine ev_ic_ne (t := 61) rfl rfl (fun c9 => absurd hc c9) (fun _ => ?_)
          refine ev_go 4 (pc' := 54) (L' := [some (.ref 89), some (.int ((a_m_weight w) + (a_m_load w)))]) (st' := [.int 10, .int (a_m_hour w), .int 2, .int ((a_m_weight w) + (a_m_load w))]) (h' := (HM P w T)) (cs' := 0) (sl' := 0) rfl ?_
          obtain ⟨c373, hq, h⟩ := ai_bdE h
          refine ev_call (M' := mm_lesser) (L' := [some (.int (a_m_hour w)), some (.int 10)]) (rest := [.int 2, .int ((a_m_weight w) + (a_m_load w))]) (rv := some (.int c373)) (h' := (HM P w T)) rfl (Em_lesser (a_m_hour w) 10 _ hq (HM P w T)) ?_
          show ai_ev D1 mm_weighs 57 [some (.ref 89), some (.int ((a_m_weight w) + (a_m_load w)))] [.int c373, .int 2, .int ((a_m_weight w) + (a_m_load w))] (HM P w T) 0 0 _
          refine ev_go 3 (pc' := 63) (L' := [some (.ref 89), some (.int ((a_m_weight w) + (a_m_load w)))]) (st' := [.int (((a_m_weight w) + (a_m_load w)) + (2 * c373))]) (h' := (HM P w T)) (cs' := 0) (sl' := 0) rfl ?_
          obtain ⟨rfl, rfl⟩ := ai_smP h
          exact ev_end rfl
        · refine ev_ic_ne (t := 61) rfl rfl (fun _ => ?_) (fun c9 => absurd c9 hc)
          refine ev_go 2 (pc' := 63) (L' := [some (.ref 89), some (.int ((a_m_weight w) + (a_m_load w)))]) (st' := [.int (((a_m_weight w) + (a_m_load w)) + 0)]) (h' := (HM P w T)) (cs' := 0) (sl' := 0) rfl ?_
          obtain ⟨rfl, rfl⟩ := ai_smP h
          exact ev_end rfl
      · refine ev_ic_ne (t := 35) rfl rfl (fun _ => ?_) (fun c9 => absurd c9 hc)
        refine ev_go 7 (pc' := 44) (L' := [some (.ref 89), some (.int ((a_m_weight w) + 0))]) (st' := [.int 3, .int (a_m_kind w), .int ((a_m_weight w) + 0)]) (h' := (HM P w T)) (cs' := 0) (sl' := 0) rfl ?_
        rcases ai_ifE h with ⟨hc, h⟩ | ⟨hc, h⟩
        · refine ev_ic_ne (t := 61) rfl rfl (fun c9 => absurd hc c9) (fun _ => ?_)
          refine ev_go 4 (pc' := 54) (L' := [some (.ref 89), some (.int ((a_m_weight w) + 0))]) (st' := [.int 10, .int (a_m_hour w), .int 2, .int ((a_m_weight w) + 0)]) (h' := (HM P w T)) (cs' := 0) (sl' := 0) rfl ?_
          obtain ⟨c372, hq, h⟩ := ai_bdE h
          refine ev_call (M' := mm_lesser) (L' := [some (.int (a_m_hour w)), some (.int 10)]) (rest := [.int 2, .int ((a_m_weight w) + 0)]) (rv := some (.int c372)) (h' := (HM P w T)) rfl (Em_lesser (a_m_hour w) 10 _ hq (HM P w T)) ?_
          show ai_ev D1 mm_weighs 57 [some (.ref 89), some (.int ((a_m_weight w) + 0))] [.int c372, .int 2, .int ((a_m_weight w) + 0)] (HM P w T) 0 0 _
          refine ev_go 3 (pc' := 63) (L' := [some (.ref 89), some (.int ((a_m_weight w) + 0))]) (st' := [.int (((a_m_weight w) + 0) + (2 * c372))]) (h' := (HM P w T)) (cs' := 0) (sl' := 0) rfl ?_
          obtain ⟨rfl, rfl⟩ := ai_smP h
          exact ev_end rfl
        · refine ev_ic_ne (t := 61) rfl rfl (fun _ => ?_) (fun c9 => absurd c9 hc)
          refine ev_go 2 (pc' := 63) (L' := [some (.ref 89), some (.int ((a_m_weight w) + 0))]) (st' := [.int (((a_m_weight w) + 0) + 0)]) (h' := (HM P w T)) (cs' := 0) (sl' := 0) rfl ?_
          obtain ⟨rfl, rfl⟩ := ai_smP h
          exact ev_end rfl
set_option maxHeartbeats 40000000 in
set_option maxRecDepth 100000 in
theorem Em_of_89 (x354 : Int32) (x355 : Int32) (w : WM) (r : Int32) (w' : WM) (h : Fm_of_89 x354 x355 w = some (r, w')) (P : Nat → ai_E) (T : ai_H) : ai_ev D1 mm_of 0 [some (.ref 89), some (.int x354), some (.int x355)] [] (HM P w T) 0 0 (some (.int r), HM P w' T) := by
  unfold Fm_of_89 at h
  refine ev_go 2 (pc' := 2) (L' := [some (.ref 89), some (.int x354), some (.int x355)]) (st' := [.int x354, .ref 89]) (h' := (HM P w T)) (cs' := 0) (sl' := 0) rfl ?_
  obtain ⟨c356, hq, h⟩ := ai_bdE h
  refine ev_call (M' := mm_isThing) (L' := [some (.ref 89), some (.int x354)]) (rest := []) (rv := some (.int c356.1)) (h' := (HM P c356.2 T)) rfl (Em_isThing_89 x354 w _ _ hq P T) ?_
  show ai_ev D1 mm_of 5 [some (.ref 89), some (.int x354), some (.int x355)] [.int c356.1] (HM P c356.2 T) 0 0 _
  rcases ai_ifE h with ⟨hc, h⟩ | ⟨hc, h⟩
  · refine ev_if_eq (t := 20) rfl rfl (fun _ => ?_) (fun c9 => absurd hc c9)
    refine ev_go 1 (pc' := 21) (L' := [some (.ref 89), some (.int x354), some (.int x355)]) (st' := [.ref 89]) (h' := (HM P c356.2 T)) (cs' := 0) (sl' := 0) rfl ?_
    obtain ⟨c357, hq, h⟩ := ai_bdE h
    refine ev_call (M' := mm_bad) (L' := [some (.ref 89)]) (rest := []) (rv := some (.int c357.1)) (h' := (HM P c357.2 T)) rfl (Em_bad_89 c356.2 _ _ hq P T) ?_
    show ai_ev D1 mm_of 24 [some (.ref 89), some (.int x354), some (.int x355)] [.int c357.1] (HM P c357.2 T) 0 0 _
    obtain ⟨rfl, rfl⟩ := ai_smP h
    exact ev_end rfl
  · refine ev_if_eq (t := 20) rfl rfl (fun c9 => absurd c9 hc) (fun _ => ?_)
    refine ev_go 4 (pc' := 14) (L' := [some (.ref 89), some (.int x354), some (.int x355)]) (st' := [.long 2, .long 0, .long (x355).toInt64]) (h' := (HM P c356.2 T)) (cs' := 0) (sl' := 0) rfl ?_
    obtain ⟨c358, hq, h⟩ := ai_bdE h
    refine ev_call (M' := mm_in) (L' := [some (.long (x355).toInt64), none, some (.long 0), none, some (.long 2), none]) (rest := []) (rv := some (.int c358)) (h' := (HM P c356.2 T)) rfl (Em_in (x355).toInt64 0 2 _ hq (HM P c356.2 T)) ?_
    show ai_ev D1 mm_of 17 [some (.ref 89), some (.int x354), some (.int x355)] [.int c358] (HM P c356.2 T) 0 0 _
    rcases ai_ifE h with ⟨hc, h⟩ | ⟨hc, h⟩
    · refine ev_if_ne (t := 25) rfl rfl (fun c9 => absurd hc c9) (fun _ => ?_)
      refine ev_go 1 (pc' := 21) (L' := [some (.ref 89), some (.int x354), some (.int x355)]) (st' := [.ref 89]) (h' := (HM P c356.2 T)) (cs' := 0) (sl' := 0) rfl ?_
      obtain ⟨c375, hq, h⟩ := ai_bdE h
      refine ev_call (M' := mm_bad) (L' := [some (.ref 89)]) (rest := []) (rv := some (.int c375.1)) (h' := (HM P c375.2 T)) rfl (Em_bad_89 c356.2 _ _ hq P T) ?_
      show ai_ev D1 mm_of 24 [some (.ref 89), some (.int x354), some (.int x355)] [.int c375.1] (HM P c375.2 T) 0 0 _
      obtain ⟨rfl, rfl⟩ := ai_smP h
      exact ev_end rfl
    · refine ev_if_ne (t := 25) rfl rfl (fun _ => ?_) (fun c9 => absurd c9 hc)
      refine ev_go 2 (pc' := 27) (L' := [some (.ref 89), some (.int x354), some (.int x355)]) (st' := [.int x354, .ref 89]) (h' := (HM P c356.2 T)) (cs' := 0) (sl' := 0) rfl ?_
      obtain ⟨c365, hq, h⟩ := ai_bdE h
      refine ev_call (M' := mm_lay) (L' := [some (.ref 89), some (.int x354)]) (rest := []) (rv := none) (h' := (HM P c365 T)) rfl (Em_lay_89 x354 c356.2 _ hq P T) ?_
      show ai_ev D1 mm_of 30 [some (.ref 89), some (.int x354), some (.int x355)] [] (HM P c365 T) 0 0 _
      refine ev_go 1 (pc' := 31) (L' := [some (.ref 89), some (.int x354), some (.int x355)]) (st' := [.int x355]) (h' := (HM P c365 T)) (cs' := 0) (sl' := 0) rfl ?_
      rcases ai_ifE h with ⟨hc, h⟩ | ⟨hc, h⟩
      · refine ev_if_ne (t := 41) rfl rfl (fun c9 => absurd hc c9) (fun _ => ?_)
        refine ev_go 3 (pc' := 57) (L' := [some (.ref 89), some (.int x354), some (.int x355)]) (st' := [.int (a_m_kind c365)]) (h' := (HM P c365 T)) (cs' := 0) (sl' := 0) rfl ?_
        obtain ⟨rfl, rfl⟩ := ai_smP h
        exact ev_end rfl
      · refine ev_if_ne (t := 41) rfl rfl (fun _ => ?_) (fun c9 => absurd c9 hc)
        refine ev_go 2 (pc' := 43) (L' := [some (.ref 89), some (.int x354), some (.int x355)]) (st' := [.int 1, .int x355]) (h' := (HM P c365 T)) (cs' := 0) (sl' := 0) rfl ?_
        rcases ai_ifE h with ⟨hc, h⟩ | ⟨hc, h⟩
        · refine ev_ic_ne (t := 53) rfl rfl (fun c9 => absurd hc c9) (fun _ => ?_)
          refine ev_go 1 (pc' := 47) (L' := [some (.ref 89), some (.int x354), some (.int x355)]) (st' := [.ref 89]) (h' := (HM P c365 T)) (cs' := 0) (sl' := 0) rfl ?_
          obtain ⟨c374, hq, h⟩ := ai_bdE h
          refine ev_call (M' := mm_weighs) (L' := [some (.ref 89), none]) (rest := []) (rv := some (.int c374.1)) (h' := (HM P c374.2 T)) rfl (Em_weighs_89 c365 _ _ hq P T) ?_
          show ai_ev D1 mm_of 50 [some (.ref 89), some (.int x354), some (.int x355)] [.int c374.1] (HM P c374.2 T) 0 0 _
          refine ev_go 1 (pc' := 57) (L' := [some (.ref 89), some (.int x354), some (.int x355)]) (st' := [.int c374.1]) (h' := (HM P c374.2 T)) (cs' := 0) (sl' := 0) rfl ?_
          obtain ⟨rfl, rfl⟩ := ai_smP h
          exact ev_end rfl
        · refine ev_ic_ne (t := 53) rfl rfl (fun _ => ?_) (fun c9 => absurd c9 hc)
          refine ev_go 1 (pc' := 54) (L' := [some (.ref 89), some (.int x354), some (.int x355)]) (st' := [.ref 89]) (h' := (HM P c365 T)) (cs' := 0) (sl' := 0) rfl ?_
          obtain ⟨c369, hq, h⟩ := ai_bdE h
          refine ev_call (M' := mm_room) (L' := [some (.ref 89)]) (rest := []) (rv := some (.int c369.1)) (h' := (HM P c369.2 T)) rfl (Em_room_89 c365 _ _ hq P T) ?_
          show ai_ev D1 mm_of 57 [some (.ref 89), some (.int x354), some (.int x355)] [.int c369.1] (HM P c369.2 T) 0 0 _
          obtain ⟨rfl, rfl⟩ := ai_smP h
          exact ev_end rfl
set_option maxHeartbeats 40000000 in
set_option maxRecDepth 100000 in
theorem Em_isCell_89 (x380 : Int32) (w : WM) (r : Int32) (w' : WM) (h : Fm_isCell_89 x380 w = some (r, w')) (P : Nat → ai_E) (T : ai_H) : ai_ev D1 mm_isCell 0 [some (.ref 89), some (.int x380)] [] (HM P w T) 0 0 (some (.int r), HM P w' T) := by
  unfold Fm_isCell_89 at h
  refine ev_go 3 (pc' := 3) (L' := [some (.ref 89), some (.int x380)]) (st' := [.int x380, .int 0, .ref 89]) (h' := (HM P w T)) (cs' := 0) (sl' := 0) rfl ?_
  obtain ⟨c381, hq, h⟩ := ai_bdE h
  refine ev_call (M' := mm_isCellOf) (L' := [some (.ref 89), some (.int 0), some (.int x380)]) (rest := []) (rv := some (.int c381.1)) (h' := (HM P c381.2 T)) rfl (Em_isCellOf_89 0 x380 w _ _ hq P T) ?_
  show ai_ev D1 mm_isCell 6 [some (.ref 89), some (.int x380)] [.int c381.1] (HM P c381.2 T) 0 0 _
  obtain ⟨hv, h⟩ := ai_ifS h
  obtain ⟨rfl, rfl⟩ := ai_smP h
  exact ev_zend rfl rfl rfl hv
set_option maxHeartbeats 40000000 in
set_option maxRecDepth 100000 in
theorem Em_thickIn_89 (x385 : Int32) (x386 : Int32) (x387 : Int32) (w : WM) (r : Int32) (w' : WM) (h : Fm_thickIn_89 x385 x386 x387 w = some (r, w')) (P : Nat → ai_E) (T : ai_H) : ai_ev D1 mm_thickIn 0 [some (.ref 89), some (.int x385), some (.int x386), some (.int x387), none] [] (HM P w T) 0 0 (some (.int r), HM P w' T) := by
  unfold Fm_thickIn_89 at h
  refine ev_go 9 (pc' := 13) (L' := [some (.ref 89), some (.int x385), some (.int x386), some (.int x387), none]) (st' := [.int ((40 + (6 * x385)) + x386), .ref 90]) (h' := (HM P w T)) (cs' := 0) (sl' := 0) rfl ?_
  obtain ⟨v388, hq, h⟩ := ai_bdE h
  refine ev_iald rfl rfl hq ?_
  refine ev_go 11 (pc' := 30) (L' := [some (.ref 89), some (.int x385), some (.int x386), some (.int x387), none]) (st' := [.int ((16 + (6 * x385)) + (x387 - x387 / 6 * 6)), .ref 90, .int v388]) (h' := (HM P w T)) (cs' := 0) (sl' := 0) rfl ?_
  obtain ⟨v389, hq, h⟩ := ai_bdE h
  refine ev_iald rfl rfl hq ?_
  refine ev_go 3 (pc' := 36) (L' := [some (.ref 89), some (.int x385), some (.int x386), some (.int x387), some (.int (v388 + v389))]) (st' := [.int (v388 + v389)]) (h' := (HM P w T)) (cs' := 0) (sl' := 0) rfl ?_
  rcases ai_ifE h with ⟨hc, h⟩ | ⟨hc, h⟩
  · refine ev_if_ge (t := 43) rfl rfl (fun _ => ?_) (fun c9 => absurd hc c9)
    refine ev_go 1 (pc' := 45) (L' := [some (.ref 89), some (.int x385), some (.int x386), some (.int x387), some (.int (v388 + v389))]) (st' := [.int (v388 + v389)]) (h' := (HM P w T)) (cs' := 0) (sl' := 0) rfl ?_
    obtain ⟨rfl, rfl⟩ := ai_smP h
    exact ev_end rfl
  · refine ev_if_ge (t := 43) rfl rfl (fun c9 => absurd c9 hc) (fun _ => ?_)
    refine ev_go 2 (pc' := 45) (L' := [some (.ref 89), some (.int x385), some (.int x386), some (.int x387), some (.int (v388 + v389))]) (st' := [.int 0]) (h' := (HM P w T)) (cs' := 0) (sl' := 0) rfl ?_
    obtain ⟨rfl, rfl⟩ := ai_smP h
    exact ev_end rfl
set_option maxHeartbeats 40000000 in
set_option maxRecDepth 100000 in
theorem Em_deep_89 (x376 : Int32) (x377 : Int32) (w : WM) (r : Int32) (w' : WM) (h : Fm_deep_89 x376 x377 w = some (r, w')) (P : Nat → ai_E) (T : ai_H) : ai_ev D1 mm_deep 0 [some (.ref 89), some (.int x376), some (.int x377)] [] (HM P w T) 0 0 (some (.int r), HM P w' T) := by
  unfold Fm_deep_89 at h
  refine ev_go 1 (pc' := 1) (L' := [some (.ref 89), some (.int x376), some (.int x377)]) (st' := [.int x376]) (h' := (HM P w T)) (cs' := 0) (sl' := 0) rfl ?_
  obtain ⟨c378, hq, h⟩ := ai_bdE h
  refine ev_call (M' := mm_isLayer) (L' := [some (.int x376)]) (rest := []) (rv := some (.int c378)) (h' := (HM P w T)) rfl (Em_isLayer x376 _ hq (HM P w T)) ?_
  show ai_ev D1 mm_deep 4 [some (.ref 89), some (.int x376), some (.int x377)] [.int c378] (HM P w T) 0 0 _
  rcases ai_ifE h with ⟨hc, h⟩ | ⟨hc, h⟩
  · refine ev_if_eq (t := 30) rfl rfl (fun _ => ?_) (fun c9 => absurd hc c9)
    refine ev_go 1 (pc' := 31) (L' := [some (.ref 89), some (.int x376), some (.int x377)]) (st' := [.ref 89]) (h' := (HM P w T)) (cs' := 0) (sl' := 0) rfl ?_
    obtain ⟨c379, hq, h⟩ := ai_bdE h
    refine ev_call (M' := mm_bad) (L' := [some (.ref 89)]) (rest := []) (rv := some (.int c379.1)) (h' := (HM P c379.2 T)) rfl (Em_bad_89 w _ _ hq P T) ?_
    show ai_ev D1 mm_deep 34 [some (.ref 89), some (.int x376), some (.int x377)] [.int c379.1] (HM P c379.2 T) 0 0 _
    obtain ⟨rfl, rfl⟩ := ai_smP h
    exact ev_end rfl
  · refine ev_if_eq (t := 30) rfl rfl (fun c9 => absurd c9 hc) (fun _ => ?_)
    refine ev_go 2 (pc' := 9) (L' := [some (.ref 89), some (.int x376), some (.int x377)]) (st' := [.int x377, .ref 89]) (h' := (HM P w T)) (cs' := 0) (sl' := 0) rfl ?_
    obtain ⟨c382, hq, h⟩ := ai_bdE h
    refine ev_call (M' := mm_isCell) (L' := [some (.ref 89), some (.int x377)]) (rest := []) (rv := some (.int c382.1)) (h' := (HM P c382.2 T)) rfl (Em_isCell_89 x377 w _ _ hq P T) ?_
    show ai_ev D1 mm_deep 12 [some (.ref 89), some (.int x376), some (.int x377)] [.int c382.1] (HM P c382.2 T) 0 0 _
    rcases ai_ifE h with ⟨hc, h⟩ | ⟨hc, h⟩
    · refine ev_if_eq (t := 30) rfl rfl (fun _ => ?_) (fun c9 => absurd hc c9)
      refine ev_go 1 (pc' := 31) (L' := [some (.ref 89), some (.int x376), some (.int x377)]) (st' := [.ref 89]) (h' := (HM P c382.2 T)) (cs' := 0) (sl' := 0) rfl ?_
      obtain ⟨c383, hq, h⟩ := ai_bdE h
      refine ev_call (M' := mm_bad) (L' := [some (.ref 89)]) (rest := []) (rv := some (.int c383.1)) (h' := (HM P c383.2 T)) rfl (Em_bad_89 c382.2 _ _ hq P T) ?_
      show ai_ev D1 mm_deep 34 [some (.ref 89), some (.int x376), some (.int x377)] [.int c383.1] (HM P c383.2 T) 0 0 _
      obtain ⟨rfl, rfl⟩ := ai_smP h
      exact ev_end rfl
    · refine ev_if_eq (t := 30) rfl rfl (fun c9 => absurd c9 hc) (fun _ => ?_)
      refine ev_go 6 (pc' := 23) (L' := [some (.ref 89), some (.int x376), some (.int x377)]) (st' := [.int 1, .ref 90, .int x377, .int x376, .ref 89]) (h' := (HM P c382.2 T)) (cs' := 0) (sl' := 0) rfl ?_
      obtain ⟨v384, hq, h⟩ := ai_bdE h
      refine ev_iald rfl rfl hq ?_
      obtain ⟨c390, hq, h⟩ := ai_bdE h
      refine ev_call (M' := mm_thickIn) (L' := [some (.ref 89), some (.int x376), some (.int x377), some (.int v384), none]) (rest := []) (rv := some (.int c390.1)) (h' := (HM P c390.2 T)) rfl (Em_thickIn_89 x376 x377 v384 c382.2 _ _ hq P T) ?_
      show ai_ev D1 mm_deep 27 [some (.ref 89), some (.int x376), some (.int x377)] [.int c390.1] (HM P c390.2 T) 0 0 _
      refine ev_go 1 (pc' := 34) (L' := [some (.ref 89), some (.int x376), some (.int x377)]) (st' := [.int c390.1]) (h' := (HM P c390.2 T)) (cs' := 0) (sl' := 0) rfl ?_
      obtain ⟨rfl, rfl⟩ := ai_smP h
      exact ev_end rfl
set_option maxHeartbeats 40000000 in
set_option maxRecDepth 100000 in
theorem Em_breaks_89 (x425 : Int32) (w : WM) (r : Int32) (w' : WM) (h : Fm_breaks_89 x425 w = some (r, w')) (P : Nat → ai_E) (T : ai_H) : ai_ev D1 mm_breaks 0 [some (.ref 89), some (.int x425), none] [] (HM P w T) 0 0 (some (.int r), HM P w' T) := by
  unfold Fm_breaks_89 at h
  refine ev_go 3 (pc' := 5) (L' := [some (.ref 89), some (.int x425), none]) (st' := [.int x425, .int (a_m_torn w)]) (h' := (HM P w T)) (cs' := 0) (sl' := 0) rfl ?_
  obtain ⟨c426, hq, h⟩ := ai_bdE h
  refine ev_call (M' := mm_has) (L' := [some (.int (a_m_torn w)), some (.int x425)]) (rest := []) (rv := some (.int c426)) (h' := (HM P w T)) rfl (Em_has (a_m_torn w) x425 _ hq (HM P w T)) ?_
  show ai_ev D1 mm_breaks 8 [some (.ref 89), some (.int x425), none] [.int c426] (HM P w T) 0 0 _
  rcases ai_ifE h with ⟨hc, h⟩ | ⟨hc, h⟩
  · refine ev_if_eq (t := 13) rfl rfl (fun _ => ?_) (fun c9 => absurd hc c9)
    refine ev_go 5 (pc' := 21) (L' := [some (.ref 89), some (.int x425), none]) (st' := [.int (64 + x425), .ref 90]) (h' := (HM P w T)) (cs' := 0) (sl' := 0) rfl ?_
    obtain ⟨v427, hq, h⟩ := ai_bdE h
    refine ev_iald rfl rfl hq ?_
    refine ev_go 4 (pc' := 28) (L' := [some (.ref 89), some (.int x425), some (.int v427)]) (st' := [.int 3, .int (a_m_kind w)]) (h' := (HM P w T)) (cs' := 0) (sl' := 0) rfl ?_
    rcases ai_ifE h with ⟨hc, h⟩ | ⟨hc, h⟩
    · refine ev_ic_eq (t := 64) rfl rfl (fun _ => ?_) (fun c9 => absurd hc c9)
      refine ev_go 2 (pc' := 69) (L' := [some (.ref 89), some (.int x425), some (.int v427)]) (st' := [.int 1]) (h' := (HM P w T)) (cs' := 0) (sl' := 0) rfl ?_
      obtain ⟨rfl, rfl⟩ := ai_smP h
      exact ev_end rfl
    · refine ev_ic_eq (t := 64) rfl rfl (fun c9 => absurd c9 hc) (fun _ => ?_)
      refine ev_go 3 (pc' := 36) (L' := [some (.ref 89), some (.int x425), some (.int v427)]) (st' := [.int 5, .int (a_m_kind w)]) (h' := (HM P w T)) (cs' := 0) (sl' := 0) rfl ?_
      rcases ai_ifE h with ⟨hc, h⟩ | ⟨hc, h⟩
      · refine ev_ic_eq (t := 68) rfl rfl (fun _ => ?_) (fun c9 => absurd hc c9)
        refine ev_go 1 (pc' := 69) (L' := [some (.ref 89), some (.int x425), some (.int v427)]) (st' := [.int 0]) (h' := (HM P w T)) (cs' := 0) (sl' := 0) rfl ?_
        obtain ⟨rfl, rfl⟩ := ai_smP h
        exact ev_end rfl
      · refine ev_ic_eq (t := 68) rfl rfl (fun c9 => absurd c9 hc) (fun _ => ?_)
        refine ev_go 4 (pc' := 45) (L' := [some (.ref 89), some (.int x425), some (.int v427)]) (st' := [.int 2, .int (a_m_kind w), .int v427]) (h' := (HM P w T)) (cs' := 0) (sl' := 0) rfl ?_
        rcases ai_ifE h with ⟨hc, h⟩ | ⟨hc, h⟩
        · refine ev_ic_ne (t := 57) rfl rfl (fun c9 => absurd hc c9) (fun _ => ?_)
          refine ev_go 1 (pc' := 49) (L' := [some (.ref 89), some (.int x425), some (.int v427)]) (st' := [.ref 89, .int v427]) (h' := (HM P w T)) (cs' := 0) (sl' := 0) rfl ?_
          obtain ⟨c429, hq, h⟩ := ai_bdE h
          refine ev_call (M' := mm_weighs) (L' := [some (.ref 89), none]) (rest := [.int v427]) (rv := some (.int c429.1)) (h' := (HM P c429.2 T)) rfl (Em_weighs_89 w _ _ hq P T) ?_
          show ai_ev D1 mm_breaks 52 [some (.ref 89), some (.int x425), some (.int v427)] [.int c429.1, .int v427] (HM P c429.2 T) 0 0 _
          refine ev_go 3 (pc' := 61) (L' := [some (.ref 89), some (.int x425), some (.int v427)]) (st' := [.int (c429.1 / 2), .int v427]) (h' := (HM P c429.2 T)) (cs' := 0) (sl' := 0) rfl ?_
          rcases ai_ifE h with ⟨hc, h⟩ | ⟨hc, h⟩
          · refine ev_ic_ge (t := 68) rfl rfl (fun _ => ?_) (fun c9 => absurd hc c9)
            refine ev_go 1 (pc' := 69) (L' := [some (.ref 89), some (.int x425), some (.int v427)]) (st' := [.int 0]) (h' := (HM P c429.2 T)) (cs' := 0) (sl' := 0) rfl ?_
            obtain ⟨rfl, rfl⟩ := ai_smP h
            exact ev_end rfl
          · refine ev_ic_ge (t := 68) rfl rfl (fun c9 => absurd c9 hc) (fun _ => ?_)
            refine ev_go 2 (pc' := 69) (L' := [some (.ref 89), some (.int x425), some (.int v427)]) (st' := [.int 1]) (h' := (HM P c429.2 T)) (cs' := 0) (sl' := 0) rfl ?_
            obtain ⟨rfl, rfl⟩ := ai_smP h
            exact ev_end rfl
        · refine ev_ic_ne (t := 57) rfl rfl (fun _ => ?_) (fun c9 => absurd c9 hc)
          refine ev_go 1 (pc' := 58) (L' := [some (.ref 89), some (.int x425), some (.int v427)]) (st' := [.ref 89, .int v427]) (h' := (HM P w T)) (cs' := 0) (sl' := 0) rfl ?_
          obtain ⟨c428, hq, h⟩ := ai_bdE h
          refine ev_call (M' := mm_weighs) (L' := [some (.ref 89), none]) (rest := [.int v427]) (rv := some (.int c428.1)) (h' := (HM P c428.2 T)) rfl (Em_weighs_89 w _ _ hq P T) ?_
          show ai_ev D1 mm_breaks 61 [some (.ref 89), some (.int x425), some (.int v427)] [.int c428.1, .int v427] (HM P c428.2 T) 0 0 _
          rcases ai_ifE h with ⟨hc, h⟩ | ⟨hc, h⟩
          · refine ev_ic_ge (t := 68) rfl rfl (fun _ => ?_) (fun c9 => absurd hc c9)
            refine ev_go 1 (pc' := 69) (L' := [some (.ref 89), some (.int x425), some (.int v427)]) (st' := [.int 0]) (h' := (HM P c428.2 T)) (cs' := 0) (sl' := 0) rfl ?_
            obtain ⟨rfl, rfl⟩ := ai_smP h
            exact ev_end rfl
          · refine ev_ic_ge (t := 68) rfl rfl (fun c9 => absurd c9 hc) (fun _ => ?_)
            refine ev_go 2 (pc' := 69) (L' := [some (.ref 89), some (.int x425), some (.int v427)]) (st' := [.int 1]) (h' := (HM P c428.2 T)) (cs' := 0) (sl' := 0) rfl ?_
            obtain ⟨rfl, rfl⟩ := ai_smP h
            exact ev_end rfl
  · refine ev_if_eq (t := 13) rfl rfl (fun c9 => absurd c9 hc) (fun _ => ?_)
    refine ev_go 1 (pc' := 12) (L' := [some (.ref 89), some (.int x425), none]) (st' := [.int 1]) (h' := (HM P w T)) (cs' := 0) (sl' := 0) rfl ?_
    obtain ⟨rfl, rfl⟩ := ai_smP h
    exact ev_end rfl
set_option maxHeartbeats 40000000 in
set_option maxRecDepth 100000 in
theorem EGm_comesDown_89 : ∀ n : Nat, (∀ (y401 : Int32) (y402 : Int32) (y403 : Int32) (w : WM) (w' : WM), Gm_comesDown_89 n 0 y401 y402 y403 w = some w' → ∀ (P : Nat → ai_E) (T : ai_H) (o4 : Option Value), ai_ev D1 mm_comesDown 29 [some (.ref 89), some (.int y401), some (.int y402), some (.int y403), o4] [] (HM P w T) 0 0 (none, HM P w' T)) := by
  intro n
  induction n with
  | zero =>
    exact (fun _ _ _ _ _ h => by cases h)
  | succ n ih0 =>
    intro y401 y402 y403 w w' h P T o4
    simp only [Gm_comesDown_89] at h
    refine ev_go 2 (pc' := 31) (L' := [some (.ref 89), some (.int y401), some (.int y402), some (.int y403), o4]) (st' := [.int 4, .int y403]) (h' := (HM P w T)) (cs' := 0) (sl' := 0) rfl ?_
    rcases ai_ifE h with ⟨hc, h⟩ | ⟨hc, h⟩
    · refine ev_ic_ge (t := 198) rfl rfl (fun _ => ?_) (fun c9 => absurd hc c9)
      obtain rfl := Option.some.inj h
      exact ev_end rfl
    · refine ev_ic_ge (t := 198) rfl rfl (fun c9 => absurd c9 hc) (fun _ => ?_)
      refine ev_go 3 (pc' := 39) (L' := [some (.ref 89), some (.int y401), some (.int y402), some (.int y403), o4]) (st' := [.int 4, .int (a_m_restsIn w)]) (h' := (HM P w T)) (cs' := 0) (sl' := 0) rfl ?_
      rcases ai_ifE h with ⟨hc, h⟩ | ⟨hc, h⟩
      · refine ev_ic_ne (t := 198) rfl rfl (fun c9 => absurd hc c9) (fun _ => ?_)
        refine ev_go 3 (pc' := 47) (L' := [some (.ref 89), some (.int y401), some (.int y402), some (.int y403), o4]) (st' := [.int (-1), .int (a_m_stops w)]) (h' := (HM P w T)) (cs' := 0) (sl' := 0) rfl ?_
        rcases ai_ifE h with ⟨hc, h⟩ | ⟨hc, h⟩
        · refine ev_ic_ne (t := 198) rfl rfl (fun c9 => absurd hc c9) (fun _ => ?_)
          refine ev_go 5 (pc' := 57) (L' := [some (.ref 89), some (.int y401), some (.int y402), some (.int y403), o4]) (st' := [.int (a_m_hour w), .int y401, .int y403, .ref 89]) (h' := (HM P w T)) (cs' := 0) (sl' := 0) rfl ?_
          obtain ⟨c404, hq, h⟩ := ai_bdE h
          refine ev_call (M' := mm_thickIn) (L' := [some (.ref 89), some (.int y403), some (.int y401), some (.int (a_m_hour w)), none]) (rest := []) (rv := some (.int c404.1)) (h' := (HM P c404.2 T)) rfl (Em_thickIn_89 y403 y401 (a_m_hour w) w _ _ hq P T) ?_
          show ai_ev D1 mm_comesDown 60 [some (.ref 89), some (.int y401), some (.int y402), some (.int y403), o4] [.int c404.1] (HM P c404.2 T) 0 0 _
          refine ev_go 2 (pc' := 64) (L' := [some (.ref 89), some (.int y401), some (.int y402), some (.int y403), some (.int c404.1)]) (st' := [.int c404.1]) (h' := (HM P c404.2 T)) (cs' := 0) (sl' := 0) rfl ?_
          rcases ai_ifE h with ⟨hc, h⟩ | ⟨hc, h⟩
          · refine ev_if_le (t := 97) rfl rfl (fun _ => ?_) (fun c9 => absurd hc c9)
            refine ev_go 1 (pc' := 99) (L' := [some (.ref 89), some (.int y401), some (.int y402), some (.int y403), some (.int c404.1)]) (st' := [.int c404.1]) (h' := (HM P c404.2 T)) (cs' := 0) (sl' := 0) rfl ?_
            rcases ai_ifE h with ⟨hc, h⟩ | ⟨hc, h⟩
            · refine ev_if_le (t := 192) rfl rfl (fun _ => ?_) (fun c9 => absurd hc c9)
              refine ev_go 2 (pc' := 29) (L' := [some (.ref 89), some (.int y401), some (.int y402), some (.int (y403 + 1)), some (.int c404.1)]) (st' := []) (h' := (HM P c404.2 T)) (cs' := 0) (sl' := 0) rfl ?_
              exact ih0 _ _ _ _ _ h P T _
            · refine ev_if_le (t := 192) rfl rfl (fun c9 => absurd c9 hc) (fun _ => ?_)
              refine ev_go 5 (pc' := 109) (L' := [some (.ref 89), some (.int y401), some (.int y402), some (.int y403), some (.int c404.1)]) (st' := [.int (-1), .int y402, .int (a_m_broken c404.2), .ref 89]) (h' := (HM P c404.2 T)) (cs' := 0) (sl' := 0) rfl ?_
              rcases ai_ifE h with ⟨hc, h⟩ | ⟨hc, h⟩
              · refine ev_ic_eq (t := 125) rfl rfl (fun _ => ?_) (fun c9 => absurd hc c9)
                refine ev_go 5 (pc' := 139) (L' := [some (.ref 89), some (.int y401), some (.int y402), some (.int y403), some (.int c404.1)]) (st' := [.ref 89]) (h' := (HM P (u_m_broken c404.2 ((a_m_broken c404.2) ||| 0)) T)) (cs' := 0) (sl' := 0) rfl ?_
                obtain ⟨c405, hq, h⟩ := ai_bdE h
                refine ev_call (M' := mm_weighs) (L' := [some (.ref 89), none]) (rest := []) (rv := some (.int c405.1)) (h' := (HM P c405.2 T)) rfl (Em_weighs_89 (u_m_broken c404.2 ((a_m_broken c404.2) ||| 0)) _ _ hq P T) ?_
                show ai_ev D1 mm_comesDown 142 [some (.ref 89), some (.int y401), some (.int y402), some (.int y403), some (.int c404.1)] [.int c405.1] (HM P c405.2 T) 0 0 _
                refine ev_go 1 (pc' := 143) (L' := [some (.ref 89), some (.int y401), some (.int y402), some (.int y403), some (.int c404.1)]) (st' := [.ref 89, .int c405.1]) (h' := (HM P c405.2 T)) (cs' := 0) (sl' := 0) rfl ?_
                obtain ⟨c406, hq, h⟩ := ai_bdE h
                refine ev_call (M' := mm_room) (L' := [some (.ref 89)]) (rest := [.int c405.1]) (rv := some (.int c406.1)) (h' := (HM P c406.2 T)) rfl (Em_room_89 c405.2 _ _ hq P T) ?_
                show ai_ev D1 mm_comesDown 146 [some (.ref 89), some (.int y401), some (.int y402), some (.int y403), some (.int c404.1)] [.int c406.1, .int c405.1] (HM P c406.2 T) 0 0 _
                refine ev_go 5 (pc' := 154) (L' := [some (.ref 89), some (.int y401), some (.int y402), some (.int y403), some (.int c404.1)]) (st' := [.int (8 + y403), .ref 90, .int c406.1, .int c405.1]) (h' := (HM P c406.2 T)) (cs' := 0) (sl' := 0) rfl ?_
                obtain ⟨v407, hq, h⟩ := ai_bdE h
                refine ev_iald rfl rfl hq ?_
                refine ev_go 1 (pc' := 156) (L' := [some (.ref 89), some (.int y401), some (.int y402), some (.int y403), some (.int c404.1)]) (st' := [.int (c406.1 * v407), .int c405.1]) (h' := (HM P c406.2 T)) (cs' := 0) (sl' := 0) rfl ?_
                rcases ai_ifE h with ⟨hc, h⟩ | ⟨hc, h⟩
                · refine ev_ic_gt (t := 167) rfl rfl (fun _ => ?_) (fun c9 => absurd hc c9)
                  refine ev_go 18 (pc' := 29) (L' := [some (.ref 89), some (.int y401), some (.int y403), some (.int (y403 + 1)), some (.int c404.1)]) (st' := []) (h' := (HM P (u_m_down (u_m_passes c406.2 ((a_m_passes c406.2) ||| (1 <<< (y403 &&& 31)))) ((a_m_down c406.2) + c404.1)) T)) (cs' := 0) (sl' := 0) rfl ?_
                  exact ih0 _ _ _ _ _ h P T _
                · refine ev_ic_gt (t := 167) rfl rfl (fun c9 => absurd c9 hc) (fun _ => ?_)
                  refine ev_go 6 (pc' := 29) (L' := [some (.ref 89), some (.int y401), some (.int y402), some (.int (y403 + 1)), some (.int c404.1)]) (st' := []) (h' := (HM P (u_m_restsIn c406.2 y403) T)) (cs' := 0) (sl' := 0) rfl ?_
                  exact ih0 _ _ _ _ _ h P T _
              · refine ev_ic_eq (t := 125) rfl rfl (fun c9 => absurd c9 hc) (fun _ => ?_)
                refine ev_go 5 (pc' := 119) (L' := [some (.ref 89), some (.int y401), some (.int y402), some (.int y403), some (.int c404.1)]) (st' := [.int (y403 - 1), .int (a_m_torn c404.2), .int (a_m_broken c404.2), .ref 89]) (h' := (HM P c404.2 T)) (cs' := 0) (sl' := 0) rfl ?_
                obtain ⟨c408, hq, h⟩ := ai_bdE h
                refine ev_call (M' := mm_has) (L' := [some (.int (a_m_torn c404.2)), some (.int (y403 - 1))]) (rest := [.int (a_m_broken c404.2), .ref 89]) (rv := some (.int c408)) (h' := (HM P c404.2 T)) rfl (Em_has (a_m_torn c404.2) (y403 - 1) _ hq (HM P c404.2 T)) ?_
                show ai_ev D1 mm_comesDown 122 [some (.ref 89), some (.int y401), some (.int y402), some (.int y403), some (.int c404.1)] [.int c408, .int (a_m_broken c404.2), .ref 89] (HM P c404.2 T) 0 0 _
                rcases ai_ifE h with ⟨hc, h⟩ | ⟨hc, h⟩
                · refine ev_if_eq (t := 129) rfl rfl (fun _ => ?_) (fun c9 => absurd hc c9)
                  refine ev_go 8 (pc' := 139) (L' := [some (.ref 89), some (.int y401), some (.int y402), some (.int y403), some (.int c404.1)]) (st' := [.ref 89]) (h' := (HM P (u_m_broken c404.2 ((a_m_broken c404.2) ||| (1 <<< ((y403 - 1) &&& 31)))) T)) (cs' := 0) (sl' := 0) rfl ?_
                  obtain ⟨c409, hq, h⟩ := ai_bdE h
                  refine ev_call (M' := mm_weighs) (L' := [some (.ref 89), none]) (rest := []) (rv := some (.int c409.1)) (h' := (HM P c409.2 T)) rfl (Em_weighs_89 (u_m_broken c404.2 ((a_m_broken c404.2) ||| (1 <<< ((y403 - 1) &&& 31)))) _ _ hq P T) ?_
                  show ai_ev D1 mm_comesDown 142 [some (.ref 89), some (.int y401), some (.int y402), some (.int y403), some (.int c404.1)] [.int c409.1] (HM P c409.2 T) 0 0 _
                  refine ev_go 1 (pc' := 143) (L' := [some (.ref 89), some (.int y401), some (.int y402), some (.int y403), some (.int c404.1)]) (st' := [.ref 89, .int c409.1]) (h' := (HM P c409.2 T)) (cs' := 0) (sl' := 0) rfl ?_
                  obtain ⟨c410, hq, h⟩ := ai_bdE h
                  refine ev_call (M' := mm_room) (L' := [some (.ref 89)]) (rest := [.int c409.1]) (rv := some (.int c410.1)) (h' := (HM P c410.2 T)) rfl (Em_room_89 c409.2 _ _ hq P T) ?_
                  show ai_ev D1 mm_comesDown 146 [some (.ref 89), some (.int y401), some (.int y402), some (.int y403), some (.int c404.1)] [.int c410.1, .int c409.1] (HM P c410.2 T) 0 0 _
                  refine ev_go 5 (pc' := 154) (L' := [some (.ref 89), some (.int y401), some (.int y402), some (.int y403), some (.int c404.1)]) (st' := [.int (8 + y403), .ref 90, .int c410.1, .int c409.1]) (h' := (HM P c410.2 T)) (cs' := 0) (sl' := 0) rfl ?_
                  obtain ⟨v411, hq, h⟩ := ai_bdE h
                  refine ev_iald rfl rfl hq ?_
                  refine ev_go 1 (pc' := 156) (L' := [some (.ref 89), some (.int y401), some (.int y402), some (.int y403), some (.int c404.1)]) (st' := [.int (c410.1 * v411), .int c409.1]) (h' := (HM P c410.2 T)) (cs' := 0) (sl' := 0) rfl ?_
                  rcases ai_ifE h with ⟨hc, h⟩ | ⟨hc, h⟩
                  · refine ev_ic_gt (t := 167) rfl rfl (fun _ => ?_) (fun c9 => absurd hc c9)
                    refine ev_go 18 (pc' := 29) (L' := [some (.ref 89), some (.int y401), some (.int y403), some (.int (y403 + 1)), some (.int c404.1)]) (st' := []) (h' := (HM P (u_m_down (u_m_passes c410.2 ((a_m_passes c410.2) ||| (1 <<< (y403 &&& 31)))) ((a_m_down c410.2) + c404.1)) T)) (cs' := 0) (sl' := 0) rfl ?_
                    exact ih0 _ _ _ _ _ h P T _
                  · refine ev_ic_gt (t := 167) rfl rfl (fun c9 => absurd c9 hc) (fun _ => ?_)
                    refine ev_go 6 (pc' := 29) (L' := [some (.ref 89), some (.int y401), some (.int y402), some (.int (y403 + 1)), some (.int c404.1)]) (st' := []) (h' := (HM P (u_m_restsIn c410.2 y403) T)) (cs' := 0) (sl' := 0) rfl ?_
                    exact ih0 _ _ _ _ _ h P T _
                · refine ev_if_eq (t := 129) rfl rfl (fun c9 => absurd c9 hc) (fun _ => ?_)
                  refine ev_go 5 (pc' := 139) (L' := [some (.ref 89), some (.int y401), some (.int y402), some (.int y403), some (.int c404.1)]) (st' := [.ref 89]) (h' := (HM P (u_m_broken c404.2 ((a_m_broken c404.2) ||| 0)) T)) (cs' := 0) (sl' := 0) rfl ?_
                  obtain ⟨c412, hq, h⟩ := ai_bdE h
                  refine ev_call (M' := mm_weighs) (L' := [some (.ref 89), none]) (rest := []) (rv := some (.int c412.1)) (h' := (HM P c412.2 T)) rfl (Em_weighs_89 (u_m_broken c404.2 ((a_m_broken c404.2) ||| 0)) _ _ hq P T) ?_
                  show ai_ev D1 mm_comesDown 142 [some (.ref 89), some (.int y401), some (.int y402), some (.int y403), some (.int c404.1)] [.int c412.1] (HM P c412.2 T) 0 0 _
                  refine ev_go 1 (pc' := 143) (L' := [some (.ref 89), some (.int y401), some (.int y402), some (.int y403), some (.int c404.1)]) (st' := [.ref 89, .int c412.1]) (h' := (HM P c412.2 T)) (cs' := 0) (sl' := 0) rfl ?_
                  obtain ⟨c413, hq, h⟩ := ai_bdE h
                  refine ev_call (M' := mm_room) (L' := [some (.ref 89)]) (rest := [.int c412.1]) (rv := some (.int c413.1)) (h' := (HM P c413.2 T)) rfl (Em_room_89 c412.2 _ _ hq P T) ?_
                  show ai_ev D1 mm_comesDown 146 [some (.ref 89), some (.int y401), some (.int y402), some (.int y403), some (.int c404.1)] [.int c413.1, .int c412.1] (HM P c413.2 T) 0 0 _
                  refine ev_go 5 (pc' := 154) (L' := [some (.ref 89), some (.int y401), some (.int y402), some (.int y403), some (.int c404.1)]) (st' := [.int (8 + y403), .ref 90, .int c413.1, .int c412.1]) (h' := (HM P c413.2 T)) (cs' := 0) (sl' := 0) rfl ?_
                  obtain ⟨v414, hq, h⟩ := ai_bdE h
                  refine ev_iald rfl rfl hq ?_
                  refine ev_go 1 (pc' := 156) (L' := [some (.ref 89), some (.int y401), some (.int y402), some (.int y403), some (.int c404.1)]) (st' := [.int (c413.1 * v414), .int c412.1]) (h' := (HM P c413.2 T)) (cs' := 0) (sl' := 0) rfl ?_
                  rcases ai_ifE h with ⟨hc, h⟩ | ⟨hc, h⟩
                  · refine ev_ic_gt (t := 167) rfl rfl (fun _ => ?_) (fun c9 => absurd hc c9)
                    refine ev_go 18 (pc' := 29) (L' := [some (.ref 89), some (.int y401), some (.int y403), some (.int (y403 + 1)), some (.int c404.1)]) (st' := []) (h' := (HM P (u_m_down (u_m_passes c413.2 ((a_m_passes c413.2) ||| (1 <<< (y403 &&& 31)))) ((a_m_down c413.2) + c404.1)) T)) (cs' := 0) (sl' := 0) rfl ?_
                    exact ih0 _ _ _ _ _ h P T _
                  · refine ev_ic_gt (t := 167) rfl rfl (fun c9 => absurd c9 hc) (fun _ => ?_)
                    refine ev_go 6 (pc' := 29) (L' := [some (.ref 89), some (.int y401), some (.int y402), some (.int (y403 + 1)), some (.int c404.1)]) (st' := []) (h' := (HM P (u_m_restsIn c413.2 y403) T)) (cs' := 0) (sl' := 0) rfl ?_
                    exact ih0 _ _ _ _ _ h P T _
          · refine ev_if_le (t := 97) rfl rfl (fun c9 => absurd c9 hc) (fun _ => ?_)
            refine ev_go 2 (pc' := 69) (L' := [some (.ref 89), some (.int y401), some (.int y402), some (.int y403), some (.int c404.1)]) (st' := [.int (-1), .int y402]) (h' := (HM P c404.2 T)) (cs' := 0) (sl' := 0) rfl ?_
            rcases ai_ifE h with ⟨hc, h⟩ | ⟨hc, h⟩
            · refine ev_ic_eq (t := 97) rfl rfl (fun _ => ?_) (fun c9 => absurd hc c9)
              refine ev_go 1 (pc' := 99) (L' := [some (.ref 89), some (.int y401), some (.int y402), some (.int y403), some (.int c404.1)]) (st' := [.int c404.1]) (h' := (HM P c404.2 T)) (cs' := 0) (sl' := 0) rfl ?_
              rcases ai_ifE h with ⟨hc, h⟩ | ⟨hc, h⟩
              · refine ev_if_le (t := 192) rfl rfl (fun _ => ?_) (fun c9 => absurd hc c9)
                refine ev_go 2 (pc' := 29) (L' := [some (.ref 89), some (.int y401), some (.int y402), some (.int (y403 + 1)), some (.int c404.1)]) (st' := []) (h' := (HM P c404.2 T)) (cs' := 0) (sl' := 0) rfl ?_
                exact ih0 _ _ _ _ _ h P T _
              · refine ev_if_le (t := 192) rfl rfl (fun c9 => absurd c9 hc) (fun _ => ?_)
                refine ev_go 5 (pc' := 109) (L' := [some (.ref 89), some (.int y401), some (.int y402), some (.int y403), some (.int c404.1)]) (st' := [.int (-1), .int y402, .int (a_m_broken c404.2), .ref 89]) (h' := (HM P c404.2 T)) (cs' := 0) (sl' := 0) rfl ?_
                rcases ai_ifE h with ⟨hc, h⟩ | ⟨hc, h⟩
                · refine ev_ic_eq (t := 125) rfl rfl (fun _ => ?_) (fun c9 => absurd hc c9)
                  refine ev_go 5 (pc' := 139) (L' := [some (.ref 89), some (.int y401), some (.int y402), some (.int y403), some (.int c404.1)]) (st' := [.ref 89]) (h' := (HM P (u_m_broken c404.2 ((a_m_broken c404.2) ||| 0)) T)) (cs' := 0) (sl' := 0) rfl ?_
                  obtain ⟨c415, hq, h⟩ := ai_bdE h
                  refine ev_call (M' := mm_weighs) (L' := [some (.ref 89), none]) (rest := []) (rv := some (.int c415.1)) (h' := (HM P c415.2 T)) rfl (Em_weighs_89 (u_m_broken c404.2 ((a_m_broken c404.2) ||| 0)) _ _ hq P T) ?_
                  show ai_ev D1 mm_comesDown 142 [some (.ref 89), some (.int y401), some (.int y402), some (.int y403), some (.int c404.1)] [.int c415.1] (HM P c415.2 T) 0 0 _
                  refine ev_go 1 (pc' := 143) (L' := [some (.ref 89), some (.int y401), some (.int y402), some (.int y403), some (.int c404.1)]) (st' := [.ref 89, .int c415.1]) (h' := (HM P c415.2 T)) (cs' := 0) (sl' := 0) rfl ?_
                  obtain ⟨c416, hq, h⟩ := ai_bdE h
                  refine ev_call (M' := mm_room) (L' := [some (.ref 89)]) (rest := [.int c415.1]) (rv := some (.int c416.1)) (h' := (HM P c416.2 T)) rfl (Em_room_89 c415.2 _ _ hq P T) ?_
                  show ai_ev D1 mm_comesDown 146 [some (.ref 89), some (.int y401), some (.int y402), some (.int y403), some (.int c404.1)] [.int c416.1, .int c415.1] (HM P c416.2 T) 0 0 _
                  refine ev_go 5 (pc' := 154) (L' := [some (.ref 89), some (.int y401), some (.int y402), some (.int y403), some (.int c404.1)]) (st' := [.int (8 + y403), .ref 90, .int c416.1, .int c415.1]) (h' := (HM P c416.2 T)) (cs' := 0) (sl' := 0) rfl ?_
                  obtain ⟨v417, hq, h⟩ := ai_bdE h
                  refine ev_iald rfl rfl hq ?_
                  refine ev_go 1 (pc' := 156) (L' := [some (.ref 89), some (.int y401), some (.int y402), some (.int y403), some (.int c404.1)]) (st' := [.int (c416.1 * v417), .int c415.1]) (h' := (HM P c416.2 T)) (cs' := 0) (sl' := 0) rfl ?_
                  rcases ai_ifE h with ⟨hc, h⟩ | ⟨hc, h⟩
                  · refine ev_ic_gt (t := 167) rfl rfl (fun _ => ?_) (fun c9 => absurd hc c9)
                    refine ev_go 18 (pc' := 29) (L' := [some (.ref 89), some (.int y401), some (.int y403), some (.int (y403 + 1)), some (.int c404.1)]) (st' := []) (h' := (HM P (u_m_down (u_m_passes c416.2 ((a_m_passes c416.2) ||| (1 <<< (y403 &&& 31)))) ((a_m_down c416.2) + c404.1)) T)) (cs' := 0) (sl' := 0) rfl ?_
                    exact ih0 _ _ _ _ _ h P T _
                  · refine ev_ic_gt (t := 167) rfl rfl (fun c9 => absurd c9 hc) (fun _ => ?_)
                    refine ev_go 6 (pc' := 29) (L' := [some (.ref 89), some (.int y401), some (.int y402), some (.int (y403 + 1)), some (.int c404.1)]) (st' := []) (h' := (HM P (u_m_restsIn c416.2 y403) T)) (cs' := 0) (sl' := 0) rfl ?_
                    exact ih0 _ _ _ _ _ h P T _
                · refine ev_ic_eq (t := 125) rfl rfl (fun c9 => absurd c9 hc) (fun _ => ?_)
                  refine ev_go 5 (pc' := 119) (L' := [some (.ref 89), some (.int y401), some (.int y402), some (.int y403), some (.int c404.1)]) (st' := [.int (y403 - 1), .int (a_m_torn c404.2), .int (a_m_broken c404.2), .ref 89]) (h' := (HM P c404.2 T)) (cs' := 0) (sl' := 0) rfl ?_
                  obtain ⟨c418, hq, h⟩ := ai_bdE h
                  refine ev_call (M' := mm_has) (L' := [some (.int (a_m_torn c404.2)), some (.int (y403 - 1))]) (rest := [.int (a_m_broken c404.2), .ref 89]) (rv := some (.int c418)) (h' := (HM P c404.2 T)) rfl (Em_has (a_m_torn c404.2) (y403 - 1) _ hq (HM P c404.2 T)) ?_
                  show ai_ev D1 mm_comesDown 122 [some (.ref 89), some (.int y401), some (.int y402), some (.int y403), some (.int c404.1)] [.int c418, .int (a_m_broken c404.2), .ref 89] (HM P c404.2 T) 0 0 _
                  rcases ai_ifE h with ⟨hc, h⟩ | ⟨hc, h⟩
                  · refine ev_if_eq (t := 129) rfl rfl (fun _ => ?_) (fun c9 => absurd hc c9)
                    refine ev_go 8 (pc' := 139) (L' := [some (.ref 89), some (.int y401), some (.int y402), some (.int y403), some (.int c404.1)]) (st' := [.ref 89]) (h' := (HM P (u_m_broken c404.2 ((a_m_broken c404.2) ||| (1 <<< ((y403 - 1) &&& 31)))) T)) (cs' := 0) (sl' := 0) rfl ?_
                    obtain ⟨c419, hq, h⟩ := ai_bdE h
                    refine ev_call (M' := mm_weighs) (L' := [some (.ref 89), none]) (rest := []) (rv := some (.int c419.1)) (h' := (HM P c419.2 T)) rfl (Em_weighs_89 (u_m_broken c404.2 ((a_m_broken c404.2) ||| (1 <<< ((y403 - 1) &&& 31)))) _ _ hq P T) ?_
                    show ai_ev D1 mm_comesDown 142 [some (.ref 89), some (.int y401), some (.int y402), some (.int y403), some (.int c404.1)] [.int c419.1] (HM P c419.2 T) 0 0 _
                    refine ev_go 1 (pc' := 143) (L' := [some (.ref 89), some (.int y401), some (.int y402), some (.int y403), some (.int c404.1)]) (st' := [.ref 89, .int c419.1]) (h' := (HM P c419.2 T)) (cs' := 0) (sl' := 0) rfl ?_
                    obtain ⟨c420, hq, h⟩ := ai_bdE h
                    refine ev_call (M' := mm_room) (L' := [some (.ref 89)]) (rest := [.int c419.1]) (rv := some (.int c420.1)) (h' := (HM P c420.2 T)) rfl (Em_room_89 c419.2 _ _ hq P T) ?_
                    show ai_ev D1 mm_comesDown 146 [some (.ref 89), some (.int y401), some (.int y402), some (.int y403), some (.int c404.1)] [.int c420.1, .int c419.1] (HM P c420.2 T) 0 0 _
                    refine ev_go 5 (pc' := 154) (L' := [some (.ref 89), some (.int y401), some (.int y402), some (.int y403), some (.int c404.1)]) (st' := [.int (8 + y403), .ref 90, .int c420.1, .int c419.1]) (h' := (HM P c420.2 T)) (cs' := 0) (sl' := 0) rfl ?_
                    obtain ⟨v421, hq, h⟩ := ai_bdE h
                    refine ev_iald rfl rfl hq ?_
                    refine ev_go 1 (pc' := 156) (L' := [some (.ref 89), some (.int y401), some (.int y402), some (.int y403), some (.int c404.1)]) (st' := [.int (c420.1 * v421), .int c419.1]) (h' := (HM P c420.2 T)) (cs' := 0) (sl' := 0) rfl ?_
                    rcases ai_ifE h with ⟨hc, h⟩ | ⟨hc, h⟩
                    · refine ev_ic_gt (t := 167) rfl rfl (fun _ => ?_) (fun c9 => absurd hc c9)
                      refine ev_go 18 (pc' := 29) (L' := [some (.ref 89), some (.int y401), some (.int y403), some (.int (y403 + 1)), some (.int c404.1)]) (st' := []) (h' := (HM P (u_m_down (u_m_passes c420.2 ((a_m_passes c420.2) ||| (1 <<< (y403 &&& 31)))) ((a_m_down c420.2) + c404.1)) T)) (cs' := 0) (sl' := 0) rfl ?_
                      exact ih0 _ _ _ _ _ h P T _
                    · refine ev_ic_gt (t := 167) rfl rfl (fun c9 => absurd c9 hc) (fun _ => ?_)
                      refine ev_go 6 (pc' := 29) (L' := [some (.ref 89), some (.int y401), some (.int y402), some (.int (y403 + 1)), some (.int c404.1)]) (st' := []) (h' := (HM P (u_m_restsIn c420.2 y403) T)) (cs' := 0) (sl' := 0) rfl ?_
                      exact ih0 _ _ _ _ _ h P T _
                  · refine ev_if_eq (t := 129) rfl rfl (fun c9 => absurd c9 hc) (fun _ => ?_)
                    refine ev_go 5 (pc' := 139) (L' := [some (.ref 89), some (.int y401), some (.int y402), some (.int y403), some (.int c404.1)]) (st' := [.ref 89]) (h' := (HM P (u_m_broken c404.2 ((a_m_broken c404.2) ||| 0)) T)) (cs' := 0) (sl' := 0) rfl ?_
                    obtain ⟨c422, hq, h⟩ := ai_bdE h
                    refine ev_call (M' := mm_weighs) (L' := [some (.ref 89), none]) (rest := []) (rv := some (.int c422.1)) (h' := (HM P c422.2 T)) rfl (Em_weighs_89 (u_m_broken c404.2 ((a_m_broken c404.2) ||| 0)) _ _ hq P T) ?_
                    show ai_ev D1 mm_comesDown 142 [some (.ref 89), some (.int y401), some (.int y402), some (.int y403), some (.int c404.1)] [.int c422.1] (HM P c422.2 T) 0 0 _
                    refine ev_go 1 (pc' := 143) (L' := [some (.ref 89), some (.int y401), some (.int y402), some (.int y403), some (.int c404.1)]) (st' := [.ref 89, .int c422.1]) (h' := (HM P c422.2 T)) (cs' := 0) (sl' := 0) rfl ?_
                    obtain ⟨c423, hq, h⟩ := ai_bdE h
                    refine ev_call (M' := mm_room) (L' := [some (.ref 89)]) (rest := [.int c422.1]) (rv := some (.int c423.1)) (h' := (HM P c423.2 T)) rfl (Em_room_89 c422.2 _ _ hq P T) ?_
                    show ai_ev D1 mm_comesDown 146 [some (.ref 89), some (.int y401), some (.int y402), some (.int y403), some (.int c404.1)] [.int c423.1, .int c422.1] (HM P c423.2 T) 0 0 _
                    refine ev_go 5 (pc' := 154) (L' := [some (.ref 89), some (.int y401), some (.int y402), some (.int y403), some (.int c404.1)]) (st' := [.int (8 + y403), .ref 90, .int c423.1, .int c422.1]) (h' := (HM P c423.2 T)) (cs' := 0) (sl' := 0) rfl ?_
                    obtain ⟨v424, hq, h⟩ := ai_bdE h
                    refine ev_iald rfl rfl hq ?_
                    refine ev_go 1 (pc' := 156) (L' := [some (.ref 89), some (.int y401), some (.int y402), some (.int y403), some (.int c404.1)]) (st' := [.int (c423.1 * v424), .int c422.1]) (h' := (HM P c423.2 T)) (cs' := 0) (sl' := 0) rfl ?_
                    rcases ai_ifE h with ⟨hc, h⟩ | ⟨hc, h⟩
                    · refine ev_ic_gt (t := 167) rfl rfl (fun _ => ?_) (fun c9 => absurd hc c9)
                      refine ev_go 18 (pc' := 29) (L' := [some (.ref 89), some (.int y401), some (.int y403), some (.int (y403 + 1)), some (.int c404.1)]) (st' := []) (h' := (HM P (u_m_down (u_m_passes c423.2 ((a_m_passes c423.2) ||| (1 <<< (y403 &&& 31)))) ((a_m_down c423.2) + c404.1)) T)) (cs' := 0) (sl' := 0) rfl ?_
                      exact ih0 _ _ _ _ _ h P T _
                    · refine ev_ic_gt (t := 167) rfl rfl (fun c9 => absurd c9 hc) (fun _ => ?_)
                      refine ev_go 6 (pc' := 29) (L' := [some (.ref 89), some (.int y401), some (.int y402), some (.int (y403 + 1)), some (.int c404.1)]) (st' := []) (h' := (HM P (u_m_restsIn c423.2 y403) T)) (cs' := 0) (sl' := 0) rfl ?_
                      exact ih0 _ _ _ _ _ h P T _
            · refine ev_ic_eq (t := 97) rfl rfl (fun c9 => absurd c9 hc) (fun _ => ?_)
              refine ev_go 4 (pc' := 76) (L' := [some (.ref 89), some (.int y401), some (.int y402), some (.int y403), some (.int c404.1)]) (st' := [.int (y403 - 1), .ref 89]) (h' := (HM P c404.2 T)) (cs' := 0) (sl' := 0) rfl ?_
              obtain ⟨c430, hq, h⟩ := ai_bdE h
              refine ev_call (M' := mm_breaks) (L' := [some (.ref 89), some (.int (y403 - 1)), none]) (rest := []) (rv := some (.int c430.1)) (h' := (HM P c430.2 T)) rfl (Em_breaks_89 (y403 - 1) c404.2 _ _ hq P T) ?_
              show ai_ev D1 mm_comesDown 79 [some (.ref 89), some (.int y401), some (.int y402), some (.int y403), some (.int c404.1)] [.int c430.1] (HM P c430.2 T) 0 0 _
              rcases ai_ifE h with ⟨hc, h⟩ | ⟨hc, h⟩
              · refine ev_if_ne (t := 97) rfl rfl (fun c9 => absurd hc c9) (fun _ => ?_)
                refine ev_go 11 (pc' := 29) (L' := [some (.ref 89), some (.int y401), some (.int y402), some (.int (y403 + 1)), some (.int c404.1)]) (st' := []) (h' := (HM P (u_m_restsIn (u_m_stops c430.2 (y403 - 1)) y402) T)) (cs' := 0) (sl' := 0) rfl ?_
                exact ih0 _ _ _ _ _ h P T _
              · refine ev_if_ne (t := 97) rfl rfl (fun _ => ?_) (fun c9 => absurd c9 hc)
                refine ev_go 1 (pc' := 99) (L' := [some (.ref 89), some (.int y401), some (.int y402), some (.int y403), some (.int c404.1)]) (st' := [.int c404.1]) (h' := (HM P c430.2 T)) (cs' := 0) (sl' := 0) rfl ?_
                rcases ai_ifE h with ⟨hc, h⟩ | ⟨hc, h⟩
                · refine ev_if_le (t := 192) rfl rfl (fun _ => ?_) (fun c9 => absurd hc c9)
                  refine ev_go 2 (pc' := 29) (L' := [some (.ref 89), some (.int y401), some (.int y402), some (.int (y403 + 1)), some (.int c404.1)]) (st' := []) (h' := (HM P c430.2 T)) (cs' := 0) (sl' := 0) rfl ?_
                  exact ih0 _ _ _ _ _ h P T _
                · refine ev_if_le (t := 192) rfl rfl (fun c9 => absurd c9 hc) (fun _ => ?_)
                  refine ev_go 5 (pc' := 109) (L' := [some (.ref 89), some (.int y401), some (.int y402), some (.int y403), some (.int c404.1)]) (st' := [.int (-1), .int y402, .int (a_m_broken c430.2), .ref 89]) (h' := (HM P c430.2 T)) (cs' := 0) (sl' := 0) rfl ?_
                  rcases ai_ifE h with ⟨hc, h⟩ | ⟨hc, h⟩
                  · refine ev_ic_eq (t := 125) rfl rfl (fun _ => ?_) (fun c9 => absurd hc c9)
                    refine ev_go 5 (pc' := 139) (L' := [some (.ref 89), some (.int y401), some (.int y402), some (.int y403), some (.int c404.1)]) (st' := [.ref 89]) (h' := (HM P (u_m_broken c430.2 ((a_m_broken c430.2) ||| 0)) T)) (cs' := 0) (sl' := 0) rfl ?_
                    obtain ⟨c431, hq, h⟩ := ai_bdE h
                    refine ev_call (M' := mm_weighs) (L' := [some (.ref 89), none]) (rest := []) (rv := some (.int c431.1)) (h' := (HM P c431.2 T)) rfl (Em_weighs_89 (u_m_broken c430.2 ((a_m_broken c430.2) ||| 0)) _ _ hq P T) ?_
                    show ai_ev D1 mm_comesDown 142 [some (.ref 89), some (.int y401), some (.int y402), some (.int y403), some (.int c404.1)] [.int c431.1] (HM P c431.2 T) 0 0 _
                    refine ev_go 1 (pc' := 143) (L' := [some (.ref 89), some (.int y401), some (.int y402), some (.int y403), some (.int c404.1)]) (st' := [.ref 89, .int c431.1]) (h' := (HM P c431.2 T)) (cs' := 0) (sl' := 0) rfl ?_
                    obtain ⟨c432, hq, h⟩ := ai_bdE h
                    refine ev_call (M' := mm_room) (L' := [some (.ref 89)]) (rest := [.int c431.1]) (rv := some (.int c432.1)) (h' := (HM P c432.2 T)) rfl (Em_room_89 c431.2 _ _ hq P T) ?_
                    show ai_ev D1 mm_comesDown 146 [some (.ref 89), some (.int y401), some (.int y402), some (.int y403), some (.int c404.1)] [.int c432.1, .int c431.1] (HM P c432.2 T) 0 0 _
                    refine ev_go 5 (pc' := 154) (L' := [some (.ref 89), some (.int y401), some (.int y402), some (.int y403), some (.int c404.1)]) (st' := [.int (8 + y403), .ref 90, .int c432.1, .int c431.1]) (h' := (HM P c432.2 T)) (cs' := 0) (sl' := 0) rfl ?_
                    obtain ⟨v433, hq, h⟩ := ai_bdE h
                    refine ev_iald rfl rfl hq ?_
                    refine ev_go 1 (pc' := 156) (L' := [some (.ref 89), some (.int y401), some (.int y402), some (.int y403), some (.int c404.1)]) (st' := [.int (c432.1 * v433), .int c431.1]) (h' := (HM P c432.2 T)) (cs' := 0) (sl' := 0) rfl ?_
                    rcases ai_ifE h with ⟨hc, h⟩ | ⟨hc, h⟩
                    · refine ev_ic_gt (t := 167) rfl rfl (fun _ => ?_) (fun c9 => absurd hc c9)
                      refine ev_go 18 (pc' := 29) (L' := [some (.ref 89), some (.int y401), some (.int y403), some (.int (y403 + 1)), some (.int c404.1)]) (st' := []) (h' := (HM P (u_m_down (u_m_passes c432.2 ((a_m_passes c432.2) ||| (1 <<< (y403 &&& 31)))) ((a_m_down c432.2) + c404.1)) T)) (cs' := 0) (sl' := 0) rfl ?_
                      exact ih0 _ _ _ _ _ h P T _
                    · refine ev_ic_gt (t := 167) rfl rfl (fun c9 => absurd c9 hc) (fun _ => ?_)
                      refine ev_go 6 (pc' := 29) (L' := [some (.ref 89), some (.int y401), some (.int y402), some (.int (y403 + 1)), some (.int c404.1)]) (st' := []) (h' := (HM P (u_m_restsIn c432.2 y403) T)) (cs' := 0) (sl' := 0) rfl ?_
                      exact ih0 _ _ _ _ _ h P T _
                  · refine ev_ic_eq (t := 125) rfl rfl (fun c9 => absurd c9 hc) (fun _ => ?_)
                    refine ev_go 5 (pc' := 119) (L' := [some (.ref 89), some (.int y401), some (.int y402), some (.int y403), some (.int c404.1)]) (st' := [.int (y403 - 1), .int (a_m_torn c430.2), .int (a_m_broken c430.2), .ref 89]) (h' := (HM P c430.2 T)) (cs' := 0) (sl' := 0) rfl ?_
                    obtain ⟨c434, hq, h⟩ := ai_bdE h
                    refine ev_call (M' := mm_has) (L' := [some (.int (a_m_torn c430.2)), some (.int (y403 - 1))]) (rest := [.int (a_m_broken c430.2), .ref 89]) (rv := some (.int c434)) (h' := (HM P c430.2 T)) rfl (Em_has (a_m_torn c430.2) (y403 - 1) _ hq (HM P c430.2 T)) ?_
                    show ai_ev D1 mm_comesDown 122 [some (.ref 89), some (.int y401), some (.int y402), some (.int y403), some (.int c404.1)] [.int c434, .int (a_m_broken c430.2), .ref 89] (HM P c430.2 T) 0 0 _
                    rcases ai_ifE h with ⟨hc, h⟩ | ⟨hc, h⟩
                    · refine ev_if_eq (t := 129) rfl rfl (fun _ => ?_) (fun c9 => absurd hc c9)
                      refine ev_go 8 (pc' := 139) (L' := [some (.ref 89), some (.int y401), some (.int y402), some (.int y403), some (.int c404.1)]) (st' := [.ref 89]) (h' := (HM P (u_m_broken c430.2 ((a_m_broken c430.2) ||| (1 <<< ((y403 - 1) &&& 31)))) T)) (cs' := 0) (sl' := 0) rfl ?_
                      obtain ⟨c435, hq, h⟩ := ai_bdE h
                      refine ev_call (M' := mm_weighs) (L' := [some (.ref 89), none]) (rest := []) (rv := some (.int c435.1)) (h' := (HM P c435.2 T)) rfl (Em_weighs_89 (u_m_broken c430.2 ((a_m_broken c430.2) ||| (1 <<< ((y403 - 1) &&& 31)))) _ _ hq P T) ?_
                      show ai_ev D1 mm_comesDown 142 [some (.ref 89), some (.int y401), some (.int y402), some (.int y403), some (.int c404.1)] [.int c435.1] (HM P c435.2 T) 0 0 _
                      refine ev_go 1 (pc' := 143) (L' := [some (.ref 89), some (.int y401), some (.int y402), some (.int y403), some (.int c404.1)]) (st' := [.ref 89, .int c435.1]) (h' := (HM P c435.2 T)) (cs' := 0) (sl' := 0) rfl ?_
                      obtain ⟨c436, hq, h⟩ := ai_bdE h
                      refine ev_call (M' := mm_room) (L' := [some (.ref 89)]) (rest := [.int c435.1]) (rv := some (.int c436.1)) (h' := (HM P c436.2 T)) rfl (Em_room_89 c435.2 _ _ hq P T) ?_
                      show ai_ev D1 mm_comesDown 146 [some (.ref 89), some (.int y401), some (.int y402), some (.int y403), some (.int c404.1)] [.int c436.1, .int c435.1] (HM P c436.2 T) 0 0 _
                      refine ev_go 5 (pc' := 154) (L' := [some (.ref 89), some (.int y401), some (.int y402), some (.int y403), some (.int c404.1)]) (st' := [.int (8 + y403), .ref 90, .int c436.1, .int c435.1]) (h' := (HM P c436.2 T)) (cs' := 0) (sl' := 0) rfl ?_
                      obtain ⟨v437, hq, h⟩ := ai_bdE h
                      refine ev_iald rfl rfl hq ?_
                      refine ev_go 1 (pc' := 156) (L' := [some (.ref 89), some (.int y401), some (.int y402), some (.int y403), some (.int c404.1)]) (st' := [.int (c436.1 * v437), .int c435.1]) (h' := (HM P c436.2 T)) (cs' := 0) (sl' := 0) rfl ?_
                      rcases ai_ifE h with ⟨hc, h⟩ | ⟨hc, h⟩
                      · refine ev_ic_gt (t := 167) rfl rfl (fun _ => ?_) (fun c9 => absurd hc c9)
                        refine ev_go 18 (pc' := 29) (L' := [some (.ref 89), some (.int y401), some (.int y403), some (.int (y403 + 1)), some (.int c404.1)]) (st' := []) (h' := (HM P (u_m_down (u_m_passes c436.2 ((a_m_passes c436.2) ||| (1 <<< (y403 &&& 31)))) ((a_m_down c436.2) + c404.1)) T)) (cs' := 0) (sl' := 0) rfl ?_
                        exact ih0 _ _ _ _ _ h P T _
                      · refine ev_ic_gt (t := 167) rfl rfl (fun c9 => absurd c9 hc) (fun _ => ?_)
                        refine ev_go 6 (pc' := 29) (L' := [some (.ref 89), some (.int y401), some (.int y402), some (.int (y403 + 1)), some (.int c404.1)]) (st' := []) (h' := (HM P (u_m_restsIn c436.2 y403) T)) (cs' := 0) (sl' := 0) rfl ?_
                        exact ih0 _ _ _ _ _ h P T _
                    · refine ev_if_eq (t := 129) rfl rfl (fun c9 => absurd c9 hc) (fun _ => ?_)
                      refine ev_go 5 (pc' := 139) (L' := [some (.ref 89), some (.int y401), some (.int y402), some (.int y403), some (.int c404.1)]) (st' := [.ref 89]) (h' := (HM P (u_m_broken c430.2 ((a_m_broken c430.2) ||| 0)) T)) (cs' := 0) (sl' := 0) rfl ?_
                      obtain ⟨c438, hq, h⟩ := ai_bdE h
                      refine ev_call (M' := mm_weighs) (L' := [some (.ref 89), none]) (rest := []) (rv := some (.int c438.1)) (h' := (HM P c438.2 T)) rfl (Em_weighs_89 (u_m_broken c430.2 ((a_m_broken c430.2) ||| 0)) _ _ hq P T) ?_
                      show ai_ev D1 mm_comesDown 142 [some (.ref 89), some (.int y401), some (.int y402), some (.int y403), some (.int c404.1)] [.int c438.1] (HM P c438.2 T) 0 0 _
                      refine ev_go 1 (pc' := 143) (L' := [some (.ref 89), some (.int y401), some (.int y402), some (.int y403), some (.int c404.1)]) (st' := [.ref 89, .int c438.1]) (h' := (HM P c438.2 T)) (cs' := 0) (sl' := 0) rfl ?_
                      obtain ⟨c439, hq, h⟩ := ai_bdE h
                      refine ev_call (M' := mm_room) (L' := [some (.ref 89)]) (rest := [.int c438.1]) (rv := some (.int c439.1)) (h' := (HM P c439.2 T)) rfl (Em_room_89 c438.2 _ _ hq P T) ?_
                      show ai_ev D1 mm_comesDown 146 [some (.ref 89), some (.int y401), some (.int y402), some (.int y403), some (.int c404.1)] [.int c439.1, .int c438.1] (HM P c439.2 T) 0 0 _
                      refine ev_go 5 (pc' := 154) (L' := [some (.ref 89), some (.int y401), some (.int y402), some (.int y403), some (.int c404.1)]) (st' := [.int (8 + y403), .ref 90, .int c439.1, .int c438.1]) (h' := (HM P c439.2 T)) (cs' := 0) (sl' := 0) rfl ?_
                      obtain ⟨v440, hq, h⟩ := ai_bdE h
                      refine ev_iald rfl rfl hq ?_
                      refine ev_go 1 (pc' := 156) (L' := [some (.ref 89), some (.int y401), some (.int y402), some (.int y403), some (.int c404.1)]) (st' := [.int (c439.1 * v440), .int c438.1]) (h' := (HM P c439.2 T)) (cs' := 0) (sl' := 0) rfl ?_
                      rcases ai_ifE h with ⟨hc, h⟩ | ⟨hc, h⟩
                      · refine ev_ic_gt (t := 167) rfl rfl (fun _ => ?_) (fun c9 => absurd hc c9)
                        refine ev_go 18 (pc' := 29) (L' := [some (.ref 89), some (.int y401), some (.int y403), some (.int (y403 + 1)), some (.int c404.1)]) (st' := []) (h' := (HM P (u_m_down (u_m_passes c439.2 ((a_m_passes c439.2) ||| (1 <<< (y403 &&& 31)))) ((a_m_down c439.2) + c404.1)) T)) (cs' := 0) (sl' := 0) rfl ?_
                        exact ih0 _ _ _ _ _ h P T _
                      · refine ev_ic_gt (t := 167) rfl rfl (fun c9 => absurd c9 hc) (fun _ => ?_)
                        refine ev_go 6 (pc' := 29) (L' := [some (.ref 89), some (.int y401), some (.int y402), some (.int (y403 + 1)), some (.int c404.1)]) (st' := []) (h' := (HM P (u_m_restsIn c439.2 y403) T)) (cs' := 0) (sl' := 0) rfl ?_
                        exact ih0 _ _ _ _ _ h P T _
        · refine ev_ic_ne (t := 198) rfl rfl (fun _ => ?_) (fun c9 => absurd c9 hc)
          obtain rfl := Option.some.inj h
          exact ev_end rfl
      · refine ev_ic_ne (t := 198) rfl rfl (fun _ => ?_) (fun c9 => absurd c9 hc)
        obtain rfl := Option.some.inj h
        exact ev_end rfl
set_option maxHeartbeats 40000000 in
set_option maxRecDepth 100000 in
theorem Em_comesDown_89 (n : Nat) (x400 : Int32) (w : WM) (w' : WM) (h : Fm_comesDown_89 n x400 w = some w') (P : Nat → ai_E) (T : ai_H) : ai_ev D1 mm_comesDown 0 [some (.ref 89), some (.int x400), none, none, none] [] (HM P w T) 0 0 (none, HM P w' T) := by
  unfold Fm_comesDown_89 at h
  have ih0 := EGm_comesDown_89 n
  refine ev_go 19 (pc' := 29) (L' := [some (.ref 89), some (.int x400), some (.int (-1)), some (.int 0), none]) (st' := []) (h' := (HM P (u_m_stops (u_m_passes (u_m_broken (u_m_down (u_m_restsIn w 4) 0) 0) 0) (-1)) T)) (cs' := 0) (sl' := 0) rfl ?_
  exact ih0 _ _ _ _ _ h P T _
