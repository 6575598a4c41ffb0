set_option maxHeartbeats 40000000 in
set_option maxRecDepth 100000 in
theorem Ef_sea_0 (n : Nat) (x987 : Int32) (w : WX) (r : Int32) (w' : WX) (h : Ff_sea_0 n x987 w = some (r, w')) (T : ai_H) : ai_ev D1 mf_sea 0 [some (.ref 0), some (.int x987)] [] (HX w T) 0 0 (some (.int r), HX w' T) := by
  unfold Ff_sea_0 at h
  refine ev_go 4 (pc' := 6) (L' := [some (.ref 0), some (.int x987)]) (st' := [.int x987, .ref 1, .ref 0]) (h' := (HX w T)) (cs' := 0) (sl' := 0) rfl ?_
  obtain ⟨c1018, hq, h⟩ := ai_bdE h
  refine ev_call (M' := msea_startAnew) (L' := [some (.ref 1), some (.int x987), none]) (rest := [.ref 0]) (rv := some (.int c1018.1)) (h' := (HX c1018.2 T)) rfl (Esea_startAnew_1 n x987 w _ _ hq T) ?_
  show ai_ev D1 mf_sea 9 [some (.ref 0), some (.int x987)] [.int c1018.1, .ref 0] (HX c1018.2 T) 0 0 _
  obtain ⟨c1020, hq, h⟩ := ai_bdE h
  refine ev_call (M' := mf_counted) (L' := [some (.ref 0), some (.int c1018.1)]) (rest := []) (rv := some (.int c1020.1)) (h' := (HX c1020.2 T)) rfl (Ef_counted_0 c1018.1 c1018.2 _ _ hq T) ?_
  show ai_ev D1 mf_sea 12 [some (.ref 0), some (.int x987)] [.int c1020.1] (HX c1020.2 T) 0 0 _
  obtain ⟨rfl, rfl⟩ := ai_smP h
  exact ev_end rfl
set_option maxHeartbeats 40000000 in
set_option maxRecDepth 100000 in
theorem Ef_isLayer (x1025 : Int32) (r : Int32) (h : Ff_isLayer x1025 = some r) (hh : ai_H) : ai_ev D1 mf_isLayer 0 [some (.int x1025)] [] hh 0 0 (some (.int r), hh) := by
  unfold Ff_isLayer at h
  refine ev_go 3 (pc' := 3) (L' := [some (.int x1025)]) (st' := [.int 3, .int 0, .int x1025]) (h' := hh) (cs' := 0) (sl' := 0) rfl ?_
  obtain ⟨c1026, hq, h⟩ := ai_bdE h
  refine ev_call (M' := mf_within) (L' := [some (.int x1025), some (.int 0), some (.int 3)]) (rest := []) (rv := some (.int c1026)) (h' := hh) rfl (Ef_within x1025 0 3 _ hq hh) ?_
  show ai_ev D1 mf_isLayer 6 [some (.int x1025)] [.int c1026] hh 0 0 _
  obtain ⟨hv, h⟩ := ai_ifS h
  obtain rfl := Option.some.inj h
  exact ev_zend rfl rfl rfl hv
set_option maxHeartbeats 40000000 in
set_option maxRecDepth 100000 in
theorem Esea_putDensity_1 (x1023 : Int32) (x1024 : Int32) (w : WX) (r : Int32) (w' : WX) (h : Fsea_putDensity_1 x1023 x1024 w = some (r, w')) (T : ai_H) : ai_ev D1 msea_putDensity 0 [some (.ref 1), some (.int x1023), some (.int x1024), none, none, none] [] (HX w T) 0 0 (some (.int r), HX w' T) := by
  unfold Fsea_putDensity_1 at h
  refine ev_go 1 (pc' := 1) (L' := [some (.ref 1), some (.int x1023), some (.int x1024), none, none, none]) (st' := [.int x1023]) (h' := (HX w T)) (cs' := 0) (sl' := 0) rfl ?_
  obtain ⟨c1027, hq, h⟩ := ai_bdE h
  refine ev_call (M' := mf_isLayer) (L' := [some (.int x1023)]) (rest := []) (rv := some (.int c1027)) (h' := (HX w T)) rfl (Ef_isLayer x1023 _ hq (HX w T)) ?_
  show ai_ev D1 msea_putDensity 4 [some (.ref 1), some (.int x1023), some (.int x1024), none, none, none] [.int c1027] (HX w T) 0 0 _
  rcases ai_ifE h with ⟨hc, h⟩ | ⟨hc, h⟩
  · refine ev_if_eq (t := 17) rfl rfl (fun _ => ?_) (fun c9 => absurd hc c9)
    refine ev_go 1 (pc' := 19) (L' := [some (.ref 1), some (.int x1023), some (.int x1024), none, none, none]) (st' := [.int (-2)]) (h' := (HX w T)) (cs' := 0) (sl' := 0) rfl ?_
    obtain ⟨rfl, rfl⟩ := ai_smP h
    exact ev_end rfl
  · refine ev_if_eq (t := 17) rfl rfl (fun c9 => absurd c9 hc) (fun _ => ?_)
    refine ev_go 3 (pc' := 11) (L' := [some (.ref 1), some (.int x1023), some (.int x1024), none, none, none]) (st' := [.int 99, .int 1, .int x1024]) (h' := (HX w T)) (cs' := 0) (sl' := 0) rfl ?_
    obtain ⟨c1028, hq, h⟩ := ai_bdE h
    refine ev_call (M' := mf_within) (L' := [some (.int x1024), some (.int 1), some (.int 99)]) (rest := []) (rv := some (.int c1028)) (h' := (HX w T)) rfl (Ef_within x1024 1 99 _ hq (HX w T)) ?_
    show ai_ev D1 msea_putDensity 14 [some (.ref 1), some (.int x1023), some (.int x1024), none, none, none] [.int c1028] (HX w T) 0 0 _
    rcases ai_ifE h with ⟨hc, h⟩ | ⟨hc, h⟩
    · refine ev_if_ne (t := 20) rfl rfl (fun c9 => absurd hc c9) (fun _ => ?_)
      refine ev_go 1 (pc' := 19) (L' := [some (.ref 1), some (.int x1023), some (.int x1024), none, none, none]) (st' := [.int (-2)]) (h' := (HX w T)) (cs' := 0) (sl' := 0) rfl ?_
      obtain ⟨rfl, rfl⟩ := ai_smP h
      exact ev_end rfl
    · refine ev_if_ne (t := 20) rfl rfl (fun _ => ?_) (fun c9 => absurd c9 hc)
      refine ev_go 1 (pc' := 21) (L' := [some (.ref 1), some (.int x1023), some (.int x1024), none, none, none]) (st' := [.int x1023]) (h' := (HX w T)) (cs' := 0) (sl' := 0) rfl ?_
      rcases ai_ifE h with ⟨hc, h⟩ | ⟨hc, h⟩
      · refine ev_if_eq (t := 36) rfl rfl (fun _ => ?_) (fun c9 => absurd hc c9)
        refine ev_go 5 (pc' := 44) (L' := [some (.ref 1), some (.int x1023), some (.int x1024), some (.int 1), none, none]) (st' := [.int 3, .int x1023]) (h' := (HX w T)) (cs' := 0) (sl' := 0) rfl ?_
        rcases ai_ifE h with ⟨hc, h⟩ | ⟨hc, h⟩
        · refine ev_ic_eq (t := 59) rfl rfl (fun _ => ?_) (fun c9 => absurd hc c9)
          refine ev_go 10 (pc' := 83) (L' := [some (.ref 1), some (.int x1023), some (.int x1024), some (.int 1), some (.int 1), none]) (st' := [.int x1023, .ref 2]) (h' := (HX w T)) (cs' := 0) (sl' := 0) rfl ?_
          obtain ⟨v1029, hq, h⟩ := ai_bdE h
          refine ev_iald rfl rfl hq ?_
          refine ev_go 5 (pc' := 92) (L' := [some (.ref 1), some (.int x1023), some (.int x1024), some (.int 1), some (.int 1), some (.int v1029)]) (st' := [.int x1024, .int x1023, .ref 2]) (h' := (HX w T)) (cs' := 0) (sl' := 0) rfl ?_
          obtain ⟨q1030, hq, h⟩ := ai_bdE h
          refine ev_iast rfl rfl hq ?_
          rw [HXs_2]
          refine ev_go 1 (pc' := 95) (L' := [some (.ref 1), some (.int x1023), some (.int x1024), some (.int 1), some (.int 1), some (.int v1029)]) (st' := [.int v1029]) (h' := (HX (u_s1_densities w q1030) T)) (cs' := 0) (sl' := 0) rfl ?_
          obtain ⟨rfl, rfl⟩ := ai_smP h
          exact ev_end rfl
        · refine ev_ic_eq (t := 59) rfl rfl (fun c9 => absurd c9 hc) (fun _ => ?_)
          refine ev_go 5 (pc' := 54) (L' := [some (.ref 1), some (.int x1023), some (.int x1024), some (.int 1), none, none]) (st' := [.int (x1023 + 1), .ref 2]) (h' := (HX w T)) (cs' := 0) (sl' := 0) rfl ?_
          obtain ⟨v1031, hq, h⟩ := ai_bdE h
          refine ev_iald rfl rfl hq ?_
          refine ev_go 1 (pc' := 56) (L' := [some (.ref 1), some (.int x1023), some (.int x1024), some (.int 1), none, none]) (st' := [.int x1024, .int v1031]) (h' := (HX w T)) (cs' := 0) (sl' := 0) rfl ?_
          rcases ai_ifE h with ⟨hc, h⟩ | ⟨hc, h⟩
          · refine ev_ic_le (t := 63) rfl rfl (fun _ => ?_) (fun c9 => absurd hc c9)
            refine ev_go 7 (pc' := 77) (L' := [some (.ref 1), some (.int x1023), some (.int x1024), some (.int 1), some (.int 0), none]) (st' := [.int (-3)]) (h' := (HX w T)) (cs' := 0) (sl' := 0) rfl ?_
            obtain ⟨rfl, rfl⟩ := ai_smP h
            exact ev_end rfl
          · refine ev_ic_le (t := 63) rfl rfl (fun c9 => absurd c9 hc) (fun _ => ?_)
            refine ev_go 10 (pc' := 83) (L' := [some (.ref 1), some (.int x1023), some (.int x1024), some (.int 1), some (.int 1), none]) (st' := [.int x1023, .ref 2]) (h' := (HX w T)) (cs' := 0) (sl' := 0) rfl ?_
            obtain ⟨v1032, hq, h⟩ := ai_bdE h
            refine ev_iald rfl rfl hq ?_
            refine ev_go 5 (pc' := 92) (L' := [some (.ref 1), some (.int x1023), some (.int x1024), some (.int 1), some (.int 1), some (.int v1032)]) (st' := [.int x1024, .int x1023, .ref 2]) (h' := (HX w T)) (cs' := 0) (sl' := 0) rfl ?_
            obtain ⟨q1033, hq, h⟩ := ai_bdE h
            refine ev_iast rfl rfl hq ?_
            rw [HXs_2]
            refine ev_go 1 (pc' := 95) (L' := [some (.ref 1), some (.int x1023), some (.int x1024), some (.int 1), some (.int 1), some (.int v1032)]) (st' := [.int v1032]) (h' := (HX (u_s1_densities w q1033) T)) (cs' := 0) (sl' := 0) rfl ?_
            obtain ⟨rfl, rfl⟩ := ai_smP h
            exact ev_end rfl
      · refine ev_if_eq (t := 36) rfl rfl (fun c9 => absurd c9 hc) (fun _ => ?_)
        refine ev_go 5 (pc' := 31) (L' := [some (.ref 1), some (.int x1023), some (.int x1024), none, none, none]) (st' := [.int (x1023 - 1), .ref 2]) (h' := (HX w T)) (cs' := 0) (sl' := 0) rfl ?_
        obtain ⟨v1034, hq, h⟩ := ai_bdE h
        refine ev_iald rfl rfl hq ?_
        refine ev_go 1 (pc' := 33) (L' := [some (.ref 1), some (.int x1023), some (.int x1024), none, none, none]) (st' := [.int x1024, .int v1034]) (h' := (HX w T)) (cs' := 0) (sl' := 0) rfl ?_
        rcases ai_ifE h with ⟨hc, h⟩ | ⟨hc, h⟩
        · refine ev_ic_ge (t := 40) rfl rfl (fun _ => ?_) (fun c9 => absurd hc c9)
          refine ev_go 4 (pc' := 44) (L' := [some (.ref 1), some (.int x1023), some (.int x1024), some (.int 0), none, none]) (st' := [.int 3, .int x1023]) (h' := (HX w T)) (cs' := 0) (sl' := 0) rfl ?_
          rcases ai_ifE h with ⟨hc, h⟩ | ⟨hc, h⟩
          · refine ev_ic_eq (t := 59) rfl rfl (fun _ => ?_) (fun c9 => absurd hc c9)
            refine ev_go 6 (pc' := 77) (L' := [some (.ref 1), some (.int x1023), some (.int x1024), some (.int 0), some (.int 1), none]) (st' := [.int (-3)]) (h' := (HX w T)) (cs' := 0) (sl' := 0) rfl ?_
            obtain ⟨rfl, rfl⟩ := ai_smP h
            exact ev_end rfl
          · refine ev_ic_eq (t := 59) rfl rfl (fun c9 => absurd c9 hc) (fun _ => ?_)
            refine ev_go 5 (pc' := 54) (L' := [some (.ref 1), some (.int x1023), some (.int x1024), some (.int 0), none, none]) (st' := [.int (x1023 + 1), .ref 2]) (h' := (HX w T)) (cs' := 0) (sl' := 0) rfl ?_
            obtain ⟨v1035, hq, h⟩ := ai_bdE h
            refine ev_iald rfl rfl hq ?_
            refine ev_go 1 (pc' := 56) (L' := [some (.ref 1), some (.int x1023), some (.int x1024), some (.int 0), none, none]) (st' := [.int x1024, .int v1035]) (h' := (HX w T)) (cs' := 0) (sl' := 0) rfl ?_
            rcases ai_ifE h with ⟨hc, h⟩ | ⟨hc, h⟩
            · refine ev_ic_le (t := 63) rfl rfl (fun _ => ?_) (fun c9 => absurd hc c9)
              refine ev_go 5 (pc' := 77) (L' := [some (.ref 1), some (.int x1023), some (.int x1024), some (.int 0), some (.int 0), none]) (st' := [.int (-3)]) (h' := (HX w T)) (cs' := 0) (sl' := 0) rfl ?_
              obtain ⟨rfl, rfl⟩ := ai_smP h
              exact ev_end rfl
            · refine ev_ic_le (t := 63) rfl rfl (fun c9 => absurd c9 hc) (fun _ => ?_)
              refine ev_go 6 (pc' := 77) (L' := [some (.ref 1), some (.int x1023), some (.int x1024), some (.int 0), some (.int 1), none]) (st' := [.int (-3)]) (h' := (HX w T)) (cs' := 0) (sl' := 0) rfl ?_
              obtain ⟨rfl, rfl⟩ := ai_smP h
              exact ev_end rfl
        · refine ev_ic_ge (t := 40) rfl rfl (fun c9 => absurd c9 hc) (fun _ => ?_)
          refine ev_go 5 (pc' := 44) (L' := [some (.ref 1), some (.int x1023), some (.int x1024), some (.int 1), none, none]) (st' := [.int 3, .int x1023]) (h' := (HX w T)) (cs' := 0) (sl' := 0) rfl ?_
          rcases ai_ifE h with ⟨hc, h⟩ | ⟨hc, h⟩
          · refine ev_ic_eq (t := 59) rfl rfl (fun _ => ?_) (fun c9 => absurd hc c9)
            refine ev_go 10 (pc' := 83) (L' := [some (.ref 1), some (.int x1023), some (.int x1024), some (.int 1), some (.int 1), none]) (st' := [.int x1023, .ref 2]) (h' := (HX w T)) (cs' := 0) (sl' := 0) rfl ?_
            obtain ⟨v1036, hq, h⟩ := ai_bdE h
            refine ev_iald rfl rfl hq ?_
            refine ev_go 5 (pc' := 92) (L' := [some (.ref 1), some (.int x1023), some (.int x1024), some (.int 1), some (.int 1), some (.int v1036)]) (st' := [.int x1024, .int x1023, .ref 2]) (h' := (HX w T)) (cs' := 0) (sl' := 0) rfl ?_
            obtain ⟨q1037, hq, h⟩ := ai_bdE h
            refine ev_iast rfl rfl hq ?_
            rw [HXs_2]
            refine ev_go 1 (pc' := 95) (L' := [some (.ref 1), some (.int x1023), some (.int x1024), some (.int 1), some (.int 1), some (.int v1036)]) (st' := [.int v1036]) (h' := (HX (u_s1_densities w q1037) T)) (cs' := 0) (sl' := 0) rfl ?_
            obtain ⟨rfl, rfl⟩ := ai_smP h
            exact ev_end rfl
          · refine ev_ic_eq (t := 59) rfl rfl (fun c9 => absurd c9 hc) (fun _ => ?_)
            refine ev_go 5 (pc' := 54) (L' := [some (.ref 1), some (.int x1023), some (.int x1024), some (.int 1), none, none]) (st' := [.int (x1023 + 1), .ref 2]) (h' := (HX w T)) (cs' := 0) (sl' := 0) rfl ?_
            obtain ⟨v1038, hq, h⟩ := ai_bdE h
            refine ev_iald rfl rfl hq ?_
            refine ev_go 1 (pc' := 56) (L' := [some (.ref 1), some (.int x1023), some (.int x1024), some (.int 1), none, none]) (st' := [.int x1024, .int v1038]) (h' := (HX w T)) (cs' := 0) (sl' := 0) rfl ?_
            rcases ai_ifE h with ⟨hc, h⟩ | ⟨hc, h⟩
            · refine ev_ic_le (t := 63) rfl rfl (fun _ => ?_) (fun c9 => absurd hc c9)
              refine ev_go 7 (pc' := 77) (L' := [some (.ref 1), some (.int x1023), some (.int x1024), some (.int 1), some (.int 0), none]) (st' := [.int (-3)]) (h' := (HX w T)) (cs' := 0) (sl' := 0) rfl ?_
              obtain ⟨rfl, rfl⟩ := ai_smP h
              exact ev_end rfl
            · refine ev_ic_le (t := 63) rfl rfl (fun c9 => absurd c9 hc) (fun _ => ?_)
              refine ev_go 10 (pc' := 83) (L' := [some (.ref 1), some (.int x1023), some (.int x1024), some (.int 1), some (.int 1), none]) (st' := [.int x1023, .ref 2]) (h' := (HX w T)) (cs' := 0) (sl' := 0) rfl ?_
              obtain ⟨v1039, hq, h⟩ := ai_bdE h
              refine ev_iald rfl rfl hq ?_
              refine ev_go 5 (pc' := 92) (L' := [some (.ref 1), some (.int x1023), some (.int x1024), some (.int 1), some (.int 1), some (.int v1039)]) (st' := [.int x1024, .int x1023, .ref 2]) (h' := (HX w T)) (cs' := 0) (sl' := 0) rfl ?_
              obtain ⟨q1040, hq, h⟩ := ai_bdE h
              refine ev_iast rfl rfl hq ?_
              rw [HXs_2]
              refine ev_go 1 (pc' := 95) (L' := [some (.ref 1), some (.int x1023), some (.int x1024), some (.int 1), some (.int 1), some (.int v1039)]) (st' := [.int v1039]) (h' := (HX (u_s1_densities w q1040) T)) (cs' := 0) (sl' := 0) rfl ?_
              obtain ⟨rfl, rfl⟩ := ai_smP h
              exact ev_end rfl
set_option maxHeartbeats 40000000 in
set_option maxRecDepth 100000 in
theorem Ef_water_0 (x1021 : Int32) (x1022 : Int32) (w : WX) (r : Int32) (w' : WX) (h : Ff_water_0 x1021 x1022 w = some (r, w')) (T : ai_H) : ai_ev D1 mf_water 0 [some (.ref 0), some (.int x1021), some (.int x1022)] [] (HX w T) 0 0 (some (.int r), HX w' T) := by
  unfold Ff_water_0 at h
  refine ev_go 5 (pc' := 7) (L' := [some (.ref 0), some (.int x1021), some (.int x1022)]) (st' := [.int x1022, .int x1021, .ref 1, .ref 0]) (h' := (HX w T)) (cs' := 0) (sl' := 0) rfl ?_
  obtain ⟨c1041, hq, h⟩ := ai_bdE h
  refine ev_call (M' := msea_putDensity) (L' := [some (.ref 1), some (.int x1021), some (.int x1022), none, none, none]) (rest := [.ref 0]) (rv := some (.int c1041.1)) (h' := (HX c1041.2 T)) rfl (Esea_putDensity_1 x1021 x1022 w _ _ hq T) ?_
  show ai_ev D1 mf_water 10 [some (.ref 0), some (.int x1021), some (.int x1022)] [.int c1041.1, .ref 0] (HX c1041.2 T) 0 0 _
  obtain ⟨c1042, hq, h⟩ := ai_bdE h
  refine ev_call (M' := mf_counted) (L' := [some (.ref 0), some (.int c1041.1)]) (rest := []) (rv := some (.int c1042.1)) (h' := (HX c1042.2 T)) rfl (Ef_counted_0 c1041.1 c1041.2 _ _ hq T) ?_
  show ai_ev D1 mf_water 13 [some (.ref 0), some (.int x1021), some (.int x1022)] [.int c1042.1] (HX c1042.2 T) 0 0 _
  obtain ⟨rfl, rfl⟩ := ai_smP h
  exact ev_end rfl
set_option maxHeartbeats 40000000 in
set_option maxRecDepth 100000 in
theorem Esea_hasCell_1 (x1050 : Int32) (w : WX) (r : Int32) (w' : WX) (h : Fsea_hasCell_1 x1050 w = some (r, w')) (T : ai_H) : ai_ev D1 msea_hasCell 0 [some (.ref 1), some (.int x1050)] [] (HX w T) 0 0 (some (.int r), HX w' T) := by
  unfold Fsea_hasCell_1 at h
  refine ev_go 6 (pc' := 8) (L' := [some (.ref 1), some (.int x1050)]) (st' := [.int ((a_s1_cells w) - 1), .int 0, .int x1050]) (h' := (HX w T)) (cs' := 0) (sl' := 0) rfl ?_
  obtain ⟨c1051, hq, h⟩ := ai_bdE h
  refine ev_call (M' := mf_within) (L' := [some (.int x1050), some (.int 0), some (.int ((a_s1_cells w) - 1))]) (rest := []) (rv := some (.int c1051)) (h' := (HX w T)) rfl (Ef_within x1050 0 ((a_s1_cells w) - 1) _ hq (HX w T)) ?_
  show ai_ev D1 msea_hasCell 11 [some (.ref 1), some (.int x1050)] [.int c1051] (HX w T) 0 0 _
  obtain ⟨hv, h⟩ := ai_ifS h
  obtain ⟨rfl, rfl⟩ := ai_smP h
  exact ev_zend rfl rfl rfl hv
set_option maxHeartbeats 40000000 in
set_option maxRecDepth 100000 in
theorem Esea_putThick_1 (x1046 : Int32) (x1047 : Int32) (x1048 : Int32) (w : WX) (r : Int32) (w' : WX) (h : Fsea_putThick_1 x1046 x1047 x1048 w = some (r, w')) (T : ai_H) : ai_ev D1 msea_putThick 0 [some (.ref 1), some (.int x1046), some (.int x1047), some (.int x1048), none, none] [] (HX w T) 0 0 (some (.int r), HX w' T) := by
  unfold Fsea_putThick_1 at h
  refine ev_go 1 (pc' := 1) (L' := [some (.ref 1), some (.int x1046), some (.int x1047), some (.int x1048), none, none]) (st' := [.int x1046]) (h' := (HX w T)) (cs' := 0) (sl' := 0) rfl ?_
  obtain ⟨c1049, hq, h⟩ := ai_bdE h
  refine ev_call (M' := mf_isLayer) (L' := [some (.int x1046)]) (rest := []) (rv := some (.int c1049)) (h' := (HX w T)) rfl (Ef_isLayer x1046 _ hq (HX w T)) ?_
  show ai_ev D1 msea_putThick 4 [some (.ref 1), some (.int x1046), some (.int x1047), some (.int x1048), none, none] [.int c1049] (HX w T) 0 0 _
  rcases ai_ifE h with ⟨hc, h⟩ | ⟨hc, h⟩
  · refine ev_if_eq (t := 25) rfl rfl (fun _ => ?_) (fun c9 => absurd hc c9)
    refine ev_go 1 (pc' := 27) (L' := [some (.ref 1), some (.int x1046), some (.int x1047), some (.int x1048), none, none]) (st' := [.int (-2)]) (h' := (HX w T)) (cs' := 0) (sl' := 0) rfl ?_
    obtain ⟨rfl, rfl⟩ := ai_smP h
    exact ev_end rfl
  · refine ev_if_eq (t := 25) rfl rfl (fun c9 => absurd c9 hc) (fun _ => ?_)
    refine ev_go 2 (pc' := 9) (L' := [some (.ref 1), some (.int x1046), some (.int x1047), some (.int x1048), none, none]) (st' := [.int x1047, .ref 1]) (h' := (HX w T)) (cs' := 0) (sl' := 0) rfl ?_
    obtain ⟨c1052, hq, h⟩ := ai_bdE h
    refine ev_call (M' := msea_hasCell) (L' := [some (.ref 1), some (.int x1047)]) (rest := []) (rv := some (.int c1052.1)) (h' := (HX c1052.2 T)) rfl (Esea_hasCell_1 x1047 w _ _ hq T) ?_
    show ai_ev D1 msea_putThick 12 [some (.ref 1), some (.int x1046), some (.int x1047), some (.int x1048), none, none] [.int c1052.1] (HX c1052.2 T) 0 0 _
    rcases ai_ifE h with ⟨hc, h⟩ | ⟨hc, h⟩
    · refine ev_if_eq (t := 25) rfl rfl (fun _ => ?_) (fun c9 => absurd hc c9)
      refine ev_go 1 (pc' := 27) (L' := [some (.ref 1), some (.int x1046), some (.int x1047), some (.int x1048), none, none]) (st' := [.int (-2)]) (h' := (HX c1052.2 T)) (cs' := 0) (sl' := 0) rfl ?_
      obtain ⟨rfl, rfl⟩ := ai_smP h
      exact ev_end rfl
    · refine ev_if_eq (t := 25) rfl rfl (fun c9 => absurd c9 hc) (fun _ => ?_)
      refine ev_go 3 (pc' := 19) (L' := [some (.ref 1), some (.int x1046), some (.int x1047), some (.int x1048), none, none]) (st' := [.int 9, .int 0, .int x1048]) (h' := (HX c1052.2 T)) (cs' := 0) (sl' := 0) rfl ?_
      obtain ⟨c1053, hq, h⟩ := ai_bdE h
      refine ev_call (M' := mf_within) (L' := [some (.int x1048), some (.int 0), some (.int 9)]) (rest := []) (rv := some (.int c1053)) (h' := (HX c1052.2 T)) rfl (Ef_within x1048 0 9 _ hq (HX c1052.2 T)) ?_
      show ai_ev D1 msea_putThick 22 [some (.ref 1), some (.int x1046), some (.int x1047), some (.int x1048), none, none] [.int c1053] (HX c1052.2 T) 0 0 _
      rcases ai_ifE h with ⟨hc, h⟩ | ⟨hc, h⟩
      · refine ev_if_ne (t := 28) rfl rfl (fun c9 => absurd hc c9) (fun _ => ?_)
        refine ev_go 1 (pc' := 27) (L' := [some (.ref 1), some (.int x1046), some (.int x1047), some (.int x1048), none, none]) (st' := [.int (-2)]) (h' := (HX c1052.2 T)) (cs' := 0) (sl' := 0) rfl ?_
        obtain ⟨rfl, rfl⟩ := ai_smP h
        exact ev_end rfl
      · refine ev_if_ne (t := 28) rfl rfl (fun _ => ?_) (fun c9 => absurd c9 hc)
        refine ev_go 9 (pc' := 42) (L' := [some (.ref 1), some (.int x1046), some (.int x1047), some (.int x1048), some (.int ((x1046 * 6) + x1047)), none]) (st' := [.int ((x1046 * 6) + x1047), .ref 5]) (h' := (HX c1052.2 T)) (cs' := 0) (sl' := 0) rfl ?_
        obtain ⟨v1054, hq, h⟩ := ai_bdE h
        refine ev_iald rfl rfl hq ?_
        refine ev_go 5 (pc' := 52) (L' := [some (.ref 1), some (.int x1046), some (.int x1047), some (.int x1048), some (.int ((x1046 * 6) + x1047)), some (.int v1054)]) (st' := [.int x1048, .int ((x1046 * 6) + x1047), .ref 5]) (h' := (HX c1052.2 T)) (cs' := 0) (sl' := 0) rfl ?_
        obtain ⟨q1055, hq, h⟩ := ai_bdE h
        refine ev_iast rfl rfl hq ?_
        rw [HXs_5]
        refine ev_go 1 (pc' := 55) (L' := [some (.ref 1), some (.int x1046), some (.int x1047), some (.int x1048), some (.int ((x1046 * 6) + x1047)), some (.int v1054)]) (st' := [.int v1054]) (h' := (HX (u_s1_thicks c1052.2 q1055) T)) (cs' := 0) (sl' := 0) rfl ?_
        obtain ⟨rfl, rfl⟩ := ai_smP h
        exact ev_end rfl
set_option maxHeartbeats 40000000 in
set_option maxRecDepth 100000 in
theorem Ef_thick_0 (x1043 : Int32) (x1044 : Int32) (x1045 : Int32) (w : WX) (r : Int32) (w' : WX) (h : Ff_thick_0 x1043 x1044 x1045 w = some (r, w')) (T : ai_H) : ai_ev D1 mf_thick 0 [some (.ref 0), some (.int x1043), some (.int x1044), some (.int x1045)] [] (HX w T) 0 0 (some (.int r), HX w' T) := by
  unfold Ff_thick_0 at h
  refine ev_go 6 (pc' := 8) (L' := [some (.ref 0), some (.int x1043), some (.int x1044), some (.int x1045)]) (st' := [.int x1045, .int x1044, .int x1043, .ref 1, .ref 0]) (h' := (HX w T)) (cs' := 0) (sl' := 0) rfl ?_
  obtain ⟨c1056, hq, h⟩ := ai_bdE h
  refine ev_call (M' := msea_putThick) (L' := [some (.ref 1), some (.int x1043), some (.int x1044), some (.int x1045), none, none]) (rest := [.ref 0]) (rv := some (.int c1056.1)) (h' := (HX c1056.2 T)) rfl (Esea_putThick_1 x1043 x1044 x1045 w _ _ hq T) ?_
  show ai_ev D1 mf_thick 11 [some (.ref 0), some (.int x1043), some (.int x1044), some (.int x1045)] [.int c1056.1, .ref 0] (HX c1056.2 T) 0 0 _
  obtain ⟨c1057, hq, h⟩ := ai_bdE h
  refine ev_call (M' := mf_counted) (L' := [some (.ref 0), some (.int c1056.1)]) (rest := []) (rv := some (.int c1057.1)) (h' := (HX c1057.2 T)) rfl (Ef_counted_0 c1056.1 c1056.2 _ _ hq T) ?_
  show ai_ev D1 mf_thick 14 [some (.ref 0), some (.int x1043), some (.int x1044), some (.int x1045)] [.int c1057.1] (HX c1057.2 T) 0 0 _
  obtain ⟨rfl, rfl⟩ := ai_smP h
  exact ev_end rfl
set_option maxHeartbeats 40000000 in
set_option maxRecDepth 100000 in
theorem Esea_putSkin_1 (x1060 : Int32) (x1061 : Int32) (w : WX) (r : Int32) (w' : WX) (h : Fsea_putSkin_1 x1060 x1061 w = some (r, w')) (T : ai_H) : ai_ev D1 msea_putSkin 0 [some (.ref 1), some (.int x1060), some (.int x1061), none] [] (HX w T) 0 0 (some (.int r), HX w' T) := by
  unfold Fsea_putSkin_1 at h
  refine ev_go 3 (pc' := 3) (L' := [some (.ref 1), some (.int x1060), some (.int x1061), none]) (st' := [.int 2, .int 0, .int x1060]) (h' := (HX w T)) (cs' := 0) (sl' := 0) rfl ?_
  obtain ⟨c1062, hq, h⟩ := ai_bdE h
  refine ev_call (M' := mf_within) (L' := [some (.int x1060), some (.int 0), some (.int 2)]) (rest := []) (rv := some (.int c1062)) (h' := (HX w T)) rfl (Ef_within x1060 0 2 _ hq (HX w T)) ?_
  show ai_ev D1 msea_putSkin 6 [some (.ref 1), some (.int x1060), some (.int x1061), none] [.int c1062] (HX w T) 0 0 _
  rcases ai_ifE h with ⟨hc, h⟩ | ⟨hc, h⟩
  · refine ev_if_eq (t := 19) rfl rfl (fun _ => ?_) (fun c9 => absurd hc c9)
    refine ev_go 1 (pc' := 21) (L' := [some (.ref 1), some (.int x1060), some (.int x1061), none]) (st' := [.int (-2)]) (h' := (HX w T)) (cs' := 0) (sl' := 0) rfl ?_
    obtain ⟨rfl, rfl⟩ := ai_smP h
    exact ev_end rfl
  · refine ev_if_eq (t := 19) rfl rfl (fun c9 => absurd c9 hc) (fun _ => ?_)
    refine ev_go 3 (pc' := 13) (L' := [some (.ref 1), some (.int x1060), some (.int x1061), none]) (st' := [.int 99, .int 0, .int x1061]) (h' := (HX w T)) (cs' := 0) (sl' := 0) rfl ?_
    obtain ⟨c1063, hq, h⟩ := ai_bdE h
    refine ev_call (M' := mf_within) (L' := [some (.int x1061), some (.int 0), some (.int 99)]) (rest := []) (rv := some (.int c1063)) (h' := (HX w T)) rfl (Ef_within x1061 0 99 _ hq (HX w T)) ?_
    show ai_ev D1 msea_putSkin 16 [some (.ref 1), some (.int x1060), some (.int x1061), none] [.int c1063] (HX w T) 0 0 _
    rcases ai_ifE h with ⟨hc, h⟩ | ⟨hc, h⟩
    · refine ev_if_ne (t := 22) rfl rfl (fun c9 => absurd hc c9) (fun _ => ?_)
      refine ev_go 1 (pc' := 21) (L' := [some (.ref 1), some (.int x1060), some (.int x1061), none]) (st' := [.int (-2)]) (h' := (HX w T)) (cs' := 0) (sl' := 0) rfl ?_
      obtain ⟨rfl, rfl⟩ := ai_smP h
      exact ev_end rfl
    · refine ev_if_ne (t := 22) rfl rfl (fun _ => ?_) (fun c9 => absurd c9 hc)
      refine ev_go 3 (pc' := 27) (L' := [some (.ref 1), some (.int x1060), some (.int x1061), none]) (st' := [.int x1060, .ref 6]) (h' := (HX w T)) (cs' := 0) (sl' := 0) rfl ?_
      obtain ⟨v1064, hq, h⟩ := ai_bdE h
      refine ev_iald rfl rfl hq ?_
      refine ev_go 5 (pc' := 35) (L' := [some (.ref 1), some (.int x1060), some (.int x1061), some (.int v1064)]) (st' := [.int x1061, .int x1060, .ref 6]) (h' := (HX w T)) (cs' := 0) (sl' := 0) rfl ?_
      obtain ⟨q1065, hq, h⟩ := ai_bdE h
      refine ev_iast rfl rfl hq ?_
      rw [HXs_6]
      refine ev_go 1 (pc' := 37) (L' := [some (.ref 1), some (.int x1060), some (.int x1061), some (.int v1064)]) (st' := [.int v1064]) (h' := (HX (u_s1_skins w q1065) T)) (cs' := 0) (sl' := 0) rfl ?_
      obtain ⟨rfl, rfl⟩ := ai_smP h
      exact ev_end rfl
set_option maxHeartbeats 40000000 in
set_option maxRecDepth 100000 in
theorem Ef_skin_0 (x1058 : Int32) (x1059 : Int32) (w : WX) (r : Int32) (w' : WX) (h : Ff_skin_0 x1058 x1059 w = some (r, w')) (T : ai_H) : ai_ev D1 mf_skin 0 [some (.ref 0), some (.int x1058), some (.int x1059)] [] (HX w T) 0 0 (some (.int r), HX w' T) := by
  unfold Ff_skin_0 at h
  refine ev_go 5 (pc' := 7) (L' := [some (.ref 0), some (.int x1058), some (.int x1059)]) (st' := [.int x1059, .int x1058, .ref 1, .ref 0]) (h' := (HX w T)) (cs' := 0) (sl' := 0) rfl ?_
  obtain ⟨c1066, hq, h⟩ := ai_bdE h
  refine ev_call (M' := msea_putSkin) (L' := [some (.ref 1), some (.int x1058), some (.int x1059), none]) (rest := [.ref 0]) (rv := some (.int c1066.1)) (h' := (HX c1066.2 T)) rfl (Esea_putSkin_1 x1058 x1059 w _ _ hq T) ?_
  show ai_ev D1 mf_skin 10 [some (.ref 0), some (.int x1058), some (.int x1059)] [.int c1066.1, .ref 0] (HX c1066.2 T) 0 0 _
  obtain ⟨c1067, hq, h⟩ := ai_bdE h
  refine ev_call (M' := mf_counted) (L' := [some (.ref 0), some (.int c1066.1)]) (rest := []) (rv := some (.int c1067.1)) (h' := (HX c1067.2 T)) rfl (Ef_counted_0 c1066.1 c1066.2 _ _ hq T) ?_
  show ai_ev D1 mf_skin 13 [some (.ref 0), some (.int x1058), some (.int x1059)] [.int c1067.1] (HX c1067.2 T) 0 0 _
  obtain ⟨rfl, rfl⟩ := ai_smP h
  exact ev_end rfl
set_option maxHeartbeats 40000000 in
set_option maxRecDepth 100000 in
theorem Ef_bad_0 (x1072 : Int32) (w : WX) (r : Int32) (w' : WX) (h : Ff_bad_0 x1072 w = some (r, w')) (T : ai_H) : ai_ev D1 mf_bad 0 [some (.ref 0), some (.int x1072)] [] (HX w T) 0 0 (some (.int r), HX w' T) := by
  unfold Ff_bad_0 at h
  refine ev_go 5 (pc' := 7) (L' := [some (.ref 0), some (.int x1072)]) (st' := [.int ((a_f_refusedBad w) + 1), .ref 0]) (h' := (HX w T)) (cs' := 0) (sl' := 0) rfl ?_
  refine ev_step rfl rfl rfl (PFX_7_68_0 rfl) ?_
  refine ev_go 1 (pc' := 11) (L' := [some (.ref 0), some (.int x1072)]) (st' := [.int x1072]) (h' := (HX (u_f_refusedBad w ((a_f_refusedBad w) + 1)) T)) (cs' := 0) (sl' := 0) rfl ?_
  obtain ⟨rfl, rfl⟩ := ai_smP h
  exact ev_end rfl
set_option maxHeartbeats 40000000 in
set_option maxRecDepth 100000 in
theorem Ef_tide_0 (x1068 : Int32) (x1069 : Int32) (x1070 : Int32) (w : WX) (r : Int32) (w' : WX) (h : Ff_tide_0 x1068 x1069 x1070 w = some (r, w')) (T : ai_H) : ai_ev D1 mf_tide 0 [some (.ref 0), some (.int x1068), some (.int x1069), some (.int x1070), none, none] [] (HX w T) 0 0 (some (.int r), HX w' T) := by
  unfold Ff_tide_0 at h
  refine ev_go 1 (pc' := 1) (L' := [some (.ref 0), some (.int x1068), some (.int x1069), some (.int x1070), none, none]) (st' := [.int x1068]) (h' := (HX w T)) (cs' := 0) (sl' := 0) rfl ?_
  obtain ⟨c1071, hq, h⟩ := ai_bdE h
  refine ev_call (M' := mf_isLayer) (L' := [some (.int x1068)]) (rest := []) (rv := some (.int c1071)) (h' := (HX w T)) rfl (Ef_isLayer x1068 _ hq (HX w T)) ?_
  show ai_ev D1 mf_tide 4 [some (.ref 0), some (.int x1068), some (.int x1069), some (.int x1070), none, none] [.int c1071] (HX w T) 0 0 _
  rcases ai_ifE h with ⟨hc, h⟩ | ⟨hc, h⟩
  · refine ev_if_eq (t := 26) rfl rfl (fun _ => ?_) (fun c9 => absurd hc c9)
    refine ev_go 2 (pc' := 29) (L' := [some (.ref 0), some (.int x1068), some (.int x1069), some (.int x1070), none, none]) (st' := [.int (-10), .ref 0]) (h' := (HX w T)) (cs' := 0) (sl' := 0) rfl ?_
    obtain ⟨c1073, hq, h⟩ := ai_bdE h
    refine ev_call (M' := mf_bad) (L' := [some (.ref 0), some (.int (-10))]) (rest := []) (rv := some (.int c1073.1)) (h' := (HX c1073.2 T)) rfl (Ef_bad_0 (-10) w _ _ hq T) ?_
    show ai_ev D1 mf_tide 32 [some (.ref 0), some (.int x1068), some (.int x1069), some (.int x1070), none, none] [.int c1073.1] (HX c1073.2 T) 0 0 _
    obtain ⟨rfl, rfl⟩ := ai_smP h
    exact ev_end rfl
  · refine ev_if_eq (t := 26) rfl rfl (fun c9 => absurd c9 hc) (fun _ => ?_)
    refine ev_go 3 (pc' := 10) (L' := [some (.ref 0), some (.int x1068), some (.int x1069), some (.int x1070), none, none]) (st' := [.int 5, .int 0, .int x1069]) (h' := (HX w T)) (cs' := 0) (sl' := 0) rfl ?_
    obtain ⟨c1074, hq, h⟩ := ai_bdE h
    refine ev_call (M' := mf_within) (L' := [some (.int x1069), some (.int 0), some (.int 5)]) (rest := []) (rv := some (.int c1074)) (h' := (HX w T)) rfl (Ef_within x1069 0 5 _ hq (HX w T)) ?_
    show ai_ev D1 mf_tide 13 [some (.ref 0), some (.int x1068), some (.int x1069), some (.int x1070), none, none] [.int c1074] (HX w T) 0 0 _
    rcases ai_ifE h with ⟨hc, h⟩ | ⟨hc, h⟩
    · refine ev_if_eq (t := 26) rfl rfl (fun _ => ?_) (fun c9 => absurd hc c9)
      refine ev_go 2 (pc' := 29) (L' := [some (.ref 0), some (.int x1068), some (.int x1069), some (.int x1070), none, none]) (st' := [.int (-10), .ref 0]) (h' := (HX w T)) (cs' := 0) (sl' := 0) rfl ?_
      obtain ⟨c1075, hq, h⟩ := ai_bdE h
      refine ev_call (M' := mf_bad) (L' := [some (.ref 0), some (.int (-10))]) (rest := []) (rv := some (.int c1075.1)) (h' := (HX c1075.2 T)) rfl (Ef_bad_0 (-10) w _ _ hq T) ?_
      show ai_ev D1 mf_tide 32 [some (.ref 0), some (.int x1068), some (.int x1069), some (.int x1070), none, none] [.int c1075.1] (HX c1075.2 T) 0 0 _
      obtain ⟨rfl, rfl⟩ := ai_smP h
      exact ev_end rfl
    · refine ev_if_eq (t := 26) rfl rfl (fun c9 => absurd c9 hc) (fun _ => ?_)
      refine ev_go 3 (pc' := 20) (L' := [some (.ref 0), some (.int x1068), some (.int x1069), some (.int x1070), none, none]) (st' := [.int 2, .int (-2), .int x1070]) (h' := (HX w T)) (cs' := 0) (sl' := 0) rfl ?_
      obtain ⟨c1076, hq, h⟩ := ai_bdE h
      refine ev_call (M' := mf_within) (L' := [some (.int x1070), some (.int (-2)), some (.int 2)]) (rest := []) (rv := some (.int c1076)) (h' := (HX w T)) rfl (Ef_within x1070 (-2) 2 _ hq (HX w T)) ?_
      show ai_ev D1 mf_tide 23 [some (.ref 0), some (.int x1068), some (.int x1069), some (.int x1070), none, none] [.int c1076] (HX w T) 0 0 _
      rcases ai_ifE h with ⟨hc, h⟩ | ⟨hc, h⟩
      · refine ev_if_ne (t := 33) rfl rfl (fun c9 => absurd hc c9) (fun _ => ?_)
        refine ev_go 2 (pc' := 29) (L' := [some (.ref 0), some (.int x1068), some (.int x1069), some (.int x1070), none, none]) (st' := [.int (-10), .ref 0]) (h' := (HX w T)) (cs' := 0) (sl' := 0) rfl ?_
        obtain ⟨c1079, hq, h⟩ := ai_bdE h
        refine ev_call (M' := mf_bad) (L' := [some (.ref 0), some (.int (-10))]) (rest := []) (rv := some (.int c1079.1)) (h' := (HX c1079.2 T)) rfl (Ef_bad_0 (-10) w _ _ hq T) ?_
        show ai_ev D1 mf_tide 32 [some (.ref 0), some (.int x1068), some (.int x1069), some (.int x1070), none, none] [.int c1079.1] (HX c1079.2 T) 0 0 _
        obtain ⟨rfl, rfl⟩ := ai_smP h
        exact ev_end rfl
      · refine ev_if_ne (t := 33) rfl rfl (fun _ => ?_) (fun c9 => absurd c9 hc)
        refine ev_go 10 (pc' := 50) (L' := [some (.ref 0), some (.int x1068), some (.int x1069), some (.int x1070), some (.int ((x1068 * 6) + x1069)), none]) (st' := [.int ((x1068 * 6) + x1069), .ref 4]) (h' := (HX w T)) (cs' := 0) (sl' := 0) rfl ?_
        obtain ⟨v1077, hq, h⟩ := ai_bdE h
        refine ev_iald rfl rfl hq ?_
        refine ev_go 6 (pc' := 63) (L' := [some (.ref 0), some (.int x1068), some (.int x1069), some (.int x1070), some (.int ((x1068 * 6) + x1069)), some (.int v1077)]) (st' := [.int x1070, .int ((x1068 * 6) + x1069), .ref 4]) (h' := (HX w T)) (cs' := 0) (sl' := 0) rfl ?_
        obtain ⟨q1078, hq, h⟩ := ai_bdE h
        refine ev_iast rfl rfl hq ?_
        rw [HXs_4]
        refine ev_go 1 (pc' := 66) (L' := [some (.ref 0), some (.int x1068), some (.int x1069), some (.int x1070), some (.int ((x1068 * 6) + x1069)), some (.int v1077)]) (st' := [.int v1077]) (h' := (HX (u_s1_tides w q1078) T)) (cs' := 0) (sl' := 0) rfl ?_
        obtain ⟨rfl, rfl⟩ := ai_smP h
        exact ev_end rfl
set_option maxHeartbeats 40000000 in
set_option maxRecDepth 100000 in
theorem Ef_current_0 (x1080 : Int32) (x1081 : Int32) (w : WX) (r : Int32) (w' : WX) (h : Ff_current_0 x1080 x1081 w = some (r, w')) (T : ai_H) : ai_ev D1 mf_current 0 [some (.ref 0), some (.int x1080), some (.int x1081), none] [] (HX w T) 0 0 (some (.int r), HX w' T) := by
  unfold Ff_current_0 at h
  refine ev_go 1 (pc' := 1) (L' := [some (.ref 0), some (.int x1080), some (.int x1081), none]) (st' := [.int x1080]) (h' := (HX w T)) (cs' := 0) (sl' := 0) rfl ?_
  obtain ⟨c1082, hq, h⟩ := ai_bdE h
  refine ev_call (M' := mf_isLayer) (L' := [some (.int x1080)]) (rest := []) (rv := some (.int c1082)) (h' := (HX w T)) rfl (Ef_isLayer x1080 _ hq (HX w T)) ?_
  show ai_ev D1 mf_current 4 [some (.ref 0), some (.int x1080), some (.int x1081), none] [.int c1082] (HX w T) 0 0 _
  rcases ai_ifE h with ⟨hc, h⟩ | ⟨hc, h⟩
  · refine ev_if_eq (t := 16) rfl rfl (fun _ => ?_) (fun c9 => absurd hc c9)
    refine ev_go 2 (pc' := 19) (L' := [some (.ref 0), some (.int x1080), some (.int x1081), none]) (st' := [.int (-10), .ref 0]) (h' := (HX w T)) (cs' := 0) (sl' := 0) rfl ?_
    obtain ⟨c1083, hq, h⟩ := ai_bdE h
    refine ev_call (M' := mf_bad) (L' := [some (.ref 0), some (.int (-10))]) (rest := []) (rv := some (.int c1083.1)) (h' := (HX c1083.2 T)) rfl (Ef_bad_0 (-10) w _ _ hq T) ?_
    show ai_ev D1 mf_current 22 [some (.ref 0), some (.int x1080), some (.int x1081), none] [.int c1083.1] (HX c1083.2 T) 0 0 _
    obtain ⟨rfl, rfl⟩ := ai_smP h
    exact ev_end rfl
  · refine ev_if_eq (t := 16) rfl rfl (fun c9 => absurd c9 hc) (fun _ => ?_)
    refine ev_go 3 (pc' := 10) (L' := [some (.ref 0), some (.int x1080), some (.int x1081), none]) (st' := [.int 1, .int (-1), .int x1081]) (h' := (HX w T)) (cs' := 0) (sl' := 0) rfl ?_
    obtain ⟨c1084, hq, h⟩ := ai_bdE h
    refine ev_call (M' := mf_within) (L' := [some (.int x1081), some (.int (-1)), some (.int 1)]) (rest := []) (rv := some (.int c1084)) (h' := (HX w T)) rfl (Ef_within x1081 (-1) 1 _ hq (HX w T)) ?_
    show ai_ev D1 mf_current 13 [some (.ref 0), some (.int x1080), some (.int x1081), none] [.int c1084] (HX w T) 0 0 _
    rcases ai_ifE h with ⟨hc, h⟩ | ⟨hc, h⟩
    · refine ev_if_ne (t := 23) rfl rfl (fun c9 => absurd hc c9) (fun _ => ?_)
      refine ev_go 2 (pc' := 19) (L' := [some (.ref 0), some (.int x1080), some (.int x1081), none]) (st' := [.int (-10), .ref 0]) (h' := (HX w T)) (cs' := 0) (sl' := 0) rfl ?_
      obtain ⟨c1087, hq, h⟩ := ai_bdE h
      refine ev_call (M' := mf_bad) (L' := [some (.ref 0), some (.int (-10))]) (rest := []) (rv := some (.int c1087.1)) (h' := (HX c1087.2 T)) rfl (Ef_bad_0 (-10) w _ _ hq T) ?_
      show ai_ev D1 mf_current 22 [some (.ref 0), some (.int x1080), some (.int x1081), none] [.int c1087.1] (HX c1087.2 T) 0 0 _
      obtain ⟨rfl, rfl⟩ := ai_smP h
      exact ev_end rfl
    · refine ev_if_ne (t := 23) rfl rfl (fun _ => ?_) (fun c9 => absurd c9 hc)
      refine ev_go 4 (pc' := 31) (L' := [some (.ref 0), some (.int x1080), some (.int x1081), none]) (st' := [.int x1080, .ref 3]) (h' := (HX w T)) (cs' := 0) (sl' := 0) rfl ?_
      obtain ⟨v1085, hq, h⟩ := ai_bdE h
      refine ev_iald rfl rfl hq ?_
      refine ev_go 6 (pc' := 42) (L' := [some (.ref 0), some (.int x1080), some (.int x1081), some (.int v1085)]) (st' := [.int x1081, .int x1080, .ref 3]) (h' := (HX w T)) (cs' := 0) (sl' := 0) rfl ?_
      obtain ⟨q1086, hq, h⟩ := ai_bdE h
      refine ev_iast rfl rfl hq ?_
      rw [HXs_3]
      refine ev_go 1 (pc' := 44) (L' := [some (.ref 0), some (.int x1080), some (.int x1081), some (.int v1085)]) (st' := [.int v1085]) (h' := (HX (u_s1_currents w q1086) T)) (cs' := 0) (sl' := 0) rfl ?_
      obtain ⟨rfl, rfl⟩ := ai_smP h
      exact ev_end rfl
set_option maxHeartbeats 40000000 in
set_option maxRecDepth 100000 in
theorem Ethg_add_7 (x1091 : Int32) (x1092 : Int32) (x1093 : Int32) (w : WX) (r : Int32) (w' : WX) (h : Fthg_add_7 x1091 x1092 x1093 w = some (r, w')) (T : ai_H) : ai_ev D1 mthg_add 0 [some (.ref 7), some (.int x1091), some (.int x1092), some (.int x1093)] [] (HX w T) 0 0 (some (.int r), HX w' T) := by
  unfold Fthg_add_7 at h
  refine ev_go 3 (pc' := 3) (L' := [some (.ref 7), some (.int x1091), some (.int x1092), some (.int x1093)]) (st' := [.int 5, .int 0, .int x1091]) (h' := (HX w T)) (cs' := 0) (sl' := 0) rfl ?_
  obtain ⟨c1094, hq, h⟩ := ai_bdE h
  refine ev_call (M' := mf_within) (L' := [some (.int x1091), some (.int 0), some (.int 5)]) (rest := []) (rv := some (.int c1094)) (h' := (HX w T)) rfl (Ef_within x1091 0 5 _ hq (HX w T)) ?_
  show ai_ev D1 mthg_add 6 [some (.ref 7), some (.int x1091), some (.int x1092), some (.int x1093)] [.int c1094] (HX w T) 0 0 _
  rcases ai_ifE h with ⟨hc, h⟩ | ⟨hc, h⟩
  · refine ev_if_eq (t := 29) rfl rfl (fun _ => ?_) (fun c9 => absurd hc c9)
    refine ev_go 1 (pc' := 31) (L' := [some (.ref 7), some (.int x1091), some (.int x1092), some (.int x1093)]) (st' := [.int (-2)]) (h' := (HX w T)) (cs' := 0) (sl' := 0) rfl ?_
    obtain ⟨rfl, rfl⟩ := ai_smP h
    exact ev_end rfl
  · refine ev_if_eq (t := 29) rfl rfl (fun c9 => absurd c9 hc) (fun _ => ?_)
    refine ev_go 3 (pc' := 13) (L' := [some (.ref 7), some (.int x1091), some (.int x1092), some (.int x1093)]) (st' := [.int 99, .int 1, .int x1092]) (h' := (HX w T)) (cs' := 0) (sl' := 0) rfl ?_
    obtain ⟨c1095, hq, h⟩ := ai_bdE h
    refine ev_call (M' := mf_within) (L' := [some (.int x1092), some (.int 1), some (.int 99)]) (rest := []) (rv := some (.int c1095)) (h' := (HX w T)) rfl (Ef_within x1092 1 99 _ hq (HX w T)) ?_
    show ai_ev D1 mthg_add 16 [some (.ref 7), some (.int x1091), some (.int x1092), some (.int x1093)] [.int c1095] (HX w T) 0 0 _
    rcases ai_ifE h with ⟨hc, h⟩ | ⟨hc, h⟩
    · refine ev_if_eq (t := 29) rfl rfl (fun _ => ?_) (fun c9 => absurd hc c9)
      refine ev_go 1 (pc' := 31) (L' := [some (.ref 7), some (.int x1091), some (.int x1092), some (.int x1093)]) (st' := [.int (-2)]) (h' := (HX w T)) (cs' := 0) (sl' := 0) rfl ?_
      obtain ⟨rfl, rfl⟩ := ai_smP h
      exact ev_end rfl
    · refine ev_if_eq (t := 29) rfl rfl (fun c9 => absurd c9 hc) (fun _ => ?_)
      refine ev_go 3 (pc' := 23) (L' := [some (.ref 7), some (.int x1091), some (.int x1092), some (.int x1093)]) (st' := [.int 9, .int 1, .int x1093]) (h' := (HX w T)) (cs' := 0) (sl' := 0) rfl ?_
      obtain ⟨c1096, hq, h⟩ := ai_bdE h
      refine ev_call (M' := mf_within) (L' := [some (.int x1093), some (.int 1), some (.int 9)]) (rest := []) (rv := some (.int c1096)) (h' := (HX w T)) rfl (Ef_within x1093 1 9 _ hq (HX w T)) ?_
      show ai_ev D1 mthg_add 26 [some (.ref 7), some (.int x1091), some (.int x1092), some (.int x1093)] [.int c1096] (HX w T) 0 0 _
      rcases ai_ifE h with ⟨hc, h⟩ | ⟨hc, h⟩
      · refine ev_if_ne (t := 32) rfl rfl (fun c9 => absurd hc c9) (fun _ => ?_)
        refine ev_go 1 (pc' := 31) (L' := [some (.ref 7), some (.int x1091), some (.int x1092), some (.int x1093)]) (st' := [.int (-2)]) (h' := (HX w T)) (cs' := 0) (sl' := 0) rfl ?_
        obtain ⟨rfl, rfl⟩ := ai_smP h
        exact ev_end rfl
      · refine ev_if_ne (t := 32) rfl rfl (fun _ => ?_) (fun c9 => absurd c9 hc)
        refine ev_go 3 (pc' := 38) (L' := [some (.ref 7), some (.int x1091), some (.int x1092), some (.int x1093)]) (st' := [.int 6, .int (a_s1things_count w)]) (h' := (HX w T)) (cs' := 0) (sl' := 0) rfl ?_
        rcases ai_ifE h with ⟨hc, h⟩ | ⟨hc, h⟩
        · refine ev_ic_lt (t := 44) rfl rfl (fun _ => ?_) (fun c9 => absurd hc c9)
          refine ev_go 5 (pc' := 53) (L' := [some (.ref 7), some (.int x1091), some (.int x1092), some (.int x1093)]) (st' := [.int x1091, .int (a_s1things_count w), .ref 8]) (h' := (HX w T)) (cs' := 0) (sl' := 0) rfl ?_
          obtain ⟨q1097, hq, h⟩ := ai_bdE h
          refine ev_iast rfl rfl hq ?_
          rw [HXs_8]
          refine ev_go 5 (pc' := 63) (L' := [some (.ref 7), some (.int x1091), some (.int x1092), some (.int x1093)]) (st' := [.int x1092, .int (a_s1things_count w), .ref 9]) (h' := (HX (u_s1things_kinds w q1097) T)) (cs' := 0) (sl' := 0) rfl ?_
          obtain ⟨q1098, hq, h⟩ := ai_bdE h
          refine ev_iast rfl rfl hq ?_
          rw [HXs_9]
          refine ev_go 5 (pc' := 73) (L' := [some (.ref 7), some (.int x1091), some (.int x1092), some (.int x1093)]) (st' := [.int x1093, .int (a_s1things_count w), .ref 10]) (h' := (HX (u_s1things_weights (u_s1things_kinds w q1097) q1098) T)) (cs' := 0) (sl' := 0) rfl ?_
          obtain ⟨q1099, hq, h⟩ := ai_bdE h
          refine ev_iast rfl rfl hq ?_
          rw [HXs_10]
          refine ev_go 5 (pc' := 83) (L' := [some (.ref 7), some (.int x1091), some (.int x1092), some (.int x1093)]) (st' := [.int 0, .int (a_s1things_count w), .ref 11]) (h' := (HX (u_s1things_volumes (u_s1things_weights (u_s1things_kinds w q1097) q1098) q1099) T)) (cs' := 0) (sl' := 0) rfl ?_
          obtain ⟨q1100, hq, h⟩ := ai_bdE h
          refine ev_iast rfl rfl hq ?_
          rw [HXs_11]
          refine ev_go 6 (pc' := 92) (L' := [some (.ref 7), some (.int x1091), some (.int x1092), some (.int x1093)]) (st' := [.int ((a_s1things_count w) + 1), .ref 7, .int (a_s1things_count w)]) (h' := (HX (u_s1things_ballasts (u_s1things_volumes (u_s1things_weights (u_s1things_kinds w q1097) q1098) q1099) q1100) T)) (cs' := 0) (sl' := 0) rfl ?_
          refine ev_step rfl rfl rfl (PFX_5_9_7 rfl) ?_
          obtain ⟨rfl, rfl⟩ := ai_smP h
          exact ev_end rfl
        · refine ev_ic_lt (t := 44) rfl rfl (fun c9 => absurd c9 hc) (fun _ => ?_)
          refine ev_go 1 (pc' := 43) (L' := [some (.ref 7), some (.int x1091), some (.int x1092), some (.int x1093)]) (st' := [.int (-4)]) (h' := (HX w T)) (cs' := 0) (sl' := 0) rfl ?_
          obtain ⟨rfl, rfl⟩ := ai_smP h
          exact ev_end rfl
set_option maxHeartbeats 40000000 in
set_option maxRecDepth 100000 in
theorem Ef_thing_0 (x1088 : Int32) (x1089 : Int32) (x1090 : Int32) (w : WX) (r : Int32) (w' : WX) (h : Ff_thing_0 x1088 x1089 x1090 w = some (r, w')) (T : ai_H) : ai_ev D1 mf_thing 0 [some (.ref 0), some (.int x1088), some (.int x1089), some (.int x1090)] [] (HX w T) 0 0 (some (.int r), HX w' T) := by
  unfold Ff_thing_0 at h
  refine ev_go 7 (pc' := 11) (L' := [some (.ref 0), some (.int x1088), some (.int x1089), some (.int x1090)]) (st' := [.int x1090, .int x1089, .int x1088, .ref 7, .ref 0]) (h' := (HX w T)) (cs' := 0) (sl' := 0) rfl ?_
  obtain ⟨c1101, hq, h⟩ := ai_bdE h
  refine ev_call (M' := mthg_add) (L' := [some (.ref 7), some (.int x1088), some (.int x1089), some (.int x1090)]) (rest := [.ref 0]) (rv := some (.int c1101.1)) (h' := (HX c1101.2 T)) rfl (Ethg_add_7 x1088 x1089 x1090 w _ _ hq T) ?_
  show ai_ev D1 mf_thing 14 [some (.ref 0), some (.int x1088), some (.int x1089), some (.int x1090)] [.int c1101.1, .ref 0] (HX c1101.2 T) 0 0 _
  obtain ⟨c1102, hq, h⟩ := ai_bdE h
  refine ev_call (M' := mf_counted) (L' := [some (.ref 0), some (.int c1101.1)]) (rest := []) (rv := some (.int c1102.1)) (h' := (HX c1102.2 T)) rfl (Ef_counted_0 c1101.1 c1101.2 _ _ hq T) ?_
  show ai_ev D1 mf_thing 17 [some (.ref 0), some (.int x1088), some (.int x1089), some (.int x1090)] [.int c1102.1] (HX c1102.2 T) 0 0 _
  obtain ⟨rfl, rfl⟩ := ai_smP h
  exact ev_end rfl
set_option maxHeartbeats 40000000 in
set_option maxRecDepth 100000 in
theorem Ethg_has_7 (x1105 : Int32) (w : WX) (r : Int32) (w' : WX) (h : Fthg_has_7 x1105 w = some (r, w')) (T : ai_H) : ai_ev D1 mthg_has 0 [some (.ref 7), some (.int x1105)] [] (HX w T) 0 0 (some (.int r), HX w' T) := by
  unfold Fthg_has_7 at h
  refine ev_go 6 (pc' := 8) (L' := [some (.ref 7), some (.int x1105)]) (st' := [.int ((a_s1things_count w) - 1), .int 0, .int x1105]) (h' := (HX w T)) (cs' := 0) (sl' := 0) rfl ?_
  obtain ⟨c1106, hq, h⟩ := ai_bdE h
  refine ev_call (M' := mf_within) (L' := [some (.int x1105), some (.int 0), some (.int ((a_s1things_count w) - 1))]) (rest := []) (rv := some (.int c1106)) (h' := (HX w T)) rfl (Ef_within x1105 0 ((a_s1things_count w) - 1) _ hq (HX w T)) ?_
  show ai_ev D1 mthg_has 11 [some (.ref 7), some (.int x1105)] [.int c1106] (HX w T) 0 0 _
  obtain ⟨hv, h⟩ := ai_ifS h
  obtain ⟨rfl, rfl⟩ := ai_smP h
  exact ev_zend rfl rfl rfl hv
set_option maxHeartbeats 40000000 in
set_option maxRecDepth 100000 in
theorem Ef_ballast_0 (x1103 : Int32) (x1104 : Int32) (w : WX) (r : Int32) (w' : WX) (h : Ff_ballast_0 x1103 x1104 w = some (r, w')) (T : ai_H) : ai_ev D1 mf_ballast 0 [some (.ref 0), some (.int x1103), some (.int x1104), none] [] (HX w T) 0 0 (some (.int r), HX w' T) := by
  unfold Ff_ballast_0 at h
  refine ev_go 4 (pc' := 8) (L' := [some (.ref 0), some (.int x1103), some (.int x1104), none]) (st' := [.int x1103, .ref 7]) (h' := (HX w T)) (cs' := 0) (sl' := 0) rfl ?_
  obtain ⟨c1107, hq, h⟩ := ai_bdE h
  refine ev_call (M' := mthg_has) (L' := [some (.ref 7), some (.int x1103)]) (rest := []) (rv := some (.int c1107.1)) (h' := (HX c1107.2 T)) rfl (Ethg_has_7 x1103 w _ _ hq T) ?_
  show ai_ev D1 mf_ballast 11 [some (.ref 0), some (.int x1103), some (.int x1104), none] [.int c1107.1] (HX c1107.2 T) 0 0 _
  rcases ai_ifE h with ⟨hc, h⟩ | ⟨hc, h⟩
  · refine ev_if_eq (t := 24) rfl rfl (fun _ => ?_) (fun c9 => absurd hc c9)
    refine ev_go 2 (pc' := 27) (L' := [some (.ref 0), some (.int x1103), some (.int x1104), none]) (st' := [.int (-2), .ref 0]) (h' := (HX c1107.2 T)) (cs' := 0) (sl' := 0) rfl ?_
    obtain ⟨c1108, hq, h⟩ := ai_bdE h
    refine ev_call (M' := mf_bad) (L' := [some (.ref 0), some (.int (-2))]) (rest := []) (rv := some (.int c1108.1)) (h' := (HX c1108.2 T)) rfl (Ef_bad_0 (-2) c1107.2 _ _ hq T) ?_
    show ai_ev D1 mf_ballast 30 [some (.ref 0), some (.int x1103), some (.int x1104), none] [.int c1108.1] (HX c1108.2 T) 0 0 _
    obtain ⟨rfl, rfl⟩ := ai_smP h
    exact ev_end rfl
  · refine ev_if_eq (t := 24) rfl rfl (fun c9 => absurd c9 hc) (fun _ => ?_)
    refine ev_go 3 (pc' := 18) (L' := [some (.ref 0), some (.int x1103), some (.int x1104), none]) (st' := [.int 99, .int 0, .int x1104]) (h' := (HX c1107.2 T)) (cs' := 0) (sl' := 0) rfl ?_
    obtain ⟨c1109, hq, h⟩ := ai_bdE h
    refine ev_call (M' := mf_within) (L' := [some (.int x1104), some (.int 0), some (.int 99)]) (rest := []) (rv := some (.int c1109)) (h' := (HX c1107.2 T)) rfl (Ef_within x1104 0 99 _ hq (HX c1107.2 T)) ?_
    show ai_ev D1 mf_ballast 21 [some (.ref 0), some (.int x1103), some (.int x1104), none] [.int c1109] (HX c1107.2 T) 0 0 _
    rcases ai_ifE h with ⟨hc, h⟩ | ⟨hc, h⟩
    · refine ev_if_ne (t := 31) rfl rfl (fun c9 => absurd hc c9) (fun _ => ?_)
      refine ev_go 2 (pc' := 27) (L' := [some (.ref 0), some (.int x1103), some (.int x1104), none]) (st' := [.int (-2), .ref 0]) (h' := (HX c1107.2 T)) (cs' := 0) (sl' := 0) rfl ?_
      obtain ⟨c1112, hq, h⟩ := ai_bdE h
      refine ev_call (M' := mf_bad) (L' := [some (.ref 0), some (.int (-2))]) (rest := []) (rv := some (.int c1112.1)) (h' := (HX c1112.2 T)) rfl (Ef_bad_0 (-2) c1107.2 _ _ hq T) ?_
      show ai_ev D1 mf_ballast 30 [some (.ref 0), some (.int x1103), some (.int x1104), none] [.int c1112.1] (HX c1112.2 T) 0 0 _
      obtain ⟨rfl, rfl⟩ := ai_smP h
      exact ev_end rfl
    · refine ev_if_ne (t := 31) rfl rfl (fun _ => ?_) (fun c9 => absurd c9 hc)
      refine ev_go 5 (pc' := 42) (L' := [some (.ref 0), some (.int x1103), some (.int x1104), none]) (st' := [.int x1103, .ref 11]) (h' := (HX c1107.2 T)) (cs' := 0) (sl' := 0) rfl ?_
      obtain ⟨v1110, hq, h⟩ := ai_bdE h
      refine ev_iald rfl rfl hq ?_
      refine ev_go 7 (pc' := 56) (L' := [some (.ref 0), some (.int x1103), some (.int x1104), some (.int v1110)]) (st' := [.int x1104, .int x1103, .ref 11]) (h' := (HX c1107.2 T)) (cs' := 0) (sl' := 0) rfl ?_
      obtain ⟨q1111, hq, h⟩ := ai_bdE h
      refine ev_iast rfl rfl hq ?_
      rw [HXs_11]
      refine ev_go 1 (pc' := 58) (L' := [some (.ref 0), some (.int x1103), some (.int x1104), some (.int v1110)]) (st' := [.int v1110]) (h' := (HX (u_s1things_ballasts c1107.2 q1111) T)) (cs' := 0) (sl' := 0) rfl ?_
      obtain ⟨rfl, rfl⟩ := ai_smP h
      exact ev_end rfl
set_option maxHeartbeats 40000000 in
set_option maxRecDepth 100000 in
theorem Esea_hasPlace_1 (x1119 : Int32) (w : WX) (r : Int32) (w' : WX) (h : Fsea_hasPlace_1 x1119 w = some (r, w')) (T : ai_H) : ai_ev D1 msea_hasPlace 0 [some (.ref 1), some (.int x1119)] [] (HX w T) 0 0 (some (.int r), HX w' T) := by
  unfold Fsea_hasPlace_1 at h
  refine ev_go 1 (pc' := 1) (L' := [some (.ref 1), some (.int x1119)]) (st' := [.int x1119]) (h' := (HX w T)) (cs' := 0) (sl' := 0) rfl ?_
  rcases ai_ifE h with ⟨hc, h⟩ | ⟨hc, h⟩
  · refine ev_if_lt (t := 29) rfl rfl (fun _ => ?_) (fun c9 => absurd hc c9)
    refine ev_go 1 (pc' := 30) (L' := [some (.ref 1), some (.int x1119)]) (st' := [.int 0]) (h' := (HX w T)) (cs' := 0) (sl' := 0) rfl ?_
    obtain ⟨rfl, rfl⟩ := ai_smP h
    exact ev_end rfl
  · refine ev_if_lt (t := 29) rfl rfl (fun c9 => absurd c9 hc) (fun _ => ?_)
    refine ev_go 4 (pc' := 9) (L' := [some (.ref 1), some (.int x1119)]) (st' := [.int (x1119 / 10), .ref 1]) (h' := (HX w T)) (cs' := 0) (sl' := 0) rfl ?_
    obtain ⟨c1120, hq, h⟩ := ai_bdE h
    refine ev_call (M' := msea_hasCell) (L' := [some (.ref 1), some (.int (x1119 / 10))]) (rest := []) (rv := some (.int c1120.1)) (h' := (HX c1120.2 T)) rfl (Esea_hasCell_1 (x1119 / 10) w _ _ hq T) ?_
    show ai_ev D1 msea_hasPlace 12 [some (.ref 1), some (.int x1119)] [.int c1120.1] (HX c1120.2 T) 0 0 _
    rcases ai_ifE h with ⟨hc, h⟩ | ⟨hc, h⟩
    · refine ev_if_eq (t := 29) rfl rfl (fun _ => ?_) (fun c9 => absurd hc c9)
      refine ev_go 1 (pc' := 30) (L' := [some (.ref 1), some (.int x1119)]) (st' := [.int 0]) (h' := (HX c1120.2 T)) (cs' := 0) (sl' := 0) rfl ?_
      obtain ⟨rfl, rfl⟩ := ai_smP h
      exact ev_end rfl
    · refine ev_if_eq (t := 29) rfl rfl (fun c9 => absurd c9 hc) (fun _ => ?_)
      refine ev_go 3 (pc' := 19) (L' := [some (.ref 1), some (.int x1119)]) (st' := [.int (x1119 - x1119 / 10 * 10)]) (h' := (HX c1120.2 T)) (cs' := 0) (sl' := 0) rfl ?_
      obtain ⟨c1121, hq, h⟩ := ai_bdE h
      refine ev_call (M' := mf_isLayer) (L' := [some (.int (x1119 - x1119 / 10 * 10))]) (rest := []) (rv := some (.int c1121)) (h' := (HX c1120.2 T)) rfl (Ef_isLayer (x1119 - x1119 / 10 * 10) _ hq (HX c1120.2 T)) ?_
      show ai_ev D1 msea_hasPlace 22 [some (.ref 1), some (.int x1119)] [.int c1121] (HX c1120.2 T) 0 0 _
      rcases ai_ifE h with ⟨hc, h⟩ | ⟨hc, h⟩
      · refine ev_if_eq (t := 29) rfl rfl (fun _ => ?_) (fun c9 => absurd hc c9)
        refine ev_go 1 (pc' := 30) (L' := [some (.ref 1), some (.int x1119)]) (st' := [.int 0]) (h' := (HX c1120.2 T)) (cs' := 0) (sl' := 0) rfl ?_
        obtain ⟨rfl, rfl⟩ := ai_smP h
        exact ev_end rfl
      · refine ev_if_eq (t := 29) rfl rfl (fun c9 => absurd c9 hc) (fun _ => ?_)
        refine ev_go 2 (pc' := 30) (L' := [some (.ref 1), some (.int x1119)]) (st' := [.int 1]) (h' := (HX c1120.2 T)) (cs' := 0) (sl' := 0) rfl ?_
        obtain ⟨rfl, rfl⟩ := ai_smP h
        exact ev_end rfl
set_option maxHeartbeats 40000000 in
set_option maxRecDepth 100000 in
theorem Elift_add_12 (x1125 : Int32) (x1126 : Int32) (x1127 : Int32) (w : WX) (r : Int32) (w' : WX) (h : Flift_add_12 x1125 x1126 x1127 w = some (r, w')) (T : ai_H) : ai_ev D1 mlift_add 0 [some (.ref 12), some (.int x1125), some (.int x1126), some (.int x1127)] [] (HX w T) 0 0 (some (.int r), HX w' T) := by
  unfold Flift_add_12 at h
  refine ev_go 3 (pc' := 6) (L' := [some (.ref 12), some (.int x1125), some (.int x1126), some (.int x1127)]) (st' := [.int 10, .int (a_s1lifts_count w)]) (h' := (HX w T)) (cs' := 0) (sl' := 0) rfl ?_
  rcases ai_ifE h with ⟨hc, h⟩ | ⟨hc, h⟩
  · refine ev_ic_lt (t := 12) rfl rfl (fun _ => ?_) (fun c9 => absurd hc c9)
    refine ev_go 5 (pc' := 21) (L' := [some (.ref 12), some (.int x1125), some (.int x1126), some (.int x1127)]) (st' := [.int x1125, .int (a_s1lifts_count w), .ref 13]) (h' := (HX w T)) (cs' := 0) (sl' := 0) rfl ?_
    obtain ⟨q1128, hq, h⟩ := ai_bdE h
    refine ev_iast rfl rfl hq ?_
    rw [HXs_13]
    refine ev_go 5 (pc' := 31) (L' := [some (.ref 12), some (.int x1125), some (.int x1126), some (.int x1127)]) (st' := [.int x1126, .int (a_s1lifts_count w), .ref 14]) (h' := (HX (u_s1lifts_froms w q1128) T)) (cs' := 0) (sl' := 0) rfl ?_
    obtain ⟨q1129, hq, h⟩ := ai_bdE h
    refine ev_iast rfl rfl hq ?_
    rw [HXs_14]
    refine ev_go 5 (pc' := 41) (L' := [some (.ref 12), some (.int x1125), some (.int x1126), some (.int x1127)]) (st' := [.int x1127, .int (a_s1lifts_count w), .ref 15]) (h' := (HX (u_s1lifts_tos (u_s1lifts_froms w q1128) q1129) T)) (cs' := 0) (sl' := 0) rfl ?_
    obtain ⟨q1130, hq, h⟩ := ai_bdE h
    refine ev_iast rfl rfl hq ?_
    rw [HXs_15]
    refine ev_go 6 (pc' := 50) (L' := [some (.ref 12), some (.int x1125), some (.int x1126), some (.int x1127)]) (st' := [.int ((a_s1lifts_count w) + 1), .ref 12, .int (a_s1lifts_count w)]) (h' := (HX (u_s1lifts_times (u_s1lifts_tos (u_s1lifts_froms w q1128) q1129) q1130) T)) (cs' := 0) (sl' := 0) rfl ?_
    refine ev_step rfl rfl rfl (PFX_1_9_12 rfl) ?_
    obtain ⟨rfl, rfl⟩ := ai_smP h
    exact ev_end rfl
  · refine ev_ic_lt (t := 12) rfl rfl (fun c9 => absurd c9 hc) (fun _ => ?_)
    refine ev_go 1 (pc' := 11) (L' := [some (.ref 12), some (.int x1125), some (.int x1126), some (.int x1127)]) (st' := [.int (-4)]) (h' := (HX w T)) (cs' := 0) (sl' := 0) rfl ?_
    obtain ⟨rfl, rfl⟩ := ai_smP h
    exact ev_end rfl
set_option maxHeartbeats 40000000 in
set_option maxRecDepth 100000 in
theorem Esea_addLift_1 (x1116 : Int32) (x1117 : Int32) (x1118 : Int32) (w : WX) (r : Int32) (w' : WX) (h : Fsea_addLift_1 x1116 x1117 x1118 w = some (r, w')) (T : ai_H) : ai_ev D1 msea_addLift 0 [some (.ref 1), some (.int x1116), some (.int x1117), some (.int x1118)] [] (HX w T) 0 0 (some (.int r), HX w' T) := by
  unfold Fsea_addLift_1 at h
  refine ev_go 2 (pc' := 2) (L' := [some (.ref 1), some (.int x1116), some (.int x1117), some (.int x1118)]) (st' := [.int x1116, .ref 1]) (h' := (HX w T)) (cs' := 0) (sl' := 0) rfl ?_
  obtain ⟨c1122, hq, h⟩ := ai_bdE h
  refine ev_call (M' := msea_hasPlace) (L' := [some (.ref 1), some (.int x1116)]) (rest := []) (rv := some (.int c1122.1)) (h' := (HX c1122.2 T)) rfl (Esea_hasPlace_1 x1116 w _ _ hq T) ?_
  show ai_ev D1 msea_addLift 5 [some (.ref 1), some (.int x1116), some (.int x1117), some (.int x1118)] [.int c1122.1] (HX c1122.2 T) 0 0 _
  rcases ai_ifE h with ⟨hc, h⟩ | ⟨hc, h⟩
  · refine ev_if_eq (t := 31) rfl rfl (fun _ => ?_) (fun c9 => absurd hc c9)
    refine ev_go 1 (pc' := 33) (L' := [some (.ref 1), some (.int x1116), some (.int x1117), some (.int x1118)]) (st' := [.int (-2)]) (h' := (HX c1122.2 T)) (cs' := 0) (sl' := 0) rfl ?_
    obtain ⟨rfl, rfl⟩ := ai_smP h
    exact ev_end rfl
  · refine ev_if_eq (t := 31) rfl rfl (fun c9 => absurd c9 hc) (fun _ => ?_)
    refine ev_go 2 (pc' := 10) (L' := [some (.ref 1), some (.int x1116), some (.int x1117), some (.int x1118)]) (st' := [.int x1117, .ref 1]) (h' := (HX c1122.2 T)) (cs' := 0) (sl' := 0) rfl ?_
    obtain ⟨c1123, hq, h⟩ := ai_bdE h
    refine ev_call (M' := msea_hasPlace) (L' := [some (.ref 1), some (.int x1117)]) (rest := []) (rv := some (.int c1123.1)) (h' := (HX c1123.2 T)) rfl (Esea_hasPlace_1 x1117 c1122.2 _ _ hq T) ?_
    show ai_ev D1 msea_addLift 13 [some (.ref 1), some (.int x1116), some (.int x1117), some (.int x1118)] [.int c1123.1] (HX c1123.2 T) 0 0 _
    rcases ai_ifE h with ⟨hc, h⟩ | ⟨hc, h⟩
    · refine ev_if_eq (t := 31) rfl rfl (fun _ => ?_) (fun c9 => absurd hc c9)
      refine ev_go 1 (pc' := 33) (L' := [some (.ref 1), some (.int x1116), some (.int x1117), some (.int x1118)]) (st' := [.int (-2)]) (h' := (HX c1123.2 T)) (cs' := 0) (sl' := 0) rfl ?_
      obtain ⟨rfl, rfl⟩ := ai_smP h
      exact ev_end rfl
    · refine ev_if_eq (t := 31) rfl rfl (fun c9 => absurd c9 hc) (fun _ => ?_)
      refine ev_go 2 (pc' := 18) (L' := [some (.ref 1), some (.int x1116), some (.int x1117), some (.int x1118)]) (st' := [.int x1117, .int x1116]) (h' := (HX c1123.2 T)) (cs' := 0) (sl' := 0) rfl ?_
      rcases ai_ifE h with ⟨hc, h⟩ | ⟨hc, h⟩
      · refine ev_ic_eq (t := 31) rfl rfl (fun _ => ?_) (fun c9 => absurd hc c9)
        refine ev_go 1 (pc' := 33) (L' := [some (.ref 1), some (.int x1116), some (.int x1117), some (.int x1118)]) (st' := [.int (-2)]) (h' := (HX c1123.2 T)) (cs' := 0) (sl' := 0) rfl ?_
        obtain ⟨rfl, rfl⟩ := ai_smP h
        exact ev_end rfl
      · refine ev_ic_eq (t := 31) rfl rfl (fun c9 => absurd c9 hc) (fun _ => ?_)
        refine ev_go 3 (pc' := 25) (L' := [some (.ref 1), some (.int x1116), some (.int x1117), some (.int x1118)]) (st' := [.int 9, .int 1, .int x1118]) (h' := (HX c1123.2 T)) (cs' := 0) (sl' := 0) rfl ?_
        obtain ⟨c1124, hq, h⟩ := ai_bdE h
        refine ev_call (M' := mf_within) (L' := [some (.int x1118), some (.int 1), some (.int 9)]) (rest := []) (rv := some (.int c1124)) (h' := (HX c1123.2 T)) rfl (Ef_within x1118 1 9 _ hq (HX c1123.2 T)) ?_
        show ai_ev D1 msea_addLift 28 [some (.ref 1), some (.int x1116), some (.int x1117), some (.int x1118)] [.int c1124] (HX c1123.2 T) 0 0 _
        rcases ai_ifE h with ⟨hc, h⟩ | ⟨hc, h⟩
        · refine ev_if_ne (t := 34) rfl rfl (fun c9 => absurd hc c9) (fun _ => ?_)
          refine ev_go 1 (pc' := 33) (L' := [some (.ref 1), some (.int x1116), some (.int x1117), some (.int x1118)]) (st' := [.int (-2)]) (h' := (HX c1123.2 T)) (cs' := 0) (sl' := 0) rfl ?_
          obtain ⟨rfl, rfl⟩ := ai_smP h
          exact ev_end rfl
        · refine ev_if_ne (t := 34) rfl rfl (fun _ => ?_) (fun c9 => absurd c9 hc)
          refine ev_go 5 (pc' := 41) (L' := [some (.ref 1), some (.int x1116), some (.int x1117), some (.int x1118)]) (st' := [.int x1118, .int x1117, .int x1116, .ref 12]) (h' := (HX c1123.2 T)) (cs' := 0) (sl' := 0) rfl ?_
          obtain ⟨c1131, hq, h⟩ := ai_bdE h
          refine ev_call (M' := mlift_add) (L' := [some (.ref 12), some (.int x1116), some (.int x1117), some (.int x1118)]) (rest := []) (rv := some (.int c1131.1)) (h' := (HX c1131.2 T)) rfl (Elift_add_12 x1116 x1117 x1118 c1123.2 _ _ hq T) ?_
          show ai_ev D1 msea_addLift 44 [some (.ref 1), some (.int x1116), some (.int x1117), some (.int x1118)] [.int c1131.1] (HX c1131.2 T) 0 0 _
          obtain ⟨rfl, rfl⟩ := ai_smP h
          exact ev_end rfl
set_option maxHeartbeats 40000000 in
set_option maxRecDepth 100000 in
theorem Ef_lift_0 (x1113 : Int32) (x1114 : Int32) (x1115 : Int32) (w : WX) (r : Int32) (w' : WX) (h : Ff_lift_0 x1113 x1114 x1115 w = some (r, w')) (T : ai_H) : ai_ev D1 mf_lift 0 [some (.ref 0), some (.int x1113), some (.int x1114), some (.int x1115)] [] (HX w T) 0 0 (some (.int r), HX w' T) := by
  unfold Ff_lift_0 at h
  refine ev_go 6 (pc' := 8) (L' := [some (.ref 0), some (.int x1113), some (.int x1114), some (.int x1115)]) (st' := [.int x1115, .int x1114, .int x1113, .ref 1, .ref 0]) (h' := (HX w T)) (cs' := 0) (sl' := 0) rfl ?_
  obtain ⟨c1132, hq, h⟩ := ai_bdE h
  refine ev_call (M' := msea_addLift) (L' := [some (.ref 1), some (.int x1113), some (.int x1114), some (.int x1115)]) (rest := [.ref 0]) (rv := some (.int c1132.1)) (h' := (HX c1132.2 T)) rfl (Esea_addLift_1 x1113 x1114 x1115 w _ _ hq T) ?_
  show ai_ev D1 mf_lift 11 [some (.ref 0), some (.int x1113), some (.int x1114), some (.int x1115)] [.int c1132.1, .ref 0] (HX c1132.2 T) 0 0 _
  obtain ⟨c1133, hq, h⟩ := ai_bdE h
  refine ev_call (M' := mf_counted) (L' := [some (.ref 0), some (.int c1132.1)]) (rest := []) (rv := some (.int c1133.1)) (h' := (HX c1133.2 T)) rfl (Ef_counted_0 c1132.1 c1132.2 _ _ hq T) ?_
  show ai_ev D1 mf_lift 14 [some (.ref 0), some (.int x1113), some (.int x1114), some (.int x1115)] [.int c1133.1] (HX c1133.2 T) 0 0 _
  obtain ⟨rfl, rfl⟩ := ai_smP h
  exact ev_end rfl
