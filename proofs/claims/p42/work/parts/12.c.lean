set_option maxHeartbeats 40000000 in
set_option maxRecDepth 100000 in
theorem Ef_sea_0 (n : Nat) (x987 : Int32) (w : WX) (r : Int32) (w' : WX) (h : Ff_sea_0 n x987 w = some (r, w')) (T : ai_H) : ai_ev D1 mf_sea 0 [some (.ref 0), some (.int x987)] [] (HX w T) 0 0 (some (.int r), HX w' T) := by
  unfold Ff_sea_0 at h
  refine ev_go 4 (pc' := 6) (L' := [some (.ref 0), some (.int x987)]) (st' := [.int x987, .ref 1, .ref 0]) (h' := (HX w T)) (cs' := 0) (sl' := 0) rfl ?_
  obtain ⟨c1018, hq, h⟩ := ai_bdE h
  refine ev_call (M' := msea_startAnew) (L' := [some (.ref 1), some (.int x987), none]) (rest := [.ref 0]) (rv := some (.int c1018.1)) (h' := (HX c1018.2 T)) rfl (Esea_startAnew_1 n x987 w _ _ hq T) ?_
  show ai_ev D1 mf_sea 9 [some (.ref 0), some (.int x987)] [.int c1018.1, .ref 0] (HX c1018.2 T) 0 0 _
  obtain ⟨c1020, hq, h⟩ := ai_bdE h
  refine ev_call (M' := mf_counted) (L' := [some (.ref 0), some (.int c1018.1)]) (rest := []) (rv := some (.int c1020.1)) (h' := (HX c1020.2 T)) rfl (Ef_counted_0 c1018.1 c1018.2 _ _ hq T) ?_
  show ai_ev D1 mf_sea 12 [some (.ref 0), some (.int x987)] [.int c1020.1] (HX c1020.2 T) 0 0 _
  obtain ⟨rfl, rfl⟩ := ai_smP h
  exact ev_end rfl
set_option maxHeartbeats 40000000 in
set_option maxRecDepth 100000 in
theorem Ef_isLayer (x1025 : Int32) (r : Int32) (h : Ff_isLayer x1025 = some r) (hh : ai_H) : ai_ev D1 mf_isLayer 0 [some (.int x1025)] [] hh 0 0 (some (.int r), hh) := by
  unfold Ff_isLayer at h
  refine ev_go 3 (pc' := 3) (L' := [some (.int x1025)]) (st' := [.int 3, .int 0, .int x1025]) (h' := hh) (cs' := 0) (sl' := 0) rfl ?_
  obtain ⟨c1026, hq, h⟩ := ai_bdE h
  refine ev_call (M' := mf_within) (L' := [some (.int x1025), some (.int 0), some (.int 3)]) (rest := []) (rv := some (.int c1026)) (h' := hh) rfl (Ef_within x1025 0 3 _ hq hh) ?_
  show ai_ev D1 mf_isLayer 6 [some (.int x1025)] [.int c1026] hh 0 0 _
  obtain ⟨hv, h⟩ := ai_ifS h
  obtain rfl := Option.some.inj h
  exact ev_zend rfl rfl rfl hv
set_option maxHeartbeats 40000000 in
set_option maxRecDepth 100000 in
theorem Esea_putDensity_1 (x1023 : Int32) (x1024 : Int32) (w : WX) (r : Int32) (w' : WX) (h : Fsea_putDensity_1 x1023 x1024 w = some (r, w')) (T : ai_H) : ai_ev D1 msea_putDensity 0 [some (.ref 1), some (.int x1023), some (.int x1024), none, none, none] [] (HX w T) 0 0 (some (.int r), HX w' T) := by
  unfold Fsea_putDensity_1 at h
  refine ev_go 1 (pc' := 1) (L' := [some (.ref 1), some (.int x1023), some (.int x1024), none, none, none]) (st' := [.int x1023]) (h' := (HX w T)) (cs' := 0) (sl' := 0) rfl ?_
  obtain ⟨c1027, hq, h⟩ := ai_bdE h
  refine ev_call (M' := mf_isLayer) (L' := [some (.int x1023)]) (rest := []) (rv := some (.int c1027)) (h' := (HX w T)) rfl (Ef_isLayer x1023 _ hq (HX w T)) ?_
  show ai_ev D1 msea_putDensity 4 [some (.ref 1), some (.int x1023), some (.int x1024), none, none, none] [.int c1027] (HX w T) 0 0 _
  rcases ai_ifE h with ⟨hc, h⟩ | ⟨hc, h⟩
  · refine ev_if_eq (t := 17) rfl rfl (fun _ => ?_) (fun c9 => absurd hc c9)
    refine ev_go 1 (pc' := 19) (L' := [some (.ref 1), some (.int x1023), some (.int x1024), none, none, none]) (st' := [.int (-2)]) (h' := (HX w T)) (cs' := 0) (sl' := 0) rfl ?_
    obtain ⟨rfl, rfl⟩ := ai_smP h
    exact ev_end rfl
  · refine ev_if_eq (t := 17) rfl rfl (fun c9 => absurd c9 hc) (fun _ => ?_)
    refine ev_go 3 (pc' := 11) (L' := [some (.ref 1), some (.int x1023), some (.int x1024), none, none, none]) (st' := [.int 99, .int 1, .int x1024]) (h' := (HX w T)) (cs' := 0) (sl' := 0) rfl ?_
    obtain ⟨c1028, hq, h⟩ := ai_bdE h
    refine ev_call (M' := mf_within) (L' := [some (.int x1024), some (.int 1), some (.int 99)]) (rest := []) (rv := some (.int c1028)) (h' := (HX w T)) rfl (Ef_within x1024 1 99 _ hq (HX w T)) ?_
    show ai_ev D1 msea_putDensity 14 [some (.ref 1), some (.int x1023), some (.int x1024), none, none, none] [.int c1028] (HX w T) 0 0 _
    rcases ai_ifE h with ⟨hc, h⟩ | ⟨hc, h⟩
    · refine ev_if_ne (t := 20) rfl rfl (fun c9 => absurd hc c9) (fun _ => ?_)
      refine ev_go 1 (pc' := 19) (L' := [some (.ref 1), some (.int x1023), some (.int x1024), none, none, none]) (st' := [.int (-2)]) (h' := (HX w T)) (cs' := 0) (sl' := 0) rfl ?_
      obtain ⟨rfl, rfl⟩ := ai_smP h
      exact ev_end rfl
    · refine ev_if_ne (t := 20) rfl rfl (fun _ => ?_) (fun c9 => absurd c9 hc)
      refine ev_go 1 (pc' := 21) (L' := [some (.ref 1), some (.int x1023), some (.int x1024), none, none, none]) (st' := [.int x1023]) (h' := (HX w T)) (cs' := 0) (sl' := 0) rfl ?_
      rcases ai_ifE h with ⟨hc, h⟩ | ⟨hc, h⟩
      · refine ev_if_eq (t := 36) rfl rfl (fun _ => ?_) (fun c9 => absurd hc c9)
        refine ev_go 5 (pc' := 44) (L' := [some (.ref 1), some (.int x1023), some (.int x1024), some (.int 1), none, none]) (st' := [.int 3, .int x1023]) (h' := (HX w T)) (cs' := 0) (sl' := 0) rfl ?_
        rcases ai_ifE h with ⟨hc, h⟩ | ⟨hc, h⟩
        · refine ev_ic_eq (t := 59) rfl rfl (fun _ => ?_) (fun c9 => absurd hc c9)
          refine ev_go 10 (pc' := 83) (L' := [some (.ref 1), some (.int x1023), some (.int x1024), some (.int 1), some (.int 1), none]) (st' := [.int x1023, .ref 2]) (h' := (HX w T)) (cs' := 0) (sl' := 0) rfl ?_
          obtain ⟨v1029, hq, h⟩ := ai_bdE h
          refine ev_iald rfl rfl hq ?_
          refine ev_go 5 (pc' := 92) (L' := [some (.ref 1), some (.int x1023), some (.int x1024), some (.int 1), some (.int 1), some (.int v1029)]) (st' := [.int x1024, .int x1023, .ref 2]) (h' := (HX w T)) (cs' := 0) (sl' := 0) rfl ?_
          obtain ⟨q1030, hq, h⟩ := ai_bdE h
          refine ev_iast rfl rfl hq ?_
          rw [HXs_2]
          refine ev_go 1 (pc' := 95) (L' := [some (.ref 1), some (.int x1023), some (.int x1024), some (.int 1), some (.int 1), some (.int v1029)]) (st' := [.int v1029]) (h' := (HX (u_s1_densities w q1030) T)) (cs' := 0) (sl' := 0) rfl ?_
          obtain ⟨rfl, rfl⟩ := ai_smP h
          exact ev_end rfl
        · refine ev_ic_eq (t := 59) rfl rfl (fun c9 => absurd c9 hc) (fun _ => ?_)
          refine ev_go 5 (pc' := 54) (L' := [some (.ref 1), some (.int x1023), some (.int x1024), some (.int 1), none, none]) (st' := [.int (x1023 + 1), .ref 2]) (h' := (HX w T)) (cs' := 0) (sl' := 0) rfl ?_
          obtain ⟨v1031, hq, h⟩ := ai_bdE h
          refine ev_iald rfl rfl hq ?_
          refine ev_go 1 (pc' := 56) (L' := [some (.ref 1), some (.int x1023), some (.int x1024), some (.int 1), none, none]) (st' := [.int x1024, .int v1031]) (h' := (HX w T)) (cs' := 0) (sl' := 0) rfl ?_
          rcases ai_ifE h with ⟨hc, h⟩ | ⟨hc, h⟩
          · refine ev_ic_le (t := 63) rfl rfl (fun _ => ?_) (fun c9 => absurd hc c9)
            refine ev_go 7 (pc' := 77) (L' := [some (.ref 1), some (.int x1023), some (.int x1024), some (.int 1), some (.int 0), none]) (st' := [.int (-3)]) (h' := (HX w T)) (cs' := 0) (sl' := 0) rfl ?_
            obtain ⟨rfl, rfl⟩ := ai_smP h
            exact ev_end rfl
          · refine ev_ic_le (t := 63) rfl rfl (fun c9 => absurd c9 hc) (fun _ => ?_)
            refine ev_go 10 (pc' := 83) (L' := [some (.ref 1), some (.int x1023), some (.int x1024), some (.int 1), some (.int 1), none]) (st' := [.int x1023, .ref 2]) (h' := (HX w T)) (cs' := 0) (sl' := 0) rfl ?_
            obtain ⟨v1032, hq, h⟩ := ai_bdE h
            refine ev_iald rfl rfl hq ?_
            refine ev_go 5 (pc' := 92) (L' := [some (.ref 1), some (.int x1023), some (.int x1024), some (.int 1), some (.int 1), some (.int v1032)]) (st' := [.int x1024, .int x1023, .ref 2]) (h' := (HX w T)) (cs' := 0) (sl' := 0) rfl ?_
            obtain ⟨q1033, hq, h⟩ := ai_bdE h
            refine ev_iast rfl rfl hq ?_
            rw [HXs_2]
            refine ev_go 1 (pc' := 95) (L' := [some (.ref 1), some (.int x1023), some (.int x1024), some (.int 1), some (.int 1), some (.int v1032)]) (st' := [.int v1032]) (h' := (HX (u_s1_densities w q1033) T)) (cs' := 0) (sl' := 0) rfl ?_
            obtain ⟨rfl, rfl⟩ := ai_smP h
            exact ev_end rfl
      · refine ev_if_eq (t := 36) rfl rfl (fun c9 => absurd c9 hc) (fun _ => ?_)
        refine ev_go 5 (pc' := 31) (L' := [some (.ref 1), some (.int x1023), some (.int x1024), none, none, none]) (st' := [.int (x1023 - 1), .ref 2]) (h' := (HX w T)) (cs' := 0) (sl' := 0) rfl ?_
        obtain ⟨v1034, hq, h⟩ := ai_bdE h
        refine ev_iald rfl rfl hq ?_
        refine ev_go 1 (pc' := 33) (L' := [some (.ref 1), some (.int x1023), some (.int x1024), none, none, none]) (st' := [.int x1024, .int v1034]) (h' := (HX w T)) (cs' := 0) (sl' := 0) rfl ?_
        rcases ai_ifE h with ⟨hc, h⟩ | ⟨hc, h⟩
        · refine ev_ic_ge (t := 40) rfl rfl (fun _ => ?_) (fun c9 => absurd hc c9)
          refine ev_go 4 (pc' := 44) (L' := [some (.ref 1), some (.int x1023), some (.int x1024), some (.int 0), none, none]) (st' := [.int 3, .int x1023]) (h' := (HX w T)) (cs' := 0) (sl' := 0) rfl ?_
          rcases ai_ifE h with ⟨hc, h⟩ | ⟨hc, h⟩
          · refine ev_ic_eq (t := 59) rfl rfl (fun _ => ?_) (fun c9 => absurd hc c9)
            refine ev_go 6 (pc' := 77) (L' := [some (.ref 1), some (.int x1023), some (.int x1024), some (.int 0), some (.int 1), none]) (st' := [.int (-3)]) (h' := (HX w T)) (cs' := 0) (sl' := 0) rfl ?_
            obtain ⟨rfl, rfl⟩ := ai_smP h
            exact ev_end rfl
          · refine ev_ic_eq (t := 59) rfl rfl (fun c9 => absurd c9 hc) (fun _ => ?_)
            refine ev_go 5 (pc' := 54) (L' := [some (.ref 1), some (.int x1023), some (.int x1024), some (.int 0), none, none]) (st' := [.int (x1023 + 1), .ref 2]) (h' := (HX w T)) (cs' := 0) (sl' := 0) rfl ?_
            obtain ⟨v1035, hq, h⟩ := ai_bdE h
            refine ev_iald rfl rfl hq ?_
            refine ev_go 1 (pc' := 56) (L' := [some (.ref 1), some (.int x1023), some (.int x1024), some (.int 0), none, none]) (st' := [.int x1024, .int v1035]) (h' := (HX w T)) (cs' := 0) (sl' := 0) rfl ?_
            rcases ai_ifE h with ⟨hc, h⟩ | ⟨hc, h⟩
            · refine ev_ic_le (t := 63) rfl rfl (fun _ => ?_) (fun c9 => absurd hc c9)
              refine ev_go 5 (pc' := 77) (L' := [some (.ref 1), some (.int x1023), some (.int x1024), some (.int 0), some (.int 0), none]) (st' := [.int (-3)]) (h' := (HX w T)) (cs' := 0) (sl' := 0) rfl ?_
              obtain ⟨rfl, rfl⟩ := ai_smP h
              exact ev_end rfl
            · refine ev_ic_le (t := 63) rfl rfl (fun c9 => absurd c9 hc) (fun _ => ?_)
              refine ev_go 6 (pc' := 77) (L' := [some (.ref 1), some (.int x1023), some (.int x1024), some (.int 0), some (.int 1), none]) (st' := [.int (-3)]) (h' := (HX w T)) (cs' := 0) (sl' := 0) rfl ?_
              obtain ⟨rfl, rfl⟩ := ai_smP h
              exact ev_end rfl
        · refine ev_ic_ge (t := 40) rfl rfl (fun c9 => absurd c9 hc) (fun _ => ?_)
          refine ev_go 5 (pc' := 44) (L' := [some (.ref 1), some (.int x1023), some (.int x1024), some (.int 1), none, none]) (st' := [.int 3, .int x1023]) (h' := (HX w T)) (cs' := 0) (sl' := 0) rfl ?_
          rcases ai_ifE h with ⟨hc, h⟩ | ⟨hc, h⟩
          · refine ev_ic_eq (t := 59) rfl rfl (fun _ => ?_) (fun c9 => absurd hc c9)
            refine ev_go 10 (pc' := 83) (L' := [some (.ref 1), some (.int x1023), some (.int x1024), some (.int 1), some (.int 1), none]) (st' := [.int x1023, .ref 2]) (h' := (HX w T)) (cs' := 0) (sl' := 0) rfl ?_
            obtain ⟨v1036, hq, h⟩ := ai_bdE h
            refine ev_iald rfl rfl hq ?_
            refine ev_go 5 (pc' := 92) (L' := [some (.ref 1), some (.int x1023), some (.int x1024), some (.int 1), some (.int 1), some (.int v1036)]) (st' := [.int x1024, .int x1023, .ref 2]) (h' := (HX w T)) (cs' := 0) (sl' := 0) rfl ?_
            obtain ⟨q1037, hq, h⟩ := ai_bdE h
            refine ev_iast rfl rfl hq ?_
            rw [HXs_2]
            refine ev_go 1 (pc' := 95) (L' := [some (.ref 1), some (.int x1023), some (.int x1024), some (.int 1), some (.int 1), some (.int v1036)]) (st' := [.int v1036]) (h' := (HX (u_s1_densities w q1037) T)) (cs' := 0) (sl' := 0) rfl ?_
            obtain ⟨rfl, rfl⟩ := ai_smP h
            exact ev_end rfl
          · refine ev_ic_eq (t := 59) rfl rfl (fun c9 => absurd c9 hc) (fun _ => ?_)
            refine ev_go 5 (pc' := 54) (L' := [some (.ref 1), some (.int x1023), some (.int x1024), some (.int 1), none, none]) (st' := [.int (x1023 + 1), .ref 2]) (h' := (HX w T)) (cs' := 0) (sl' := 0) rfl ?_
            obtain ⟨v1038, hq, h⟩ := ai_bdE h
            refine ev_iald rfl rfl hq ?_
            refine ev_go 1 (pc' := 56) (L' := [some (.ref 1), some (.int x1023), some (.int x1024), some (.int 1), none, none]) (st' := [.int x1024, .int v1038]) (h' := (HX w T)) (cs' := 0) (sl' := 0) rfl ?_
            rcases ai_ifE h with ⟨hc, h⟩ | ⟨hc, h⟩
            · refine ev_ic_le (t := 63) rfl rfl (fun _ => ?_) (fun c9 => absurd hc c9)
              refine ev_go 7 (pc' := 77) (L' := [some (.ref 1), some (.int x1023), some (.int x1024), some (.int 1), some (.int 0), none]) (st' := [.int (-3)]) (h' := (HX w T)) (cs' := 0) (sl' := 0) rfl ?_
              obtain ⟨rfl, rfl⟩ := ai_smP h
              exact ev_end rfl
            · refine ev_ic_le (t := 63) rfl rfl (fun c9 => absurd c9 hc) (fun _ => ?_)
              refine ev_go 10 (pc' := 83) (L' := [some (.ref 1), some (.int x1023), some (.int x1024), some (.int 1), some (.int 1), none]) (st' := [.int x1023, .ref 2]) (h' := (HX w T)) (cs' := 0) (sl' := 0) rfl ?_
              obtain ⟨v1039, hq, h⟩ := ai_bdE h
              refine ev_iald rfl rfl hq ?_
              refine ev_go 5 (pc' := 92) (L' := [some (.ref 1), some (.int x1023), some (.int x1024), some (.int 1), some (.int 1), some (.int v1039)]) (st' := [.int x1024, .int x1023, .ref 2]) (h' := (HX w T)) (cs' := 0) (sl' := 0) rfl ?_
              obtain ⟨q1040, hq, h⟩ := ai_bdE h
              refine ev_iast rfl rfl hq ?_
              rw [HXs_2]
              refine ev_go 1 (pc' := 95) (L' := [some (.ref 1), some (.int x1023), some (.int x1024), some (.int 1), some (.int 1), some (.int v1039)]) (st' := [.int v1039]) (h' := (HX (u_s1_densities w q1040) T)) (cs' := 0) (sl' := 0) rfl ?_
              obtain ⟨rfl, rfl⟩ := ai_smP h
              exact ev_end rfl
set_option maxHeartbeats 40000000 in
set_option maxRecDepth 100000 in
theorem Ef_water_0 (x1021 : Int32) (x1022 : Int32) (w : WX) (r : Int32) (w' : WX) (h : Ff_water_0 x1021 x1022 w = some (r, w')) (T : ai_H) : ai_ev D1 mf_water 0 [some (.ref 0), some (.int x1021), some (.int x1022)] [] (HX w T) 0 0 (some (.int r), HX w' T) := by
  unfold Ff_water_0 at h
  refine ev_go 5 (pc' := 7) (L' := [some (.ref 0), some (.int x1021), some (.int x1022)]) (st' := [.int x1022, .int x1021, .ref 1, .ref 0]) (h' := (HX w T)) (cs' := 0) (sl' := 0) rfl ?_
  obtain ⟨c1041, hq, h⟩ := ai_bdE h
  refine ev_call (M' := msea_putDensity) (L' := [some (.ref 1), some (.int x1021), some (.int x1022), none, none, none]) (rest := [.ref 0]) (rv := some (.int c1041.1)) (h' := (HX c1041.2 T)) rfl (Esea_putDensity_1 x1021 x1022 w _ _ hq T) ?_
  show ai_ev D1 mf_water 10 [some (.ref 0), some (.int x1021), some (.int x1022)] [.int c1041.1, .ref 0] (HX c1041.2 T) 0 0 _
  obtain ⟨c1042, hq, h⟩ := ai_bdE h
  refine ev_call (M' := mf_counted) (L' := [some (.ref 0), some (.int c1041.1)]) (rest := []) (rv := some (.int c1042.1)) (h' := (HX c1042.2 T)) rfl (Ef_counted_0 c1041.1 c1041.2 _ _ hq T) ?_
  show ai_ev D1 mf_water 13 [some (.ref 0), some (.int x1021), some (.int x1022)] [.int c1042.1] (HX c1042.2 T) 0 0 _
  obtain ⟨rfl, rfl⟩ := ai_smP h
  exact ev_end rfl
set_option maxHeartbeats 40000000 in
set_option maxRecDepth 100000 in
theorem Esea_hasCell_1 (x1050 : Int32) (w : WX) (r : Int32) (w' : WX) (h : Fsea_hasCell_1 x1050 w = some (r, w')) (T : ai_H) : ai_ev D1 msea_hasCell 0 [some (.ref 1), some (.int x1050)] [] (HX w T) 0 0 (some (.int r), HX w' T) := by
  unfold Fsea_hasCell_1 at h
  refine ev_go 6 (pc' := 8) (L' := [some (.ref 1), some (.int x1050)]) (st' := [.int ((a_s1_cells w) - 1), .int 0, .int x1050]) (h' := (HX w T)) (cs' := 0) (sl' := 0) rfl ?_
  obtain ⟨c1051, hq, h⟩ := ai_bdE h
  refine ev_call (M' := mf_within) (L' := [some (.int x1050), some (.int 0), some (.int ((a_s1_cells w) - 1))]) (rest := []) (rv := some (.int c1051)) (h' := (HX w T)) rfl (Ef_within x1050 0 ((a_s1_cells w) - 1) _ hq (HX w T)) ?_
  show ai_ev D1 msea_hasCell 11 [some (.ref 1), some (.int x1050)] [.int c1051] (HX w T) 0 0 _
  obtain ⟨hv, h⟩ := ai_ifS h
  obtain ⟨rfl, rfl⟩ := ai_smP h
  exact ev_zend rfl rfl rfl hv
set_option maxHeartbeats 40000000 in
set_option maxRecDepth 100000 in
theorem Esea_putThick_1 (x1046 : Int32) (x1047 : Int32) (x1048 : Int32) (w : WX) (r : Int32) (w' : WX) (h : Fsea_putThick_1 x1046 x1047 x1048 w = some (r, w')) (T : ai_H) : ai_ev D1 msea_putThick 0 [some (.ref 1), some (.int x1046), some (.int x1047), some (.int x1048), none, none] [] (HX w T) 0 0 (some (.int r), HX w' T) := by
  unfold Fsea_putThick_1 at h
  refine ev_go 1 (pc' := 1) (L' := [some (.ref 1), some (.int x1046), some (.int x1047), some (.int x1048), none, none]) (st' := [.int x1046]) (h' := (HX w T)) (cs' := 0) (sl' := 0) rfl ?_
  obtain ⟨c1049, hq, h⟩ := ai_bdE h
  refine ev_call (M' := mf_isLayer) (L' := [some (.int x1046)]) (rest := []) (rv := some (.int c1049)) (h' := (HX w T)) rfl (Ef_isLayer x1046 _ hq (HX w T)) ?_
  show ai_ev D1 msea_putThick 4 [some (.ref 1), some (.int x1046), some (.int x1047), some (.int x1048), none, none] [.int c1049] (HX w T) 0 0 _
  rcases ai_ifE h with ⟨hc, h⟩ | ⟨hc, h⟩
  · refine ev_if_eq (t := 25) rfl rfl (fun _ => ?_) (fun c9 => absurd hc c9)
    refine ev_go 1 (pc' := 27) (L' := [some (.ref 1), some (.int x1046), some (.int x1047), some (.int x1048), none, none]) (st' := [.int (-2)]) (h' := (HX w T)) (cs' := 0) (sl' := 0) rfl ?_
    obtain ⟨rfl, rfl⟩ := ai_smP h
    exact ev_end rfl
  · refine ev_if_eq (t := 25) rfl rfl (fun c9 => absurd c9 hc) (fun _ => ?_)
    refine ev_go 2 (pc' := 9) (L' := [some (.ref 1), some (.int x1046), some (.int x1047), some (.int x1048), none, none]) (st' := [.int x1047, .ref 1]) (h' := (HX w T)) (cs' := 0) (sl' := 0) rfl ?_
    obtain ⟨c1052, hq, h⟩ := ai_bdE h
    refine ev_call (M' := msea_hasCell) (L' := [some (.ref 1), some (.int x1047)]) (rest := []) (rv := some (.int c1052.1)) (h' := (HX c1052.2 T)) rfl (Esea_hasCell_1 x1047 w _ _ hq T) ?_
    show ai_ev D1 msea_putThick 12 [some (.ref 1), some (.int x1046), some (.int x1047), some (.int x1048), none, none] [.int c1052.1] (HX c1052.2 T) 0 0 _
    rcases ai_ifE h with ⟨hc, h⟩ | ⟨hc, h⟩
    · refine ev_if_eq (t := 25) rfl rfl (fun _ => ?_) (fun c9 => absurd hc c9)
      refine ev_go 1 (pc' := 27) (L' := [some (.ref 1), some (.int x1046), some (.int x1047), some (.int x1048), none, none]) (st' := [.int (-2)]) (h' := (HX c1052.2 T)) (cs' := 0) (sl' := 0) rfl ?_
      obtain ⟨rfl, rfl⟩ := ai_smP h
      exact ev_end rfl
    · refine ev_if_eq (t := 25) rfl rfl (fun c9 => absurd c9 hc) (fun _ => ?_)
      refine ev_go 3 (pc' := 19) (L' := [some (.ref 1), some (.int x1046), some (.int x1047), some (.int x1048), none, none]) (st' := [.int 9, .int 0, .int x1048]) (h' := (HX c1052.2 T)) (cs' := 0) (sl' := 0) rfl ?_
      obtain ⟨c1053, hq, h⟩ := ai_bdE h
      refine ev_call (M' := mf_within) (L' := [some (.int x1048), some (.int 0), some (.int 9)]) (rest := []) (rv := some (.int c1053)) (h' := (HX c1052.2 T)) rfl (Ef_within x1048 0 9 _ hq (HX c1052.2 T)) ?_
      show ai_ev D1 msea_putThick 22 [some (.ref 1), some (.int x1046), some (.int x1047), some (.int x1048), none, none] [.int c1053] (HX c1052.2 T) 0 0 _
      rcases ai_ifE h with ⟨hc, h⟩ | ⟨hc, h⟩
      · refine ev_if_ne (t := 28) rfl rfl (fun c9 => absurd hc c9) (fun _ => ?_)
        refine ev_go 1 (pc' := 27) (L' := [some (.ref 1), some (.int x1046), some (.int x1047), some (.int x1048), none, none]) (st' := [.int (-2)]) (h' := (HX c1052.2 T)) (cs' := 0) (sl' := 0) rfl ?_
        obtain ⟨rfl, rfl⟩ := ai_smP h
        exact ev_end rfl
      · refine ev_if_ne (t := 28) rfl rfl (fun _ => ?_) (fun c9 => absurd c9 hc)
        refine ev_go 9 (pc' := 42) (L' := [some (.ref 1), some (.int x1046), some (.int x1047), some (.int x1048), some (.int ((x1046 * 6) + x1047)), none]) (st' := [.int ((x1046 * 6) + x1047), .ref 5]) (h' := (HX c1052.2 T)) (cs' := 0) (sl' := 0) rfl ?_
        obtain ⟨v1054, hq, h⟩ := ai_bdE h
        refine ev_iald rfl rfl hq ?_
        refine ev_go 5 (pc' := 52) (L' := [some (.ref 1), some (.int x1046), some (.int x1047), some (.int x1048), some (.int ((x1046 * 6) + x1047)), some (.int v1054)]) (st' := [.int x1048, .int ((x1046 * 6) + x1047), .ref 5]) (h' := (HX c1052.2 T)) (cs' := 0) (sl' := 0) rfl ?_
        obtain ⟨q1055, hq, h⟩ := ai_bdE h
        refine ev_iast rfl rfl hq ?_
        rw [HXs_5]
        refine ev_go 1 (pc' := 55) (L' := [some (.ref 1), some (.int x1046), some (.int x1047), some (.int x1048), some (.int ((x1046 * 6) + x1047)), some (.int v1054)]) (st' := [.int v1054]) (h' := (HX (u_s1_thicks c1052.2 q1055) T)) (cs' := 0) (sl' := 0) rfl ?_
        obtain ⟨rfl, rfl⟩ := ai_smP h
        exact ev_end rfl
set_option maxHeartbeats 40000000 in
set_option maxRecDepth 100000 in
theorem Ef_thick_0 (x1043 : Int32) (x1044 : Int32) (x1045 : Int32) (w : WX) (r : Int32) (w' : WX) (h : Ff_thick_0 x1043 x1044 x1045 w = some (r, w')) (T : ai_H) : ai_ev D1 mf_thick 0 [some (.ref 0), some (.int x1043), some (.int x1044), some (.int x1045)] [] (HX w T) 0 0 (some (.int r), HX w' T) := by
  unfold Ff_thick_0 at h
  refine ev_go 6 (pc' := 8) (L' := [some (.ref 0), some (.int x1043), some (.int x1044), some (.int x1045)]) (st' := [.int x1045, .int x1044, .int x1043, .ref 1, .ref 0]) (h' := (HX w T)) (cs' := 0) (sl' := 0) rfl ?_
  obtain ⟨c1056, hq, h⟩ := ai_bdE h
  refine ev_call (M' := msea_putThick) (L' := [some (.ref 1), some (.int x1043), some (.int x1044), some (.int x1045), none, none]) (rest := [.ref 0]) (rv := some (.int c1056.1)) (h' := (HX c1056.2 T)) rfl (Esea_putThick_1 x1043 x1044 x1045 w _ _ hq T) ?_
  show ai_ev D1 mf_thick 11 [some (.ref 0), some (.int x1043), some (.int x1044), some (.int x1045)] [.int c1056.1, .ref 0] (HX c1056.2 T) 0 0 _
  obtain ⟨c1057, hq, h⟩ := ai_bdE h
  refine ev_call (M' := mf_counted) (L' := [some (.ref 0), some (.int c1056.1)]) (rest := []) (rv := some (.int c1057.1)) (h' := (HX c1057.2 T)) rfl (Ef_counted_0 c1056.1 c1056.2 _ _ hq T) ?_
  show ai_ev D1 mf_thick 14 [some (.ref 0), some (.int x1043), some (.int x1044), some (.int x1045)] [.int c1057.1] (HX c1057.2 T) 0 0 _
  obtain ⟨rfl, rfl⟩ := ai_smP h
  exact ev_end rfl
set_option maxHeartbeats 40000000 in
set_option maxRecDepth 100000 in
theorem Esea_putSkin_1 (x1060 : Int32) (x1061 : Int32) (w : WX) (r : Int32) (w' : WX) (h : Fsea_putSkin_1 x1060 x1061 w = some (r, w')) (T : ai_H) : ai_ev D1 msea_putSkin 0 [some (.ref 1), some (.int x1060), some (.int x1061), none] [] (HX w T) 0 0 (some (.int r), HX w' T) := by
  unfold Fsea_putSkin_1 at h
  refine ev_go 3 (pc' := 3) (L' := [some (.ref 1), some (.int x1060), some (.int x1061), none]) (st' := [.int 2, .int 0, .int x1060]) (h' := (HX w T)) (cs' := 0) (sl' := 0) rfl ?_
  obtain ⟨c1062, hq, h⟩ := ai_bdE h
  refine ev_call (M' := mf_within) (L' := [some (.int x1060), some (.int 0), some (.int 2)]) (rest := []) (rv := some (.int c1062)) (h' := (HX w T)) rfl (Ef_within x1060 0 2 _ hq (HX w T)) ?_
  show ai_ev D1 msea_putSkin 6 [some (.ref 1), some (.int x1060), some (.int x1061), none] [.int c1062] (HX w T) 0 0 _
  rcases ai_ifE h with ⟨hc, h⟩ | ⟨hc, h⟩
  · refine ev_if_eq (t := 19) rfl rfl (fun _ => ?_) (fun c9 => absurd hc c9)
    refine ev_go 1 (pc' := 21) (L' := [some (.ref 1), some (.int x1060), some (.int x1061), none]) (st' := [.int (-2)]) (h' := (HX w T)) (cs' := 0) (sl' := 0) rfl ?_
    obtain ⟨rfl, rfl⟩ := ai_smP h
    exact ev_end rfl
  · refine ev_if_eq (t := 19) rfl rfl (fun c9 => absurd c9 hc) (fun _ => ?_)
    refine ev_go 3 (pc' := 13) (L' := [some (.ref 1), some (.int x1060), some (.int x1061), none]) (st' := [.int 99, .int 0, .int x1061]) (h' := (HX w T)) (cs' := 0) (sl' := 0) rfl ?_
    obtain ⟨c1063, hq, h⟩ := ai_bdE h
    refine ev_call (M' := mf_within) (L' := [some (.int x1061), some (.int 0), some (.int 99)]) (rest := []) (rv := some (.int c1063)) (h' := (HX w T)) rfl (Ef_within x1061 0 99 _ hq (HX w T)) ?_
    show ai_ev D1 msea_putSkin 16 [some (.ref 1), some (.int x1060), some (.int x1061), none] [.int c1063] (HX w T) 0 0 _
    rcases ai_ifE h with ⟨hc, h⟩ | ⟨hc, h⟩
    · refine ev_if_ne (t := 22) rfl rfl (fun c9 => absurd hc c9) (fun _ => ?_)
      refine ev_go 1 (pc' := 21) (L' := [some (.ref 1), some (.int x1060), some (.int x1061), none]) (st' := [.int (-2)]) (h' := (HX w T)) (cs' := 0) (sl' := 0) rfl ?_
      obtain ⟨rfl, rfl⟩ := ai_smP h
      exact ev_end rfl
    · refine ev_if_ne (t := 22) rfl rfl (fun _ => ?_) (fun c9 => absurd c9 hc)
      refine ev_go 3 (pc' := 27) (L' := [some (.ref 1), some (.int x1060), some (.int x1061), none]) (st' := [.int x1060, .ref 6]) (h' := (HX w T)) (cs' := 0) (sl' := 0) rfl ?_
      obtain ⟨v1064, hq, h⟩ := ai_bdE h
      refine ev_iald rfl rfl hq ?_
      refine ev_go 5 (pc' := 35) (L' := [some (.ref 1), some (.int x1060), some (.int x1061), some (.int v1064)]) (st' := [.int x1061, .int x1060, .ref 6]) (h' := (HX w T)) (cs' := 0) (sl' := 0) rfl ?_
      obtain ⟨q1065, hq, h⟩ := ai_bdE h
      refine ev_iast rfl rfl hq ?_
      rw [HXs_6]
      refine ev_go 1 (pc' := 37) (L' := [some (.ref 1), some (.int x1060), some (.int x1061), some (.int v1064)]) (st' := [.int v1064]) (h' := (HX (u_s1_skins w q1065) T)) (cs' := 0) (sl' := 0) rfl ?_
      obtain ⟨rfl, rfl⟩ := ai_smP h
      exact ev_end rfl
set_option maxHeartbeats 40000000 in
set_option maxRecDepth 100000 in
theorem Ef_skin_0 (x1058 : Int32) (x1059 : Int32) (w : WX) (r : Int32) (w' : WX) (h : Ff_skin_0 x1058 x1059 w = some (r, w')) (T : ai_H) : ai_ev D1 mf_skin 0 [some (.ref 0), some (.int x1058), some (.int x1059)] [] (HX w T) 0 0 (some (.int r), HX w' T) := by
  unfold Ff_skin_0 at h
  refine ev_go 5 (pc' := 7) (L' := [some (.ref 0), some (.int x1058), some (.int x1059)]) (st' := [.int x1059, .int x1058, .ref 1, .ref 0]) (h' := (HX w T)) (cs' := 0) (sl' := 0) rfl ?_
  obtain ⟨c1066, hq, h⟩ := ai_bdE h
  refine ev_call (M' := msea_putSkin) (L' := [some (.ref 1), some (.int x1058), some (.int x1059), none]) (rest := [.ref 0]) (rv := some (.int c1066.1)) (h' := (HX c1066.2 T)) rfl (Esea_putSkin_1 x1058 x1059 w _ _ hq T) ?_
  show ai_ev D1 mf_skin 10 [some (.ref 0), some (.int x1058), some (.int x1059)] [.int c1066.1, .ref 0] (HX c1066.2 T) 0 0 _
  obtain ⟨c1067, hq, h⟩ := ai_bdE h
  refine ev_call (M' := mf_counted) (L' := [some (.ref 0), some (.int c1066.1)]) (rest := []) (rv := some (.int c1067.1)) (h' := (HX c1067.2 T)) rfl (Ef_counted_0 c1066.1 c1066.2 _ _ hq T) ?_
  show ai_ev D1 mf_skin 13 [some (.ref 0), some (.int x1058), some (.int x1059)] [.int c1067.1] (HX c1067.2 T) 0 0 _
  obtain ⟨rfl, rfl⟩ := ai_smP h
  exact ev_end rfl
set_option maxHeartbeats 40000000 in
set_option maxRecDepth 100000 in
theorem Ef_bad_0 (x1072 : Int32) (w : WX) (r : Int32) (w' : WX) (h : Ff_bad_0 x1072 w = some (r, w')) (T : ai_H) : ai_ev D1 mf_bad 0 [some (.ref 0), some (.int x1072)] [] (HX w T) 0 0 (some (.int r), HX w' T) := by
  unfold Ff_bad_0 at h
  refine ev_go 5 (pc' := 7) (L' := [some (.ref 0), some (.int x1072)]) (st' := [.int ((a_f_refusedBad w) + 1), .ref 0]) (h' := (HX w T)) (cs' := 0) (sl' := 0) rfl ?_
  refine ev_step rfl rfl rfl (PFX_7_68_0 rfl) ?_
  refine ev_go 1 (pc' := 11) (L' := [some (.ref 0), some (.int x1072)]) (st' := [.int x1072]) (h' := (HX (u_f_refusedBad w ((a_f_refusedBad w) + 1)) T)) (cs' := 0) (sl' := 0) rfl ?_
  obtain ⟨rfl, rfl⟩ := ai_smP h
  exact ev_end rfl
set_option maxHeartbeats 40000000 in
set_option maxRecDepth 100000 in
theorem Ef_tide_0 (x1068 : Int32) (x1069 : Int32) (x1070 : Int32) (w : WX) (r : Int32) (w' : WX) (h : Ff_tide_0 x1068 x1069 x1070 w = some (r, w')) (T : ai_H) : ai_ev D1 mf_tide 0 [some (.ref 0), some (.int x1068), some (.int x1069), some (.int x1070), none, none] [] (HX w T) 0 0 (some (.int r), HX w' T) := by
  unfold Ff_tide_0 at h
  refine ev_go 1 (pc' := 1) (L' := [some (.ref 0), some (.int x1068), some (.int x1069), some (.int x1070), none, none]) (st' := [.int x1068]) (h' := (HX w T)) (cs' := 0) (sl' := 0) rfl ?_
  obtain ⟨c1071, hq, h⟩ := ai_bdE h
  refine ev_call (M' := mf_isLayer) (L' := [some (.int x1068)]) (rest := []) (rv := some (.int c1071)) (h' := (HX w T)) rfl (Ef_isLayer x1068 _ hq (HX w T)) ?_
  show ai_ev D1 mf_tide 4 [some (.ref 0), some (.int x1068), some (.int x1069), some (.int x1070), none, none] [.int c1071] (HX w T) 0 0 _
  rcases ai_ifE h with ⟨hc, h⟩ | ⟨hc, h⟩
  · refine ev_if_eq (t := 26) rfl rfl (fun _ => ?_) (fun c9 => absurd hc c9)
    refine ev_go 2 (pc' := 29) (L' := [some (.ref 0), some (.int x1068), some (.int x1069), some (.int x1070), none, none]) (st' := [.int (-10), .ref 0]) (h' := (HX w T)) (cs' := 0) (sl' := 0) rfl ?_
    obtain ⟨c1073, hq, h⟩ := ai_bdE h
    refine ev_call (M' := mf_bad) (L' := [some (.ref 0), some (.int (-10))]) (rest := []) (rv := some (.int c1073.1)) (h' := (HX c1073.2 T)) rfl (Ef_bad_0 (-10) w _ _ hq T) ?_
    show ai_ev D1 mf_tide 32 [some (.ref 0), some (.int x1068), some (.int x1069), some (.int x1070), none, none] [.int c1073.1] (HX c1073.2 T) 0 0 _
    obtain ⟨rfl, rfl⟩ := ai_smP h
    exact ev_end rfl
  · refine ev_if_eq (t := 26) rfl rfl (fun c9 => absurd c9 hc) (fun _ => ?_)
    refine ev_go 3 (pc' := 10) (L' := [some (.ref 0), some (.int x1068), some (.int x1069), some (.int x1070), none, none]) (st' := [.int 5, .int 0, .int x1069]) (h' := (HX w T)) (cs' := 0) (sl' := 0) rfl ?_
    obtain ⟨c1074, hq, h⟩ := ai_bdE h
    refine ev_call (M' := mf_within) (L' := [some (.int x1069), some (.int 0), some (.int 5)]) (rest := []) (rv := some (.int c1074)) (h' := (HX w T)) rfl (Ef_within x1069 0 5 _ hq (HX w T)) ?_
    show ai_ev D1 mf_tide 13 [some (.ref 0), some (.int x1068), some (.int x1069), some (.int x1070), none, none] [.int c1074] (HX w T) 0 0 _
    rcases ai_ifE h with ⟨hc, h⟩ | ⟨hc, h⟩
    · refine ev_if_eq (t := 26) rfl rfl (fun _ => ?_) (fun c9 => absurd hc c9)
      refine ev_go 2 (pc' := 29) (L' := [some (.ref 0), some (.int x1068), some (.int x1069), some (.int x1070), none, none]) (st' := [.int (-10), .ref 0]) (h' := (HX w T)) (cs' := 0) (sl' := 0) rfl ?_
      obtain ⟨c1075, hq, h⟩ := ai_bdE h
      refine ev_call (M' := mf_bad) (L' := [some (.ref 0), some (.int (-10))]) (rest := []) (rv := some (.int c1075.1)) (h' := (HX c1075.2 T)) rfl (Ef_bad_0 (-10) w _ _ hq T) ?_
      show ai_ev D1 mf_tide 32 [some (.ref 0), some (.int x1068), some (.int x1069), some (.int x1070), none, none] [.int c1075.1] (HX c1075.2 T) 0 0 _
      obtain ⟨rfl, rfl⟩ := ai_smP h
      exact ev_end rfl
    · refine ev_if_eq (t := 26) rfl rfl (fun c9 => absurd c9 hc) (fun _ => ?_)
      refine ev_go 3 (pc' := 20) (L' := [some (.ref 0), some (.int x1068), some (.int x1069), some (.int x1070), none, none]) (st' := [.int 2, .int (-2), .int x1070]) (h' := (HX w T)) (cs' := 0) (sl' := 0) rfl ?_
      obtain ⟨c1076, hq, h⟩ := ai_bdE h
      refine ev_call (M' := mf_within) (L' := [some (.int x1070), some (.int (-2)), some (.int 2)]) (rest := []) (rv := some (.int c1076)) (h' := (HX w T)) rfl (Ef_within x1070 (-2) 2 _ hq (HX w T)) ?_
      show ai_ev D1 mf_tide 23 [some (.ref 0), some (.int x1068), some (.int x1069), some (.int x1070), none, none] [.int c1076] (HX w T) 0 0 _
      rcases ai_ifE h with ⟨hc, h⟩ | ⟨hc, h⟩
      · refine ev_if_ne (t := 33) rfl rfl (fun c9 => absurd hc c9) (fun _ => ?_)
        refine ev_go 2 (pc' := 29) (L' := [some (.ref 0), some (.int x1068), some (.int x1069), some (.int x1070), none, none]) (st' := [.int (-10), .ref 0]) (h' := (HX w T)) (cs' := 0) (sl' := 0) rfl ?_
        obtain ⟨c1079, hq, h⟩ := ai_bdE h
        refine ev_call (M' := mf_bad) (L' := [some (.ref 0), some (.int (-10))]) (rest := []) (rv := some (.int c1079.1)) (h' := (HX c1079.2 T)) rfl (Ef_bad_0 (-10) w _ _ hq T) ?_
        show ai_ev D1 mf_tide 32 [some (.ref 0), some (.int x1068), some (.int x1069), some (.int x1070), none, none] [.int c1079.1] (HX c1079.2 T) 0 0 _
        obtain ⟨rfl, rfl⟩ := ai_smP h
        exact ev_end rfl
      · refine ev_if_ne (t := 33) rfl rfl (fun _ => ?_) (fun c9 => absurd c9 hc)
        refine ev_go 10 (pc' := 50) (L' := [some (.ref 0), some (.int x1068), some (.int x1069), some (.int x1070), some (.int ((x1068 * 6) + x1069)), none]) (st' := [.int ((x1068 * 6) + x1069), .ref 4]) (h' := (HX w T)) (cs' := 0) (sl' := 0) rfl ?_
        obtain ⟨v1077, hq, h⟩ := ai_bdE h
        refine ev_iald rfl rfl hq ?_
        refine ev_go 6 (pc' := 63) (L' := [some (.ref 0), some (.int x1068), some (.int x1069), some (.int x1070), some (.int ((x1068 * 6) + x1069)), some (.int v1077)]) (st' := [.int x1070, .int ((x1068 * 6) + x1069), .ref 4]) (h' := (HX w T)) (cs' := 0) (sl' := 0) rfl ?_
        obtain ⟨q1078, hq, h⟩ := ai_bdE h
        refine ev_iast rfl rfl hq ?_
        rw [HXs_4]
        refine ev_go 1 (pc' := 66) (L' := [some (.ref 0), some (.int x1068), some (.int x1069), some (.int x1070), some (.int ((x1068 * 6) + x1069)), some (.int v1077)]) (st' := [.int v1077]) (h' := (HX (u_s1_tides w q1078) T)) (cs' := 0) (sl' := 0) rfl ?_
        obtain ⟨rfl, rfl⟩ := ai_smP h
        exact ev_end rfl
set_option maxHeartbeats 40000000 in
set_option maxRecDepth 100000 in
theorem Ef_current_0 (x1080 : Int32) (x1081 : Int32) (w : WX) (r : Int32) (w' : WX) (h : Ff_current_0 x1080 x1081 w = some (r, w')) (T : ai_H) : ai_ev D1 mf_current 0 [some (.ref 0), some (.int x1080), some (.int x1081), none] [] (HX w T) 0 0 (some (.int r), HX w' T) := by
  unfold Ff_current_0 at h
  refine ev_go 1 (pc' := 1) (L' := [some (.ref 0), some (.int x1080), some (.int x1081), none]) (st' := [.int x1080]) (h' := (HX w T)) (cs' := 0) (sl' := 0) rfl ?_
  obtain ⟨c1082, hq, h⟩ := ai_bdE h
  refine ev_call (M' := mf_isLayer) (L' := [some (.int x1080)]) (rest := []) (rv := some (.int c1082)) (h' := (HX w T)) rfl (Ef_isLayer x1080 _ hq (HX w T)) ?_
  show ai_ev D1 mf_current 4 [some (.ref 0), some (.int x1080), some (.int x1081), none] [.int c1082] (HX w T) 0 0 _
  rcases ai_ifE h with ⟨hc, h⟩ | ⟨hc, h⟩
  · refine ev_if_eq (t := 16) rfl rfl (fun _ => ?_) (fun c9 => absurd hc c9)
    refine ev_go 2 (pc' := 19) (L' := [some (.ref 0), some (.int x1080), some (.int x1081), none]) (st' := [.int (-10), .ref 0]) (h' := (HX w T)) (cs' := 0) (sl' := 0) rfl ?_
    obtain ⟨c1083, hq, h⟩ := ai_bdE h
    refine ev_call (M' := mf_bad) (L' := [some (.ref 0), some (.int (-10))]) (rest := []) (rv := some (.int c1083.1)) (h' := (HX c1083.2 T)) rfl (Ef_bad_0 (-10) w _ _ hq T) ?_
    show ai_ev D1 mf_current 22 [some (.ref 0), some (.int x1080), some (.int x1081), none] [.int c1083.1] (HX c1083.2 T) 0 0 _
    obtain ⟨rfl, rfl⟩ := ai_smP h
    exact ev_end rfl
  · refine ev_if_eq (t := 16) rfl rfl (fun c9 => absurd c9 hc) (fun _ => ?_)
    refine ev_go 3 (pc' := 10) (L' := [some (.ref 0), some (.int x1080), some (.int x1081), none]) (st' := [.int 1, .int (-1), .int x1081]) (h' := (HX w T)) (cs' := 0) (sl' := 0) rfl ?_
    obtain ⟨c1084, hq, h⟩ := ai_bdE h
    refine ev_call (M' := mf_within) (L' := [some (.int x1081), some (.int (-1)), some (.int 1)]) (rest := []) (rv := some (.int c1084)) (h' := (HX w T)) rfl (Ef_within x1081 (-1) 1 _ hq (HX w T)) ?_
    show ai_ev D1 mf_current 13 [some (.ref 0), some (.int x1080), some (.int x1081), none] [.int c1084] (HX w T) 0 0 _
    rcases ai_ifE h with ⟨hc, h⟩ | ⟨hc, h⟩
    · refine ev_if_ne (t := 23) rfl rfl (fun c9 => absurd hc c9) (fun _ => ?_)
      refine ev_go 2 (pc' := 19) (L' := [some (.ref 0), some (.int x1080), some (.int x1081), none]) (st' := [.int (-10), .ref 0]) (h' := (HX w T)) (cs' := 0) (sl' := 0) rfl ?_
      obtain ⟨c1087, hq, h⟩ := ai_bdE h
      refine ev_call (M' := mf_bad) (L' := [some (.ref 0), some (.int (-10))]) (rest := []) (rv := some (.int c1087.1)) (h' := (HX c1087.2 T)) rfl (Ef_bad_0 (-10) w _ _ hq T) ?_
      show ai_ev D1 mf_current 22 [some (.ref 0), some (.int x1080), some (.int x1081), none] [.int c1087.1] (HX c1087.2 T) 0 0 _
      obtain ⟨rfl, rfl⟩ := ai_smP h
      exact ev_end rfl
    · refine ev_if_ne (t := 23) rfl rfl (fun _ => ?_) (fun c9 => absurd c9 hc)
      refine ev_go 4 (pc' := 31) (L' := [some (.ref 0), some (.int x1080), some (.int x1081), none]) (st' := [.int x1080, .ref 3]) (h' := (HX w T)) (cs' := 0) (sl' := 0) rfl ?_
      obtain ⟨v1085, hq, h⟩ := ai_bdE h
      refine ev_iald rfl rfl hq ?_
      refine ev_go 6 (pc' := 42) (L' := [some (.ref 0), some (.int x1080), some (.int x1081), some (.int v1085)]) (st' := [.int x1081, .int x1080, .ref 3]) (h' := (HX w T)) (cs' := 0) (sl' := 0) rfl ?_
      obtain ⟨q1086, hq, h⟩ := ai_bdE h
      refine ev_iast rfl rfl hq ?_
      rw [HXs_3]
      refine ev_go 1 (pc' := 44) (L' := [some (.ref 0), some (.int x1080), some (.int x1081), some (.int v1085)]) (st' := [.int v1085]) (h' := (HX (u_s1_currents w q1086) T)) (cs' := 0) (sl' := 0) rfl ?_
      obtain ⟨rfl, rfl⟩ := ai_smP h
      exact ev_end rfl
set_option maxHeartbeats 40000000 in
set_option maxRecDepth 100000 in
theorem Ethg_add_7 (x1091 : Int32) (x1092 : Int32) (x1093 : Int32) (w : WX) (r : Int32) (w' : WX) (h : Fthg_add_7 x1091 x1092 x1093 w = some (r, w')) (T : ai_H) : ai_ev D1 mthg_add 0 [some (.ref 7), some (.int x1091), some (.int x1092), some (.int x1093)] [] (HX w T) 0 0 (some (.int r), HX w' T) := by
  unfold Fthg_add_7 at h
  refine ev_go 3 (pc' := 3) (L' := [some (.ref 7), some (.int x1091), some (.int x1092), some (.int x1093)]) (st' := [.int 5, .int 0, .int x1091]) (h' := (HX w T)) (cs' := 0) (sl' := 0) rfl ?_
  obtain ⟨c1094, hq, h⟩ := ai_bdE h
  refine ev_call (M' := mf_within) (L' := [some (.int x1091), some (.int 0), some (.int 5)]) (rest := []) (rv := some (.int c1094)) (h' := (HX w T)) rfl (Ef_within x1091 0 5 _ hq (HX w T)) ?_
  show ai_ev D1 mthg_add 6 [some (.ref 7), some (.int x1091), some (.int x1092), some (.int x1093)] [.int c1094] (HX w T) 0 0 _
  rcases ai_ifE h with ⟨hc, h⟩ | ⟨hc, h⟩
  · refine ev_if_eq (t := 29) rfl rfl (fun _ => ?_) (fun c9 => absurd hc c9)
    refine ev_go 1 (pc' := 31) (L' := [some (.ref 7), some (.int x1091), some (.int x1092), some (.int x1093)]) (st' := [.int (-2)]) (h' := (HX w T)) (cs' := 0) (sl' := 0) rfl ?_
    obtain ⟨rfl, rfl⟩ := ai_smP h
    exact ev_end rfl
  · refine ev_if_eq (t := 29) rfl rfl (fun c9 => absurd c9 hc) (fun _ => ?_)
    refine ev_go 3 (pc' := 13) (L' := [some (.ref 7), some (.int x1091), some (.int x1092), some (.int x1093)]) (st' := [.int 99, .int 1, .int x1092]) (h' := (HX w T)) (cs' := 0) (sl' := 0) rfl ?_
    obtain ⟨c1095, hq, h⟩ := ai_bdE h
    refine ev_call (M' := mf_within) (L' := [some (.int x1092), some (.int 1), some (.int 99)]) (rest := []) (rv := some (.int c1095)) (h' := (HX w T)) rfl (Ef_within x1092 1 99 _ hq (HX w T)) ?_
    show ai_ev D1 mthg_add 16 [some (.ref 7), some (.int x1091), some (.int x1092), some (.int x1093)] [.int c1095] (HX w T) 0 0 _
    rcases ai_ifE h with ⟨hc, h⟩ | ⟨hc, h⟩
    · refine ev_if_eq (t := 29) rfl rfl (fun _ => ?_) (fun c9 => absurd hc c9)
      refine ev_go 1 (pc' := 31) (L' := [some (.ref 7), some (.int x1091), some (.int x1092), some (.int x1093)]) (st' := [.int (-2)]) (h' := (HX w T)) (cs' := 0) (sl' := 0) rfl ?_
      obtain ⟨rfl, rfl⟩ := ai_smP h
      exact ev_end rfl
    · refine ev_if_eq (t := 29) rfl rfl (fun c9 => absurd c9 hc) (fun _ => ?_)
      refine ev_go 3 (pc' := 23) (L' := [some (.ref 7), some (.int x1091), some (.int x1092), some (.int x1093)]) (st' := [.int 9, .int 1, .int x1093]) (h' := (HX w T)) (cs' := 0) (sl' := 0) rfl ?_
      obtain ⟨c1096, hq, h⟩ := ai_bdE h
      refine ev_call (M' := mf_within) (L' := [some (.int x1093), some (.int 1), some (.int 9)]) (rest := []) (rv := some (.int c1096)) (h' := (HX w T)) rfl (Ef_within x1093 1 9 _ hq (HX w T)) ?_
      show ai_ev D1 mthg_add 26 [some (.ref 7), some (.int x1091), some (.int x1092), some (.int x1093)] [.int c1096] (HX w T) 0 0 _
      rcases ai_ifE h with ⟨hc, h⟩ | ⟨hc, h⟩
      · refine ev_if_ne (t := 32) rfl rfl (fun c9 => absurd hc c9) (fun _ => ?_)
        refine ev_go 1 (pc' := 31) (L' := [some (.ref 7), some (.int x1091), some (.int x1092), some (.int x1093)]) (st' := [.int (-2)]) (h' := (HX w T)) (cs' := 0) (sl' := 0) rfl ?_
        obtain ⟨rfl, rfl⟩ := ai_smP h
        exact ev_end rfl
      · refine ev_if_ne (t := 32) rfl rfl (fun _ => ?_) (fun c9 => absurd c9 hc)
        refine ev_go 3 (pc' := 38) (L' := [some (.ref 7), some (.int x1091), some (.int x1092), some (.int x1093)]) (st' := [.int 6, .int (a_s1things_count w)]) (h' := (HX w T)) (cs' := 0) (sl' := 0) rfl ?_
        rcases ai_ifE h with ⟨hc, h⟩ | ⟨hc, h⟩
        · refine ev_ic_lt (t := 44) rfl rfl (fun _ => ?_) (fun c9 => absurd hc c9)
          refine ev_go 5 (pc' := 53) (L' := [some (.ref 7), some (.int x1091), some (.int x1092), some (.int x1093)]) (st' := [.int x1091, .int (a_s1things_count w), .ref 8]) (h' := (HX w T)) (cs' := 0) (sl' := 0) rfl ?_
          obtain ⟨q1097, hq, h⟩ := ai_bdE h
          refine ev_iast rfl rfl hq ?_
          rw [HXs_8]
          refine ev_go 5 (pc' := 63) (L' := [some (.ref 7), some (.int x1091), some (.int x1092), some (.int x1093)]) (st' := [.int x1092, .int (a_s1things_count w), .ref 9]) (h' := (HX (u_s1things_kinds w q1097) T)) (cs' := 0) (sl' := 0) rfl ?_
          obtain ⟨q1098, hq, h⟩ := ai_bdE h
          refine ev_iast rfl rfl hq ?_
          rw [HXs_9]
          refine ev_go 5 (pc' := 73) (L' := [some (.ref 7), some (.int x1091), some (.int x1092), some (.int x1093)]) (st' := [.int x1093, .int (a_s1things_count w), .ref 10]) (h' := (HX (u_s1things_weights (u_s1things_kinds w q1097) q1098) T)) (cs' := 0) (sl' := 0) rfl ?_
          obtain ⟨q1099, hq, h⟩ := ai_bdE h
          refine ev_iast rfl rfl hq ?_
          rw [HXs_10]
          refine ev_go 5 (pc' := 83) (L' := [some (.ref 7), some (.int x1091), some (.int x1092), some (.int x1093)]) (st' := [.int 0, .int (a_s1things_count w), .ref 11]) (h' := (HX (u_s1things_volumes (u_s1things_weights (u_s1things_kinds w q1097) q1098) q1099) T)) (cs' := 0) (sl' := 0) rfl ?_
          obtain ⟨q1100, hq, h⟩ := ai_bdE h
          refine ev_iast rfl rfl hq ?_
          rw [HXs_11]
          refine ev_go 6 (pc' := 92) (L' := [some (.ref 7), some (.int x1091), some (.int x1092), some (.int x1093)]) (st' := [.int ((a_s1things_count w) + 1), .ref 7, .int (a_s1things_count w)]) (h' := (HX (u_s1things_ballasts (u_s1things_volumes (u_s1things_weights (u_s1things_kinds w q1097) q1098) q1099) q1100) T)) (cs' := 0) (sl' := 0) rfl ?_
          refine ev_step rfl rfl rfl (PFX_5_9_7 rfl) ?_
          obtain ⟨rfl, rfl⟩ := ai_smP h
          exact ev_end rfl
        · refine ev_ic_lt (t := 44) rfl rfl (fun c9 => absurd c9 hc) (fun _ => ?_)
          refine ev_go 1 (pc' := 43) (L' := [some (.ref 7), some (.int x1091), some (.int x1092), some (.int x1093)]) (st' := [.int (-4)]) (h' := (HX w T)) (cs' := 0) (sl' := 0) rfl ?_
          obtain ⟨rfl, rfl⟩ := ai_smP h
          exact ev_end rfl
set_option maxHeartbeats 40000000 in
set_option maxRecDepth 100000 in
theorem Ef_thing_0 (x1088 : Int32) (x1089 : Int32) (x1090 : Int32) (w : WX) (r : Int32) (w' : WX) (h : Ff_thing_0 x1088 x1089 x1090 w = some (r, w')) (T : ai_H) : ai_ev D1 mf_thing 0 [some (.ref 0), some (.int x1088), some (.int x1089), some (.int x1090)] [] (HX w T) 0 0 (some (.int r), HX w' T) := by
  unfold Ff_thing_0 at h
  refine ev_go 7 (pc' := 11) (L' := [some (.ref 0), some (.int x1088), some (.int x1089), some (.int x1090)]) (st' := [.int x1090, .int x1089, .int x1088, .ref 7, .ref 0]) (h' := (HX w T)) (cs' := 0) (sl' := 0) rfl ?_
  obtain ⟨c1101, hq, h⟩ := ai_bdE h
  refine ev_call (M' := mthg_add) (L' := [some (.ref 7), some (.int x1088), some (.int x1089), some (.int x1090)]) (rest := [.ref 0]) (rv := some (.int c1101.1)) (h' := (HX c1101.2 T)) rfl (Ethg_add_7 x1088 x1089 x1090 w _ _ hq T) ?_
  show ai_ev D1 mf_thing 14 [some (.ref 0), some (.int x1088), some (.int x1089), some (.int x1090)] [.int c1101.1, .ref 0] (HX c1101.2 T) 0 0 _
  obtain ⟨c1102, hq, h⟩ := ai_bdE h
  refine ev_call (M' := mf_counted) (L' := [some (.ref 0), some (.int c1101.1)]) (rest := []) (rv := some (.int c1102.1)) (h' := (HX c1102.2 T)) rfl (Ef_counted_0 c1101.1 c1101.2 _ _ hq T) ?_
  show ai_ev D1 mf_thing 17 [some (.ref 0), some (.int x1088), some (.int x1089), some (.int x1090)] [.int c1102.1] (HX c1102.2 T) 0 0 _
  obtain ⟨rfl, rfl⟩ := ai_smP h
  exact ev_end rfl
set_option maxHeartbeats 40000000 in
set_option maxRecDepth 100000 in
theorem Ethg_has_7 (x1105 : Int32) (w : WX) (r : Int32) (w' : WX) (h : Fthg_has_7 x1105 w = some (r, w')) (T : ai_H) : ai_ev D1 mthg_has 0 [some (.ref 7), some (.int x1105)] [] (HX w T) 0 0 (some (.int r), HX w' T) := by
  unfold Fthg_has_7 at h
  refine ev_go 6 (pc' := 8) (L' := [some (.ref 7), some (.int x1105)]) (st' := [.int ((a_s1things_count w) - 1), .int 0, .int x1105]) (h' := (HX w T)) (cs' := 0) (sl' := 0) rfl ?_
  obtain ⟨c1106, hq, h⟩ := ai_bdE h
  refine ev_call (M' := mf_within) (L' := [some (.int x1105), some (.int 0), some (.int ((a_s1things_count w) - 1))]) (rest := []) (rv := some (.int c1106)) (h' := (HX w T)) rfl (Ef_within x1105 0 ((a_s1things_count w) - 1) _ hq (HX w T)) ?_
  show ai_ev D1 mthg_has 11 [some (.ref 7), some (.int x1105)] [.int c1106] (HX w T) 0 0 _
  obtain ⟨hv, h⟩ := ai_ifS h
  obtain ⟨rfl, rfl⟩ := ai_smP h
  exact ev_zend rfl rfl rfl hv
set_option maxHeartbeats 40000000 in
set_option maxRecDepth 100000 in
theorem Ef_ballast_0 (x1103 : Int32) (x1104 : Int32) (w : WX) (r : Int32) (w' : WX) (h : Ff_ballast_0 x1103 x1104 w = some (r, w')) (T : ai_H) : ai_ev D1 mf_ballast 0 [some (.ref 0), some (.int x1103), some (.int x1104), none] [] (HX w T) 0 0 (some (.int r), HX w' T) := by
  unfold Ff_ballast_0 at h
  refine ev_go 4 (pc' := 8) (L' := [some (.ref 0), some (.int x1103), some (.int x1104), none]) (st' := [.int x1103, .ref 7]) (h' := (HX w T)) (cs' := 0) (sl' := 0) rfl ?_
  obtain ⟨c1107, hq, h⟩ := ai_bdE h
  refine ev_call (M' := mthg_has) (L' := [some (.ref 7), some (.int x1103)]) (rest := []) (rv := some (.int c1107.1)) (h' := (HX c1107.2 T)) rfl (Ethg_has_7 x1103 w _ _ hq T) ?_
  show ai_ev D1 mf_ballast 11 [some (.ref 0), some (.int x1103), some (.int x1104), none] [.int c1107.1] (HX c1107.2 T) 0 0 _
  rcases ai_ifE h with ⟨hc, h⟩ | ⟨hc, h⟩
  · refine ev_if_eq (t := 24) rfl rfl (fun _ => ?_) (fun c9 => absurd hc c9)
    refine ev_go 2 (pc' := 27) (L' := [some (.ref 0), some (.int x1103), some (.int x1104), none]) (st' := [.int (-2), .ref 0]) (h' := (HX c1107.2 T)) (cs' := 0) (sl' := 0) rfl ?_
    obtain ⟨c1108, hq, h⟩ := ai_bdE h
    refine ev_call (M' := mf_bad) (L' := [some (.ref 0), some (.int (-2))]) (rest := []) (rv := some (.int c1108.1)) (h' := (HX c1108.2 T)) rfl (Ef_bad_0 (-2) c1107.2 _ _ hq T) ?_
    show ai_ev D1 mf_ballast 30 [some (.ref 0), some (.int x1103), some (.int x1104), none] [.int c1108.1] (HX c1108.2 T) 0 0 _
    obtain ⟨rfl, rfl⟩ := ai_smP h
    exact ev_end rfl
  · refine ev_if_eq (t := 24) rfl rfl (fun c9 => absurd c9 hc) (fun _ => ?_)
    refine ev_go 3 (pc' := 18) (L' := [some (.ref 0), some (.int x1103), some (.int x1104), none]) (st' := [.int 99, .int 0, .int x1104]) (h' := (HX c1107.2 T)) (cs' := 0) (sl' := 0) rfl ?_
    obtain ⟨c1109, hq, h⟩ := ai_bdE h
    refine ev_call (M' := mf_within) (L' := [some (.int x1104), some (.int 0), some (.int 99)]) (rest := []) (rv := some (.int c1109)) (h' := (HX c1107.2 T)) rfl (Ef_within x1104 0 99 _ hq (HX c1107.2 T)) ?_
    show ai_ev D1 mf_ballast 21 [some (.ref 0), some (.int x1103), some (.int x1104), none] [.int c1109] (HX c1107.2 T) 0 0 _
    rcases ai_ifE h with ⟨hc, h⟩ | ⟨hc, h⟩
    · refine ev_if_ne (t := 31) rfl rfl (fun c9 => absurd hc c9) (fun _ => ?_)
      refine ev_go 2 (pc' := 27) (L' := [some (.ref 0), some (.int x1103), some (.int x1104), none]) (st' := [.int (-2), .ref 0]) (h' := (HX c1107.2 T)) (cs' := 0) (sl' := 0) rfl ?_
      obtain ⟨c1112, hq, h⟩ := ai_bdE h
      refine ev_call (M' := mf_bad) (L' := [some (.ref 0), some (.int (-2))]) (rest := []) (rv := some (.int c1112.1)) (h' := (HX c1112.2 T)) rfl (Ef_bad_0 (-2) c1107.2 _ _ hq T) ?_
      show ai_ev D1 mf_ballast 30 [some (.ref 0), some (.int x1103), some (.int x1104), none] [.int c1112.1] (HX c1112.2 T) 0 0 _
      obtain ⟨rfl, rfl⟩ := ai_smP h
      exact ev_end rfl
    · refine ev_if_ne (t := 31) rfl rfl (fun _ => ?_) (fun c9 => absurd c9 hc)
      refine ev_go 5 (pc' := 42) (L' := [some (.ref 0), some (.int x1103), some (.int x1104), none]) (st' := [.int x1103, .ref 11]) (h' := (HX c1107.2 T)) (cs' := 0) (sl' := 0) rfl ?_
      obtain ⟨v1110, hq, h⟩ := ai_bdE h
      refine ev_iald rfl rfl hq ?_
      refine ev_go 7 (pc' := 56) (L' := [some (.ref 0), some (.int x1103), some (.int x1104), some (.int v1110)]) (st' := [.int x1104, .int x1103, .ref 11]) (h' := (HX c1107.2 T)) (cs' := 0) (sl' := 0) rfl ?_
      obtain ⟨q1111, hq, h⟩ := ai_bdE h
      refine ev_iast rfl rfl hq ?_
      rw [HXs_11]
      refine ev_go 1 (pc' := 58) (L' := [some (.ref 0), some (.int x1103), some (.int x1104), some (.int v1110)]) (st' := [.int v1110]) (h' := (HX (u_s1things_ballasts c1107.2 q1111) T)) (cs' := 0) (sl' := 0) rfl ?_
      obtain ⟨rfl, rfl⟩ := ai_smP h
      exact ev_end rfl
set_option maxHeartbeats 40000000 in
set_option maxRecDepth 100000 in
theorem Esea_hasPlace_1 (x1119 : Int32) (w : WX) (r : Int32) (w' : WX) (h : Fsea_hasPlace_1 x1119 w = some (r, w')) (T : ai_H) : ai_ev D1 msea_hasPlace 0 [some (.ref 1), some (.int x1119)] [] (HX w T) 0 0 (some (.int r), HX w' T) := by
  unfold Fsea_hasPlace_1 at h
  refine ev_go 1 (pc' := 1) (L' := [some (.ref 1), some (.int x1119)]) (st' := [.int x1119]) (h' := (HX w T)) (cs' := 0) (sl' := 0) rfl ?_
  rcases ai_ifE h with ⟨hc, h⟩ | ⟨hc, h⟩
  · refine ev_if_lt (t := 29) rfl rfl (fun _ => ?_) (fun c9 => absurd hc c9)
    refine ev_go 1 (pc' := 30) (L' := [some (.ref 1), some (.int x1119)]) (st' := [.int 0]) (h' := (HX w T)) (cs' := 0) (sl' := 0) rfl ?_
    obtain ⟨rfl, rfl⟩ := ai_smP h
    exact ev_end rfl
  · refine ev_if_lt (t := 29) rfl rfl (fun c9 => absurd c9 hc) (fun _ => ?_)
    refine ev_go 4 (pc' := 9) (L' := [some (.ref 1), some (.int x1119)]) (st' := [.int (x1119 / 10), .ref 1]) (h' := (HX w T)) (cs' := 0) (sl' := 0) rfl ?_
    obtain ⟨c1120, hq, h⟩ := ai_bdE h
    refine ev_call (M' := msea_hasCell) (L' := [some (.ref 1), some (.int (x1119 / 10))]) (rest := []) (rv := some (.int c1120.1)) (h' := (HX c1120.2 T)) rfl (Esea_hasCell_1 (x1119 / 10) w _ _ hq T) ?_
    show ai_ev D1 msea_hasPlace 12 [some (.ref 1), some (.int x1119)] [.int c1120.1] (HX c1120.2 T) 0 0 _
    rcases ai_ifE h with ⟨hc, h⟩ | ⟨hc, h⟩
    · refine ev_if_eq (t := 29) rfl rfl (fun _ => ?_) (fun c9 => absurd hc c9)
      refine ev_go 1 (pc' := 30) (L' := [some (.ref 1), some (.int x1119)]) (st' := [.int 0]) (h' := (HX c1120.2 T)) (cs' := 0) (sl' := 0) rfl ?_
      obtain ⟨rfl, rfl⟩ := ai_smP h
      exact ev_end rfl
    · refine ev_if_eq (t := 29) rfl rfl (fun c9 => absurd c9 hc) (fun _ => ?_)
      refine ev_go 3 (pc' := 19) (L' := [some (.ref 1), some (.int x1119)]) (st' := [.int (x1119 - x1119 / 10 * 10)]) (h' := (HX c1120.2 T)) (cs' := 0) (sl' := 0) rfl ?_
      obtain ⟨c1121, hq, h⟩ := ai_bdE h
      refine ev_call (M' := mf_isLayer) (L' := [some (.int (x1119 - x1119 / 10 * 10))]) (rest := []) (rv := some (.int c1121)) (h' := (HX c1120.2 T)) rfl (Ef_isLayer (x1119 - x1119 / 10 * 10) _ hq (HX c1120.2 T)) ?_
      show ai_ev D1 msea_hasPlace 22 [some (.ref 1), some (.int x1119)] [.int c1121] (HX c1120.2 T) 0 0 _
      rcases ai_ifE h with ⟨hc, h⟩ | ⟨hc, h⟩
      · refine ev_if_eq (t := 29) rfl rfl (fun _ => ?_) (fun c9 => absurd hc c9)
        refine ev_go 1 (pc' := 30) (L' := [some (.ref 1), some (.int x1119)]) (st' := [.int 0]) (h' := (HX c1120.2 T)) (cs' := 0) (sl' := 0) rfl ?_
        obtain ⟨rfl, rfl⟩ := ai_smP h
        exact ev_end rfl
      · refine ev_if_eq (t := 29) rfl rfl (fun c9 => absurd c9 hc) (fun _ => ?_)
        refine ev_go 2 (pc' := 30) (L' := [some (.ref 1), some (.int x1119)]) (st' := [.int 1]) (h' := (HX c1120.2 T)) (cs' := 0) (sl' := 0) rfl ?_
        obtain ⟨rfl, rfl⟩ := ai_smP h
        exact ev_end rfl
set_option maxHeartbeats 40000000 in
set_option maxRecDepth 100000 in
theorem Elift_add_12 (x1125 : Int32) (x1126 : Int32) (x1127 : Int32) (w : WX) (r : Int32) (w' : WX) (h : Flift_add_12 x1125 x1126 x1127 w = some (r, w')) (T : ai_H) : ai_ev D1 mlift_add 0 [some (.ref 12), some (.int x1125), some (.int x1126), some (.int x1127)] [] (HX w T) 0 0 (some (.int r), HX w' T) := by
  unfold Flift_add_12 at h
  refine ev_go 3 (pc' := 6) (L' := [some (.ref 12), some (.int x1125), some (.int x1126), some (.int x1127)]) (st' := [.int 10, .int (a_s1lifts_count w)]) (h' := (HX w T)) (cs' := 0) (sl' := 0) rfl ?_
  rcases ai_ifE h with ⟨hc, h⟩ | ⟨hc, h⟩
  · refine ev_ic_lt (t := 12) rfl rfl (fun _ => ?_) (fun c9 => absurd hc c9)
    refine ev_go 5 (pc' := 21) (L' := [some (.ref 12), some (.int x1125), some (.int x1126), some (.int x1127)]) (st' := [.int x1125, .int (a_s1lifts_count w), .ref 13]) (h' := (HX w T)) (cs' := 0) (sl' := 0) rfl ?_
    obtain ⟨q1128, hq, h⟩ := ai_bdE h
    refine ev_iast rfl rfl hq ?_
    rw [HXs_13]
    refine ev_go 5 (pc' := 31) (L' := [some (.ref 12), some (.int x1125), some (.int x1126), some (.int x1127)]) (st' := [.int x1126, .int (a_s1lifts_count w), .ref 14]) (h' := (HX (u_s1lifts_froms w q1128) T)) (cs' := 0) (sl' := 0) rfl ?_
    obtain ⟨q1129, hq, h⟩ := ai_bdE h
    refine ev_iast rfl rfl hq ?_
    rw [HXs_14]
    refine ev_go 5 (pc' := 41) (L' := [some (.ref 12), some (.int x1125), some (.int x1126), some (.int x1127)]) (st' := [.int x1127, .int (a_s1lifts_count w), .ref 15]) (h' := (HX (u_s1lifts_tos (u_s1lifts_froms w q1128) q1129) T)) (cs' := 0) (sl' := 0) rfl ?_
    obtain ⟨q1130, hq, h⟩ := ai_bdE h
    refine ev_iast rfl rfl hq ?_
    rw [HXs_15]
    refine ev_go 6 (pc' := 50) (L' := [some (.ref 12), some (.int x1125), some (.int x1126), some (.int x1127)]) (st' := [.int ((a_s1lifts_count w) + 1), .ref 12, .int (a_s1lifts_count w)]) (h' := (HX (u_s1lifts_times (u_s1lifts_tos (u_s1lifts_froms w q1128) q1129) q1130) T)) (cs' := 0) (sl' := 0) rfl ?_
    refine ev_step rfl rfl rfl (PFX_1_9_12 rfl) ?_
    obtain ⟨rfl, rfl⟩ := ai_smP h
    exact ev_end rfl
  · refine ev_ic_lt (t := 12) rfl rfl (fun c9 => absurd c9 hc) (fun _ => ?_)
    refine ev_go 1 (pc' := 11) (L' := [some (.ref 12), some (.int x1125), some (.int x1126), some (.int x1127)]) (st' := [.int (-4)]) (h' := (HX w T)) (cs' := 0) (sl' := 0) rfl ?_
    obtain ⟨rfl, rfl⟩ := ai_smP h
    exact ev_end rfl
set_option maxHeartbeats 40000000 in
set_option maxRecDepth 100000 in
theorem Esea_addLift_1 (x1116 : Int32) (x1117 : Int32) (x1118 : Int32) (w : WX) (r : Int32) (w' : WX) (h : Fsea_addLift_1 x1116 x1117 x1118 w = some (r, w')) (T : ai_H) : ai_ev D1 msea_addLift 0 [some (.ref 1), some (.int x1116), some (.int x1117), some (.int x1118)] [] (HX w T) 0 0 (some (.int r), HX w' T) := by
  unfold Fsea_addLift_1 at h
  refine ev_go 2 (pc' := 2) (L' := [some (.ref 1), some (.int x1116), some (.int x1117), some (.int x1118)]) (st' := [.int x1116, .ref 1]) (h' := (HX w T)) (cs' := 0) (sl' := 0) rfl ?_
  obtain ⟨c1122, hq, h⟩ := ai_bdE h
  refine ev_call (M' := msea_hasPlace) (L' := [some (.ref 1), some (.int x1116)]) (rest := []) (rv := some (.int c1122.1)) (h' := (HX c1122.2 T)) rfl (Esea_hasPlace_1 x1116 w _ _ hq T) ?_
  show ai_ev D1 msea_addLift 5 [some (.ref 1), some (.int x1116), some (.int x1117), some (.int x1118)] [.int c1122.1] (HX c1122.2 T) 0 0 _
  rcases ai_ifE h with ⟨hc, h⟩ | ⟨hc, h⟩
  · refine ev_if_eq (t := 31) rfl rfl (fun _ => ?_) (fun c9 => absurd hc c9)
    refine ev_go 1 (pc' := 33) (L' := [some (.ref 1), some (.int x1116), some (.int x1117), some (.int x1118)]) (st' := [.int (-2)]) (h' := (HX c1122.2 T)) (cs' := 0) (sl' := 0) rfl ?_
    obtain ⟨rfl, rfl⟩ := ai_smP h
    exact ev_end rfl
  · refine ev_if_eq (t := 31) rfl rfl (fun c9 => absurd c9 hc) (fun _ => ?_)
    refine ev_go 2 (pc' := 10) (L' := [some (.ref 1), some (.int x1116), some (.int x1117), some (.int x1118)]) (st' := [.int x1117, .ref 1]) (h' := (HX c1122.2 T)) (cs' := 0) (sl' := 0) rfl ?_
    obtain ⟨c1123, hq, h⟩ := ai_bdE h
    refine ev_call (M' := msea_hasPlace) (L' := [some (.ref 1), some (.int x1117)]) (rest := []) (rv := some (.int c1123.1)) (h' := (HX c1123.2 T)) rfl (Esea_hasPlace_1 x1117 c1122.2 _ _ hq T) ?_
    show ai_ev D1 msea_addLift 13 [some (.ref 1), some (.int x1116), some (.int x1117), some (.int x1118)] [.int c1123.1] (HX c1123.2 T) 0 0 _
    rcases ai_ifE h with ⟨hc, h⟩ | ⟨hc, h⟩
    · refine ev_if_eq (t := 31) rfl rfl (fun _ => ?_) (fun c9 => absurd hc c9)
      refine ev_go 1 (pc' := 33) (L' := [some (.ref 1), some (.int x1116), some (.int x1117), some (.int x1118)]) (st' := [.int (-2)]) (h' := (HX c1123.2 T)) (cs' := 0) (sl' := 0) rfl ?_
      obtain ⟨rfl, rfl⟩ := ai_smP h
      exact ev_end rfl
    · refine ev_if_eq (t := 31) rfl rfl (fun c9 => absurd c9 hc) (fun _ => ?_)
      refine ev_go 2 (pc' := 18) (L' := [some (.ref 1), some (.int x1116), some (.int x1117), some (.int x1118)]) (st' := [.int x1117, .int x1116]) (h' := (HX c1123.2 T)) (cs' := 0) (sl' := 0) rfl ?_
      rcases ai_ifE h with ⟨hc, h⟩ | ⟨hc, h⟩
      · refine ev_ic_eq (t := 31) rfl rfl (fun _ => ?_) (fun c9 => absurd hc c9)
        refine ev_go 1 (pc' := 33) (L' := [some (.ref 1), some (.int x1116), some (.int x1117), some (.int x1118)]) (st' := [.int (-2)]) (h' := (HX c1123.2 T)) (cs' := 0) (sl' := 0) rfl ?_
        obtain ⟨rfl, rfl⟩ := ai_smP h
        exact ev_end rfl
      · refine ev_ic_eq (t := 31) rfl rfl (fun c9 => absurd c9 hc) (fun _ => ?_)
        refine ev_go 3 (pc' := 25) (L' := [some (.ref 1), some (.int x1116), some (.int x1117), some (.int x1118)]) (st' := [.int 9, .int 1, .int x1118]) (h' := (HX c1123.2 T)) (cs' := 0) (sl' := 0) rfl ?_
        obtain ⟨c1124, hq, h⟩ := ai_bdE h
        refine ev_call (M' := mf_within) (L' := [some (.int x1118), some (.int 1), some (.int 9)]) (rest := []) (rv := some (.int c1124)) (h' := (HX c1123.2 T)) rfl (Ef_within x1118 1 9 _ hq (HX c1123.2 T)) ?_
        show ai_ev D1 msea_addLift 28 [some (.ref 1), some (.int x1116), some (.int x1117), some (.int x1118)] [.int c1124] (HX c1123.2 T) 0 0 _
        rcases ai_ifE h with ⟨hc, h⟩ | ⟨hc, h⟩
        · refine ev_if_ne (t := 34) rfl rfl (fun c9 => absurd hc c9) (fun _ => ?_)
          refine ev_go 1 (pc' := 33) (L' := [some (.ref 1), some (.int x1116), some (.int x1117), some (.int x1118)]) (st' := [.int (-2)]) (h' := (HX c1123.2 T)) (cs' := 0) (sl' := 0) rfl ?_
          obtain ⟨rfl, rfl⟩ := ai_smP h
          exact ev_end rfl
        · refine ev_if_ne (t := 34) rfl rfl (fun _ => ?_) (fun c9 => absurd c9 hc)
          refine ev_go 5 (pc' := 41) (L' := [some (.ref 1), some (.int x1116), some (.int x1117), some (.int x1118)]) (st' := [.int x1118, .int x1117, .int x1116, .ref 12]) (h' := (HX c1123.2 T)) (cs' := 0) (sl' := 0) rfl ?_
          obtain ⟨c1131, hq, h⟩ := ai_bdE h
          refine ev_call (M' := mlift_add) (L' := [some (.ref 12), some (.int x1116), some (.int x1117), some (.int x1118)]) (rest := []) (rv := some (.int c1131.1)) (h' := (HX c1131.2 T)) rfl (Elift_add_12 x1116 x1117 x1118 c1123.2 _ _ hq T) ?_
          show ai_ev D1 msea_addLift 44 [some (.ref 1), some (.int x1116), some (.int x1117), some (.int x1118)] [.int c1131.1] (HX c1131.2 T) 0 0 _
          obtain ⟨rfl, rfl⟩ := ai_smP h
          exact ev_end rfl
set_option maxHeartbeats 40000000 in
set_option maxRecDepth 100000 in
theorem Ef_lift_0 (x1113 : Int32) (x1114 : Int32) (x1115 : Int32) (w : WX) (r : Int32) (w' : WX) (h : Ff_lift_0 x1113 x1114 x1115 w = some (r, w')) (T : ai_H) : ai_ev D1 mf_lift 0 [some (.ref 0), some (.int x1113), some (.int x1114), some (.int x1115)] [] (HX w T) 0 0 (some (.int r), HX w' T) := by
  unfold Ff_lift_0 at h
  refine ev_go 6 (pc' := 8) (L' := [some (.ref 0), some (.int x1113), some (.int x1114), some (.int x1115)]) (st' := [.int x1115, .int x1114, .int x1113, .ref 1, .ref 0]) (h' := (HX w T)) (cs' := 0) (sl' := 0) rfl ?_
  obtain ⟨c1132, hq, h⟩ := ai_bdE h
  refine ev_call (M' := msea_addLift) (L' := [some (.ref 1), some (.int x1113), some (.int x1114), some (.int x1115)]) (rest := [.ref 0]) (rv := some (.int c1132.1)) (h' := (HX c1132.2 T)) rfl (Esea_addLift_1 x1113 x1114 x1115 w _ _ hq T) ?_
  show ai_ev D1 mf_lift 11 [some (.ref 0), some (.int x1113), some (.int x1114), some (.int x1115)] [.int c1132.1, .ref 0] (HX c1132.2 T) 0 0 _
  obtain ⟨c1133, hq, h⟩ := ai_bdE h
  refine ev_call (M' := mf_counted) (L' := [some (.ref 0), some (.int c1132.1)]) (rest := []) (rv := some (.int c1133.1)) (h' := (HX c1133.2 T)) rfl (Ef_counted_0 c1132.1 c1132.2 _ _ hq T) ?_
  show ai_ev D1 mf_lift 14 [some (.ref 0), some (.int x1113), some (.int x1114), some (.int x1115)] [.int c1133.1] (HX c1133.2 T) 0 0 _
  obtain ⟨rfl, rfl⟩ := ai_smP h
  exact ev_end rfl
set_option maxHeartbeats 40000000 in
set_option maxRecDepth 100000 in
theorem EGsea_addTown_1 : ∀ n : Nat, (∀ (y1137 : Int32) (y1138 : Int32) (w : WX) (r : Int32) (w' : WX), Gsea_addTown_1 n 0 y1137 y1138 w = some (r, w') → ∀ (T : ai_H), ai_ev D1 msea_addTown 13 [some (.ref 1), some (.int y1137), some (.int y1138)] [] (HX w T) 0 0 (some (.int r), HX w' T)) := by
  intro n
  induction n with
  | zero =>
    exact (fun _ _ _ _ _ h => by cases h)
  | succ n ih0 =>
    intro y1137 y1138 w r w' h T
    simp only [Gsea_addTown_1] at h
    refine ev_go 3 (pc' := 18) (L' := [some (.ref 1), some (.int y1137), some (.int y1138)]) (st' := [.int (a_s1_towns w), .int y1138]) (h' := (HX w T)) (cs' := 0) (sl' := 0) rfl ?_
    rcases ai_ifE h with ⟨hc, h⟩ | ⟨hc, h⟩
    · refine ev_ic_ge (t := 40) rfl rfl (fun _ => ?_) (fun c9 => absurd hc c9)
      refine ev_go 3 (pc' := 46) (L' := [some (.ref 1), some (.int y1137), some (.int y1138)]) (st' := [.int 6, .int (a_s1_towns w)]) (h' := (HX w T)) (cs' := 0) (sl' := 0) rfl ?_
      rcases ai_ifE h with ⟨hc, h⟩ | ⟨hc, h⟩
      · refine ev_ic_lt (t := 52) rfl rfl (fun _ => ?_) (fun c9 => absurd hc c9)
        refine ev_go 5 (pc' := 61) (L' := [some (.ref 1), some (.int y1137), some (.int y1138)]) (st' := [.int y1137, .int (a_s1_towns w), .ref 16]) (h' := (HX w T)) (cs' := 0) (sl' := 0) rfl ?_
        obtain ⟨q1139, hq, h⟩ := ai_bdE h
        refine ev_iast rfl rfl hq ?_
        rw [HXs_16]
        refine ev_go 6 (pc' := 70) (L' := [some (.ref 1), some (.int y1137), some (.int y1138)]) (st' := [.int ((a_s1_towns w) + 1), .ref 1, .int (a_s1_towns w)]) (h' := (HX (u_s1_townPlaces w q1139) T)) (cs' := 0) (sl' := 0) rfl ?_
        refine ev_step rfl rfl rfl (PFX_2_51_1 rfl) ?_
        obtain ⟨rfl, rfl⟩ := ai_smP h
        exact ev_end rfl
      · refine ev_ic_lt (t := 52) rfl rfl (fun c9 => absurd c9 hc) (fun _ => ?_)
        refine ev_go 1 (pc' := 51) (L' := [some (.ref 1), some (.int y1137), some (.int y1138)]) (st' := [.int (-4)]) (h' := (HX w T)) (cs' := 0) (sl' := 0) rfl ?_
        obtain ⟨rfl, rfl⟩ := ai_smP h
        exact ev_end rfl
    · refine ev_ic_ge (t := 40) rfl rfl (fun c9 => absurd c9 hc) (fun _ => ?_)
      refine ev_go 3 (pc' := 26) (L' := [some (.ref 1), some (.int y1137), some (.int y1138)]) (st' := [.int y1138, .ref 16]) (h' := (HX w T)) (cs' := 0) (sl' := 0) rfl ?_
      obtain ⟨v1140, hq, h⟩ := ai_bdE h
      refine ev_iald rfl rfl hq ?_
      refine ev_go 1 (pc' := 28) (L' := [some (.ref 1), some (.int y1137), some (.int y1138)]) (st' := [.int y1137, .int v1140]) (h' := (HX w T)) (cs' := 0) (sl' := 0) rfl ?_
      rcases ai_ifE h with ⟨hc, h⟩ | ⟨hc, h⟩
      · refine ev_ic_ne (t := 34) rfl rfl (fun c9 => absurd hc c9) (fun _ => ?_)
        refine ev_go 1 (pc' := 33) (L' := [some (.ref 1), some (.int y1137), some (.int y1138)]) (st' := [.int (-3)]) (h' := (HX w T)) (cs' := 0) (sl' := 0) rfl ?_
        obtain ⟨rfl, rfl⟩ := ai_smP h
        exact ev_end rfl
      · refine ev_ic_ne (t := 34) rfl rfl (fun _ => ?_) (fun c9 => absurd c9 hc)
        refine ev_go 2 (pc' := 13) (L' := [some (.ref 1), some (.int y1137), some (.int (y1138 + 1))]) (st' := []) (h' := (HX w T)) (cs' := 0) (sl' := 0) rfl ?_
        exact ih0 _ _ _ _ _ h T
set_option maxHeartbeats 40000000 in
set_option maxRecDepth 100000 in
theorem Esea_addTown_1 (n : Nat) (x1135 : Int32) (w : WX) (r : Int32) (w' : WX) (h : Fsea_addTown_1 n x1135 w = some (r, w')) (T : ai_H) : ai_ev D1 msea_addTown 0 [some (.ref 1), some (.int x1135), none] [] (HX w T) 0 0 (some (.int r), HX w' T) := by
  unfold Fsea_addTown_1 at h
  have ih0 := EGsea_addTown_1 n
  refine ev_go 2 (pc' := 2) (L' := [some (.ref 1), some (.int x1135), none]) (st' := [.int x1135, .ref 1]) (h' := (HX w T)) (cs' := 0) (sl' := 0) rfl ?_
  obtain ⟨c1136, hq, h⟩ := ai_bdE h
  refine ev_call (M' := msea_hasPlace) (L' := [some (.ref 1), some (.int x1135)]) (rest := []) (rv := some (.int c1136.1)) (h' := (HX c1136.2 T)) rfl (Esea_hasPlace_1 x1135 w _ _ hq T) ?_
  show ai_ev D1 msea_addTown 5 [some (.ref 1), some (.int x1135), none] [.int c1136.1] (HX c1136.2 T) 0 0 _
  rcases ai_ifE h with ⟨hc, h⟩ | ⟨hc, h⟩
  · refine ev_if_ne (t := 11) rfl rfl (fun c9 => absurd hc c9) (fun _ => ?_)
    refine ev_go 1 (pc' := 10) (L' := [some (.ref 1), some (.int x1135), none]) (st' := [.int (-2)]) (h' := (HX c1136.2 T)) (cs' := 0) (sl' := 0) rfl ?_
    obtain ⟨rfl, rfl⟩ := ai_smP h
    exact ev_end rfl
  · refine ev_if_ne (t := 11) rfl rfl (fun _ => ?_) (fun c9 => absurd c9 hc)
    refine ev_go 2 (pc' := 13) (L' := [some (.ref 1), some (.int x1135), some (.int 0)]) (st' := []) (h' := (HX c1136.2 T)) (cs' := 0) (sl' := 0) rfl ?_
    exact ih0 _ _ _ _ _ h T
set_option maxHeartbeats 40000000 in
set_option maxRecDepth 100000 in
theorem Ef_town_0 (n : Nat) (x1134 : Int32) (w : WX) (r : Int32) (w' : WX) (h : Ff_town_0 n x1134 w = some (r, w')) (T : ai_H) : ai_ev D1 mf_town 0 [some (.ref 0), some (.int x1134)] [] (HX w T) 0 0 (some (.int r), HX w' T) := by
  unfold Ff_town_0 at h
  refine ev_go 4 (pc' := 6) (L' := [some (.ref 0), some (.int x1134)]) (st' := [.int x1134, .ref 1, .ref 0]) (h' := (HX w T)) (cs' := 0) (sl' := 0) rfl ?_
  obtain ⟨c1141, hq, h⟩ := ai_bdE h
  refine ev_call (M' := msea_addTown) (L' := [some (.ref 1), some (.int x1134), none]) (rest := [.ref 0]) (rv := some (.int c1141.1)) (h' := (HX c1141.2 T)) rfl (Esea_addTown_1 n x1134 w _ _ hq T) ?_
  show ai_ev D1 mf_town 9 [some (.ref 0), some (.int x1134)] [.int c1141.1, .ref 0] (HX c1141.2 T) 0 0 _
  obtain ⟨c1142, hq, h⟩ := ai_bdE h
  refine ev_call (M' := mf_counted) (L' := [some (.ref 0), some (.int c1141.1)]) (rest := []) (rv := some (.int c1142.1)) (h' := (HX c1142.2 T)) rfl (Ef_counted_0 c1141.1 c1141.2 _ _ hq T) ?_
  show ai_ev D1 mf_town 12 [some (.ref 0), some (.int x1134)] [.int c1142.1] (HX c1142.2 T) 0 0 _
  obtain ⟨rfl, rfl⟩ := ai_smP h
  exact ev_end rfl
set_option maxHeartbeats 40000000 in
set_option maxRecDepth 100000 in
theorem Esea_putDam_1 (x1145 : Int32) (x1146 : Int32) (w : WX) (r : Int32) (w' : WX) (h : Fsea_putDam_1 x1145 x1146 w = some (r, w')) (T : ai_H) : ai_ev D1 msea_putDam 0 [some (.ref 1), some (.int x1145), some (.int x1146)] [] (HX w T) 0 0 (some (.int r), HX w' T) := by
  unfold Fsea_putDam_1 at h
  refine ev_go 6 (pc' := 8) (L' := [some (.ref 1), some (.int x1145), some (.int x1146)]) (st' := [.int ((a_s1_cells w) - 2), .int 0, .int x1145]) (h' := (HX w T)) (cs' := 0) (sl' := 0) rfl ?_
  obtain ⟨c1147, hq, h⟩ := ai_bdE h
  refine ev_call (M' := mf_within) (L' := [some (.int x1145), some (.int 0), some (.int ((a_s1_cells w) - 2))]) (rest := []) (rv := some (.int c1147)) (h' := (HX w T)) rfl (Ef_within x1145 0 ((a_s1_cells w) - 2) _ hq (HX w T)) ?_
  show ai_ev D1 msea_putDam 11 [some (.ref 1), some (.int x1145), some (.int x1146)] [.int c1147] (HX w T) 0 0 _
  rcases ai_ifE h with ⟨hc, h⟩ | ⟨hc, h⟩
  · refine ev_if_ne (t := 17) rfl rfl (fun c9 => absurd hc c9) (fun _ => ?_)
    refine ev_go 1 (pc' := 16) (L' := [some (.ref 1), some (.int x1145), some (.int x1146)]) (st' := [.int (-2)]) (h' := (HX w T)) (cs' := 0) (sl' := 0) rfl ?_
    obtain ⟨rfl, rfl⟩ := ai_smP h
    exact ev_end rfl
  · refine ev_if_ne (t := 17) rfl rfl (fun _ => ?_) (fun c9 => absurd c9 hc)
    refine ev_go 7 (pc' := 26) (L' := [some (.ref 1), some (.int x1145), some (.int x1146)]) (st' := [.int x1146, .int (((a_s1_dams w) >>> (x1145 &&& 31)) &&& 1)]) (h' := (HX w T)) (cs' := 0) (sl' := 0) rfl ?_
    rcases ai_ifE h with ⟨hc, h⟩ | ⟨hc, h⟩
    · refine ev_if_eq (t := 33) rfl rfl (fun _ => ?_) (fun c9 => absurd hc c9)
      refine ev_go 1 (pc' := 34) (L' := [some (.ref 1), some (.int x1145), some (.int x1146)]) (st' := [.int 0, .int (((a_s1_dams w) >>> (x1145 &&& 31)) &&& 1)]) (h' := (HX w T)) (cs' := 0) (sl' := 0) rfl ?_
      rcases ai_ifE h with ⟨hc, h⟩ | ⟨hc, h⟩
      · refine ev_ic_ne (t := 40) rfl rfl (fun c9 => absurd hc c9) (fun _ => ?_)
        refine ev_go 1 (pc' := 39) (L' := [some (.ref 1), some (.int x1145), some (.int x1146)]) (st' := [.int (-3)]) (h' := (HX w T)) (cs' := 0) (sl' := 0) rfl ?_
        obtain ⟨rfl, rfl⟩ := ai_smP h
        exact ev_end rfl
      · refine ev_ic_ne (t := 40) rfl rfl (fun _ => ?_) (fun c9 => absurd c9 hc)
        refine ev_go 7 (pc' := 49) (L' := [some (.ref 1), some (.int x1145), some (.int x1146)]) (st' := [.int ((a_s1_dams w) ^^^ (1 <<< (x1145 &&& 31))), .ref 1]) (h' := (HX w T)) (cs' := 0) (sl' := 0) rfl ?_
        refine ev_step rfl rfl rfl (PFX_2_18_1 rfl) ?_
        refine ev_go 1 (pc' := 53) (L' := [some (.ref 1), some (.int x1145), some (.int x1146)]) (st' := [.int 1]) (h' := (HX (u_s1_dams w ((a_s1_dams w) ^^^ (1 <<< (x1145 &&& 31)))) T)) (cs' := 0) (sl' := 0) rfl ?_
        obtain ⟨rfl, rfl⟩ := ai_smP h
        exact ev_end rfl
    · refine ev_if_eq (t := 33) rfl rfl (fun c9 => absurd c9 hc) (fun _ => ?_)
      refine ev_go 2 (pc' := 34) (L' := [some (.ref 1), some (.int x1145), some (.int x1146)]) (st' := [.int 1, .int (((a_s1_dams w) >>> (x1145 &&& 31)) &&& 1)]) (h' := (HX w T)) (cs' := 0) (sl' := 0) rfl ?_
      rcases ai_ifE h with ⟨hc, h⟩ | ⟨hc, h⟩
      · refine ev_ic_ne (t := 40) rfl rfl (fun c9 => absurd hc c9) (fun _ => ?_)
        refine ev_go 1 (pc' := 39) (L' := [some (.ref 1), some (.int x1145), some (.int x1146)]) (st' := [.int (-3)]) (h' := (HX w T)) (cs' := 0) (sl' := 0) rfl ?_
        obtain ⟨rfl, rfl⟩ := ai_smP h
        exact ev_end rfl
      · refine ev_ic_ne (t := 40) rfl rfl (fun _ => ?_) (fun c9 => absurd c9 hc)
        refine ev_go 7 (pc' := 49) (L' := [some (.ref 1), some (.int x1145), some (.int x1146)]) (st' := [.int ((a_s1_dams w) ^^^ (1 <<< (x1145 &&& 31))), .ref 1]) (h' := (HX w T)) (cs' := 0) (sl' := 0) rfl ?_
        refine ev_step rfl rfl rfl (PFX_2_18_1 rfl) ?_
        refine ev_go 1 (pc' := 53) (L' := [some (.ref 1), some (.int x1145), some (.int x1146)]) (st' := [.int 1]) (h' := (HX (u_s1_dams w ((a_s1_dams w) ^^^ (1 <<< (x1145 &&& 31)))) T)) (cs' := 0) (sl' := 0) rfl ?_
        obtain ⟨rfl, rfl⟩ := ai_smP h
        exact ev_end rfl
set_option maxHeartbeats 40000000 in
set_option maxRecDepth 100000 in
theorem Ef_dam_0 (x1143 : Int32) (x1144 : Int32) (w : WX) (r : Int32) (w' : WX) (h : Ff_dam_0 x1143 x1144 w = some (r, w')) (T : ai_H) : ai_ev D1 mf_dam 0 [some (.ref 0), some (.int x1143), some (.int x1144)] [] (HX w T) 0 0 (some (.int r), HX w' T) := by
  unfold Ff_dam_0 at h
  refine ev_go 5 (pc' := 7) (L' := [some (.ref 0), some (.int x1143), some (.int x1144)]) (st' := [.int x1144, .int x1143, .ref 1, .ref 0]) (h' := (HX w T)) (cs' := 0) (sl' := 0) rfl ?_
  obtain ⟨c1148, hq, h⟩ := ai_bdE h
  refine ev_call (M' := msea_putDam) (L' := [some (.ref 1), some (.int x1143), some (.int x1144)]) (rest := [.ref 0]) (rv := some (.int c1148.1)) (h' := (HX c1148.2 T)) rfl (Esea_putDam_1 x1143 x1144 w _ _ hq T) ?_
  show ai_ev D1 mf_dam 10 [some (.ref 0), some (.int x1143), some (.int x1144)] [.int c1148.1, .ref 0] (HX c1148.2 T) 0 0 _
  obtain ⟨c1149, hq, h⟩ := ai_bdE h
  refine ev_call (M' := mf_counted) (L' := [some (.ref 0), some (.int c1148.1)]) (rest := []) (rv := some (.int c1149.1)) (h' := (HX c1149.2 T)) rfl (Ef_counted_0 c1148.1 c1148.2 _ _ hq T) ?_
  show ai_ev D1 mf_dam 13 [some (.ref 0), some (.int x1143), some (.int x1144)] [.int c1149.1] (HX c1149.2 T) 0 0 _
  obtain ⟨rfl, rfl⟩ := ai_smP h
  exact ev_end rfl
set_option maxHeartbeats 40000000 in
set_option maxRecDepth 100000 in
theorem Esea_addDrop_1 (x1152 : Int32) (x1153 : Int32) (w : WX) (r : Int32) (w' : WX) (h : Fsea_addDrop_1 x1152 x1153 w = some (r, w')) (T : ai_H) : ai_ev D1 msea_addDrop 0 [some (.ref 1), some (.int x1152), some (.int x1153)] [] (HX w T) 0 0 (some (.int r), HX w' T) := by
  unfold Fsea_addDrop_1 at h
  refine ev_go 1 (pc' := 1) (L' := [some (.ref 1), some (.int x1152), some (.int x1153)]) (st' := [.int x1152]) (h' := (HX w T)) (cs' := 0) (sl' := 0) rfl ?_
  obtain ⟨c1154, hq, h⟩ := ai_bdE h
  refine ev_call (M' := mf_isLayer) (L' := [some (.int x1152)]) (rest := []) (rv := some (.int c1154)) (h' := (HX w T)) rfl (Ef_isLayer x1152 _ hq (HX w T)) ?_
  show ai_ev D1 msea_addDrop 4 [some (.ref 1), some (.int x1152), some (.int x1153)] [.int c1154] (HX w T) 0 0 _
  rcases ai_ifE h with ⟨hc, h⟩ | ⟨hc, h⟩
  · refine ev_if_ne (t := 10) rfl rfl (fun c9 => absurd hc c9) (fun _ => ?_)
    refine ev_go 1 (pc' := 9) (L' := [some (.ref 1), some (.int x1152), some (.int x1153)]) (st' := [.int (-2)]) (h' := (HX w T)) (cs' := 0) (sl' := 0) rfl ?_
    obtain ⟨rfl, rfl⟩ := ai_smP h
    exact ev_end rfl
  · refine ev_if_ne (t := 10) rfl rfl (fun _ => ?_) (fun c9 => absurd c9 hc)
    refine ev_go 3 (pc' := 16) (L' := [some (.ref 1), some (.int x1152), some (.int x1153)]) (st' := [.int 6, .int (a_s1_drops w)]) (h' := (HX w T)) (cs' := 0) (sl' := 0) rfl ?_
    rcases ai_ifE h with ⟨hc, h⟩ | ⟨hc, h⟩
    · refine ev_ic_lt (t := 22) rfl rfl (fun _ => ?_) (fun c9 => absurd hc c9)
      refine ev_go 5 (pc' := 31) (L' := [some (.ref 1), some (.int x1152), some (.int x1153)]) (st' := [.int x1152, .int (a_s1_drops w), .ref 17]) (h' := (HX w T)) (cs' := 0) (sl' := 0) rfl ?_
      obtain ⟨q1155, hq, h⟩ := ai_bdE h
      refine ev_iast rfl rfl hq ?_
      rw [HXs_17]
      refine ev_go 5 (pc' := 41) (L' := [some (.ref 1), some (.int x1152), some (.int x1153)]) (st' := [.int x1153, .int (a_s1_drops w), .ref 18]) (h' := (HX (u_s1_dropLayers w q1155) T)) (cs' := 0) (sl' := 0) rfl ?_
      rcases ai_ifE h with ⟨hc, h⟩ | ⟨hc, h⟩
      · refine ev_if_eq (t := 48) rfl rfl (fun _ => ?_) (fun c9 => absurd hc c9)
        refine ev_go 1 (pc' := 49) (L' := [some (.ref 1), some (.int x1152), some (.int x1153)]) (st' := [.int 0, .int (a_s1_drops w), .ref 18]) (h' := (HX (u_s1_dropLayers w q1155) T)) (cs' := 0) (sl' := 0) rfl ?_
        obtain ⟨q1156, hq, h⟩ := ai_bdE h
        refine ev_iast rfl rfl hq ?_
        rw [HXs_18]
        refine ev_go 5 (pc' := 57) (L' := [some (.ref 1), some (.int x1152), some (.int x1153)]) (st' := [.int ((a_s1_drops w) + 1), .ref 1]) (h' := (HX (u_s1_dropFloats (u_s1_dropLayers w q1155) q1156) T)) (cs' := 0) (sl' := 0) rfl ?_
        refine ev_step rfl rfl rfl (PFX_2_57_1 rfl) ?_
        refine ev_go 2 (pc' := 64) (L' := [some (.ref 1), some (.int x1152), some (.int x1153)]) (st' := [.int ((a_s1_drops w) + 1)]) (h' := (HX (u_s1_drops (u_s1_dropFloats (u_s1_dropLayers w q1155) q1156) ((a_s1_drops w) + 1)) T)) (cs' := 0) (sl' := 0) rfl ?_
        obtain ⟨rfl, rfl⟩ := ai_smP h
        exact ev_end rfl
      · refine ev_if_eq (t := 48) rfl rfl (fun c9 => absurd c9 hc) (fun _ => ?_)
        refine ev_go 2 (pc' := 49) (L' := [some (.ref 1), some (.int x1152), some (.int x1153)]) (st' := [.int 1, .int (a_s1_drops w), .ref 18]) (h' := (HX (u_s1_dropLayers w q1155) T)) (cs' := 0) (sl' := 0) rfl ?_
        obtain ⟨q1157, hq, h⟩ := ai_bdE h
        refine ev_iast rfl rfl hq ?_
        rw [HXs_18]
        refine ev_go 5 (pc' := 57) (L' := [some (.ref 1), some (.int x1152), some (.int x1153)]) (st' := [.int ((a_s1_drops w) + 1), .ref 1]) (h' := (HX (u_s1_dropFloats (u_s1_dropLayers w q1155) q1157) T)) (cs' := 0) (sl' := 0) rfl ?_
        refine ev_step rfl rfl rfl (PFX_2_57_1 rfl) ?_
        refine ev_go 2 (pc' := 64) (L' := [some (.ref 1), some (.int x1152), some (.int x1153)]) (st' := [.int ((a_s1_drops w) + 1)]) (h' := (HX (u_s1_drops (u_s1_dropFloats (u_s1_dropLayers w q1155) q1157) ((a_s1_drops w) + 1)) T)) (cs' := 0) (sl' := 0) rfl ?_
        obtain ⟨rfl, rfl⟩ := ai_smP h
        exact ev_end rfl
    · refine ev_ic_lt (t := 22) rfl rfl (fun c9 => absurd c9 hc) (fun _ => ?_)
      refine ev_go 1 (pc' := 21) (L' := [some (.ref 1), some (.int x1152), some (.int x1153)]) (st' := [.int (-4)]) (h' := (HX w T)) (cs' := 0) (sl' := 0) rfl ?_
      obtain ⟨rfl, rfl⟩ := ai_smP h
      exact ev_end rfl
set_option maxHeartbeats 40000000 in
set_option maxRecDepth 100000 in
theorem Ef_drop_0 (x1150 : Int32) (x1151 : Int32) (w : WX) (r : Int32) (w' : WX) (h : Ff_drop_0 x1150 x1151 w = some (r, w')) (T : ai_H) : ai_ev D1 mf_drop 0 [some (.ref 0), some (.int x1150), some (.int x1151)] [] (HX w T) 0 0 (some (.int r), HX w' T) := by
  unfold Ff_drop_0 at h
  refine ev_go 5 (pc' := 7) (L' := [some (.ref 0), some (.int x1150), some (.int x1151)]) (st' := [.int x1151, .int x1150, .ref 1, .ref 0]) (h' := (HX w T)) (cs' := 0) (sl' := 0) rfl ?_
  obtain ⟨c1158, hq, h⟩ := ai_bdE h
  refine ev_call (M' := msea_addDrop) (L' := [some (.ref 1), some (.int x1150), some (.int x1151)]) (rest := [.ref 0]) (rv := some (.int c1158.1)) (h' := (HX c1158.2 T)) rfl (Esea_addDrop_1 x1150 x1151 w _ _ hq T) ?_
  show ai_ev D1 mf_drop 10 [some (.ref 0), some (.int x1150), some (.int x1151)] [.int c1158.1, .ref 0] (HX c1158.2 T) 0 0 _
  obtain ⟨c1159, hq, h⟩ := ai_bdE h
  refine ev_call (M' := mf_counted) (L' := [some (.ref 0), some (.int c1158.1)]) (rest := []) (rv := some (.int c1159.1)) (h' := (HX c1159.2 T)) rfl (Ef_counted_0 c1158.1 c1158.2 _ _ hq T) ?_
  show ai_ev D1 mf_drop 13 [some (.ref 0), some (.int x1150), some (.int x1151)] [.int c1159.1] (HX c1159.2 T) 0 0 _
  obtain ⟨rfl, rfl⟩ := ai_smP h
  exact ev_end rfl
set_option maxHeartbeats 40000000 in
set_option maxRecDepth 100000 in
theorem Esea_empty_1 (x1161 : Int32) (w : WX) (r : Int32) (w' : WX) (h : Fsea_empty_1 x1161 w = some (r, w')) (T : ai_H) : ai_ev D1 msea_empty 0 [some (.ref 1), some (.int x1161), none] [] (HX w T) 0 0 (some (.int r), HX w' T) := by
  unfold Fsea_empty_1 at h
  refine ev_go 3 (pc' := 3) (L' := [some (.ref 1), some (.int x1161), none]) (st' := [.int 3, .int 0, .int x1161]) (h' := (HX w T)) (cs' := 0) (sl' := 0) rfl ?_
  obtain ⟨c1162, hq, h⟩ := ai_bdE h
  refine ev_call (M' := mf_within) (L' := [some (.int x1161), some (.int 0), some (.int 3)]) (rest := []) (rv := some (.int c1162)) (h' := (HX w T)) rfl (Ef_within x1161 0 3 _ hq (HX w T)) ?_
  show ai_ev D1 msea_empty 6 [some (.ref 1), some (.int x1161), none] [.int c1162] (HX w T) 0 0 _
  rcases ai_ifE h with ⟨hc, h⟩ | ⟨hc, h⟩
  · refine ev_if_ne (t := 12) rfl rfl (fun c9 => absurd hc c9) (fun _ => ?_)
    refine ev_go 1 (pc' := 11) (L' := [some (.ref 1), some (.int x1161), none]) (st' := [.int (-2)]) (h' := (HX w T)) (cs' := 0) (sl' := 0) rfl ?_
    obtain ⟨rfl, rfl⟩ := ai_smP h
    exact ev_end rfl
  · refine ev_if_ne (t := 12) rfl rfl (fun _ => ?_) (fun c9 => absurd c9 hc)
    refine ev_go 1 (pc' := 13) (L' := [some (.ref 1), some (.int x1161), none]) (st' := [.int x1161]) (h' := (HX w T)) (cs' := 0) (sl' := 0) rfl ?_
    rcases ai_ifE h with ⟨hc, h⟩ | ⟨hc, h⟩
    · refine ev_if_ne (t := 35) rfl rfl (fun c9 => absurd hc c9) (fun _ => ?_)
      refine ev_go 7 (pc' := 29) (L' := [some (.ref 1), some (.int x1161), some (.int (a_s1things_count w))]) (st' := [.int 0, .ref 7]) (h' := (HX w T)) (cs' := 0) (sl' := 0) rfl ?_
      refine ev_step rfl rfl rfl (PFX_2_95_7 rfl) ?_
      refine ev_go 2 (pc' := 88) (L' := [some (.ref 1), some (.int x1161), some (.int (a_s1things_count w))]) (st' := [.int (a_s1things_count w)]) (h' := (HX (u_s1things_count w 0) T)) (cs' := 0) (sl' := 0) rfl ?_
      obtain ⟨rfl, rfl⟩ := ai_smP h
      exact ev_end rfl
    · refine ev_if_ne (t := 35) rfl rfl (fun _ => ?_) (fun c9 => absurd c9 hc)
      refine ev_go 2 (pc' := 37) (L' := [some (.ref 1), some (.int x1161), none]) (st' := [.int 1, .int x1161]) (h' := (HX w T)) (cs' := 0) (sl' := 0) rfl ?_
      rcases ai_ifE h with ⟨hc, h⟩ | ⟨hc, h⟩
      · refine ev_ic_ne (t := 59) rfl rfl (fun c9 => absurd hc c9) (fun _ => ?_)
        refine ev_go 7 (pc' := 53) (L' := [some (.ref 1), some (.int x1161), some (.int (a_s1lifts_count w))]) (st' := [.int 0, .ref 12]) (h' := (HX w T)) (cs' := 0) (sl' := 0) rfl ?_
        refine ev_step rfl rfl rfl (PFX_2_98_12 rfl) ?_
        refine ev_go 2 (pc' := 88) (L' := [some (.ref 1), some (.int x1161), some (.int (a_s1lifts_count w))]) (st' := [.int (a_s1lifts_count w)]) (h' := (HX (u_s1lifts_count w 0) T)) (cs' := 0) (sl' := 0) rfl ?_
        obtain ⟨rfl, rfl⟩ := ai_smP h
        exact ev_end rfl
      · refine ev_ic_ne (t := 59) rfl rfl (fun _ => ?_) (fun c9 => absurd c9 hc)
        refine ev_go 2 (pc' := 61) (L' := [some (.ref 1), some (.int x1161), none]) (st' := [.int 2, .int x1161]) (h' := (HX w T)) (cs' := 0) (sl' := 0) rfl ?_
        rcases ai_ifE h with ⟨hc, h⟩ | ⟨hc, h⟩
        · refine ev_ic_ne (t := 77) rfl rfl (fun c9 => absurd hc c9) (fun _ => ?_)
          refine ev_go 5 (pc' := 71) (L' := [some (.ref 1), some (.int x1161), some (.int (a_s1_towns w))]) (st' := [.int 0, .ref 1]) (h' := (HX w T)) (cs' := 0) (sl' := 0) rfl ?_
          refine ev_step rfl rfl rfl (PFX_2_51_1 rfl) ?_
          refine ev_go 2 (pc' := 88) (L' := [some (.ref 1), some (.int x1161), some (.int (a_s1_towns w))]) (st' := [.int (a_s1_towns w)]) (h' := (HX (u_s1_towns w 0) T)) (cs' := 0) (sl' := 0) rfl ?_
          obtain ⟨rfl, rfl⟩ := ai_smP h
          exact ev_end rfl
        · refine ev_ic_ne (t := 77) rfl rfl (fun _ => ?_) (fun c9 => absurd c9 hc)
          refine ev_go 5 (pc' := 84) (L' := [some (.ref 1), some (.int x1161), some (.int (a_s1_drops w))]) (st' := [.int 0, .ref 1]) (h' := (HX w T)) (cs' := 0) (sl' := 0) rfl ?_
          refine ev_step rfl rfl rfl (PFX_2_57_1 rfl) ?_
          refine ev_go 1 (pc' := 88) (L' := [some (.ref 1), some (.int x1161), some (.int (a_s1_drops w))]) (st' := [.int (a_s1_drops w)]) (h' := (HX (u_s1_drops w 0) T)) (cs' := 0) (sl' := 0) rfl ?_
          obtain ⟨rfl, rfl⟩ := ai_smP h
          exact ev_end rfl
set_option maxHeartbeats 40000000 in
set_option maxRecDepth 100000 in
theorem Ef_clean_0 (x1160 : Int32) (w : WX) (r : Int32) (w' : WX) (h : Ff_clean_0 x1160 w = some (r, w')) (T : ai_H) : ai_ev D1 mf_clean 0 [some (.ref 0), some (.int x1160)] [] (HX w T) 0 0 (some (.int r), HX w' T) := by
  unfold Ff_clean_0 at h
  refine ev_go 4 (pc' := 6) (L' := [some (.ref 0), some (.int x1160)]) (st' := [.int x1160, .ref 1, .ref 0]) (h' := (HX w T)) (cs' := 0) (sl' := 0) rfl ?_
  obtain ⟨c1163, hq, h⟩ := ai_bdE h
  refine ev_call (M' := msea_empty) (L' := [some (.ref 1), some (.int x1160), none]) (rest := [.ref 0]) (rv := some (.int c1163.1)) (h' := (HX c1163.2 T)) rfl (Esea_empty_1 x1160 w _ _ hq T) ?_
  show ai_ev D1 mf_clean 9 [some (.ref 0), some (.int x1160)] [.int c1163.1, .ref 0] (HX c1163.2 T) 0 0 _
  obtain ⟨c1164, hq, h⟩ := ai_bdE h
  refine ev_call (M' := mf_counted) (L' := [some (.ref 0), some (.int c1163.1)]) (rest := []) (rv := some (.int c1164.1)) (h' := (HX c1164.2 T)) rfl (Ef_counted_0 c1163.1 c1163.2 _ _ hq T) ?_
  show ai_ev D1 mf_clean 12 [some (.ref 0), some (.int x1160)] [.int c1164.1] (HX c1164.2 T) 0 0 _
  obtain ⟨rfl, rfl⟩ := ai_smP h
  exact ev_end rfl
set_option maxHeartbeats 40000000 in
set_option maxRecDepth 100000 in
theorem Etxt_add_78 (x1166 : Int32) (w : WX) (r : Int32) (w' : WX) (h : Ftxt_add_78 x1166 w = some (r, w')) (T : ai_H) : ai_ev D1 mtxt_add 0 [some (.ref 78), some (.int x1166)] [] (HX w T) 0 0 (some (.int r), HX w' T) := by
  unfold Ftxt_add_78 at h
  refine ev_go 3 (pc' := 4) (L' := [some (.ref 78), some (.int x1166)]) (st' := [.int 127, .int 0, .int x1166]) (h' := (HX w T)) (cs' := 0) (sl' := 0) rfl ?_
  obtain ⟨c1167, hq, h⟩ := ai_bdE h
  refine ev_call (M' := mf_within) (L' := [some (.int x1166), some (.int 0), some (.int 127)]) (rest := []) (rv := some (.int c1167)) (h' := (HX w T)) rfl (Ef_within x1166 0 127 _ hq (HX w T)) ?_
  show ai_ev D1 mtxt_add 7 [some (.ref 78), some (.int x1166)] [.int c1167] (HX w T) 0 0 _
  rcases ai_ifE h with ⟨hc, h⟩ | ⟨hc, h⟩
  · refine ev_if_ne (t := 13) rfl rfl (fun c9 => absurd hc c9) (fun _ => ?_)
    refine ev_go 1 (pc' := 12) (L' := [some (.ref 78), some (.int x1166)]) (st' := [.int (-2)]) (h' := (HX w T)) (cs' := 0) (sl' := 0) rfl ?_
    obtain ⟨rfl, rfl⟩ := ai_smP h
    exact ev_end rfl
  · refine ev_if_ne (t := 13) rfl rfl (fun _ => ?_) (fun c9 => absurd c9 hc)
    refine ev_go 3 (pc' := 20) (L' := [some (.ref 78), some (.int x1166)]) (st' := [.int 150, .int (a_text_length w)]) (h' := (HX w T)) (cs' := 0) (sl' := 0) rfl ?_
    rcases ai_ifE h with ⟨hc, h⟩ | ⟨hc, h⟩
    · refine ev_ic_lt (t := 26) rfl rfl (fun _ => ?_) (fun c9 => absurd hc c9)
      refine ev_go 5 (pc' := 35) (L' := [some (.ref 78), some (.int x1166)]) (st' := [.int x1166, .int (a_text_length w), .ref 79]) (h' := (HX w T)) (cs' := 0) (sl' := 0) rfl ?_
      obtain ⟨q1168, hq, h⟩ := ai_bdE h
      refine ev_iast rfl rfl hq ?_
      rw [HXs_79]
      refine ev_go 5 (pc' := 43) (L' := [some (.ref 78), some (.int x1166)]) (st' := [.int ((a_text_length w) + 1), .ref 78]) (h' := (HX (u_text_bytes w q1168) T)) (cs' := 0) (sl' := 0) rfl ?_
      refine ev_step rfl rfl rfl (PFX_4_9_78 rfl) ?_
      refine ev_go 2 (pc' := 50) (L' := [some (.ref 78), some (.int x1166)]) (st' := [.int ((a_text_length w) + 1)]) (h' := (HX (u_text_length (u_text_bytes w q1168) ((a_text_length w) + 1)) T)) (cs' := 0) (sl' := 0) rfl ?_
      obtain ⟨rfl, rfl⟩ := ai_smP h
      exact ev_end rfl
    · refine ev_ic_lt (t := 26) rfl rfl (fun c9 => absurd c9 hc) (fun _ => ?_)
      refine ev_go 1 (pc' := 25) (L' := [some (.ref 78), some (.int x1166)]) (st' := [.int (-4)]) (h' := (HX w T)) (cs' := 0) (sl' := 0) rfl ?_
      obtain ⟨rfl, rfl⟩ := ai_smP h
      exact ev_end rfl
set_option maxHeartbeats 40000000 in
set_option maxRecDepth 100000 in
theorem Ef_type_0 (x1165 : Int32) (w : WX) (r : Int32) (w' : WX) (h : Ff_type_0 x1165 w = some (r, w')) (T : ai_H) : ai_ev D1 mf_type 0 [some (.ref 0), some (.int x1165)] [] (HX w T) 0 0 (some (.int r), HX w' T) := by
  unfold Ff_type_0 at h
  refine ev_go 4 (pc' := 6) (L' := [some (.ref 0), some (.int x1165)]) (st' := [.int x1165, .ref 78, .ref 0]) (h' := (HX w T)) (cs' := 0) (sl' := 0) rfl ?_
  obtain ⟨c1169, hq, h⟩ := ai_bdE h
  refine ev_call (M' := mtxt_add) (L' := [some (.ref 78), some (.int x1165)]) (rest := [.ref 0]) (rv := some (.int c1169.1)) (h' := (HX c1169.2 T)) rfl (Etxt_add_78 x1165 w _ _ hq T) ?_
  show ai_ev D1 mf_type 9 [some (.ref 0), some (.int x1165)] [.int c1169.1, .ref 0] (HX c1169.2 T) 0 0 _
  obtain ⟨c1170, hq, h⟩ := ai_bdE h
  refine ev_call (M' := mf_counted) (L' := [some (.ref 0), some (.int c1169.1)]) (rest := []) (rv := some (.int c1170.1)) (h' := (HX c1170.2 T)) rfl (Ef_counted_0 c1169.1 c1169.2 _ _ hq T) ?_
  show ai_ev D1 mf_type 12 [some (.ref 0), some (.int x1165)] [.int c1170.1] (HX c1170.2 T) 0 0 _
  obtain ⟨rfl, rfl⟩ := ai_smP h
  exact ev_end rfl
set_option maxHeartbeats 40000000 in
set_option maxRecDepth 100000 in
theorem Ef_clear_0 (w : WX) (r : Int32) (w' : WX) (h : Ff_clear_0 w = some (r, w')) (T : ai_H) : ai_ev D1 mf_clear 0 [some (.ref 0), none] [] (HX w T) 0 0 (some (.int r), HX w' T) := by
  unfold Ff_clear_0 at h
  refine ev_go 7 (pc' := 13) (L' := [some (.ref 0), some (.int (a_text_length w))]) (st' := [.int 0, .ref 78]) (h' := (HX w T)) (cs' := 0) (sl' := 0) rfl ?_
  refine ev_step rfl rfl rfl (PFX_7_146_78 rfl) ?_
  refine ev_go 1 (pc' := 17) (L' := [some (.ref 0), some (.int (a_text_length w))]) (st' := [.int (a_text_length w)]) (h' := (HX (u_text_length w 0) T)) (cs' := 0) (sl' := 0) rfl ?_
  obtain ⟨rfl, rfl⟩ := ai_smP h
  exact ev_end rfl
set_option maxHeartbeats 40000000 in
set_option maxRecDepth 100000 in
theorem EGtxt_skipBlanks_78 : ∀ n : Nat, (∀ (w : WX) (w' : WX), Gtxt_skipBlanks_78 n 0  w = some w' → ∀ (T : ai_H), ai_ev D1 mtxt_skipBlanks 0 [some (.ref 78)] [] (HX w T) 0 0 (none, HX w' T)) := by
  intro n
  induction n with
  | zero =>
    exact (fun _ _ h => by cases h)
  | succ n ih0 =>
    intro w w' h T
    simp only [Gtxt_skipBlanks_78] at h
    refine ev_go 4 (pc' := 8) (L' := [some (.ref 78)]) (st' := [.int (a_text_length w), .int (a_text_at w)]) (h' := (HX w T)) (cs' := 0) (sl' := 0) rfl ?_
    rcases ai_ifE h with ⟨hc, h⟩ | ⟨hc, h⟩
    · refine ev_ic_ge (t := 38) rfl rfl (fun _ => ?_) (fun c9 => absurd hc c9)
      obtain rfl := Option.some.inj h
      exact ev_end rfl
    · refine ev_ic_ge (t := 38) rfl rfl (fun c9 => absurd c9 hc) (fun _ => ?_)
      refine ev_go 4 (pc' := 19) (L' := [some (.ref 78)]) (st' := [.int (a_text_at w), .ref 79]) (h' := (HX w T)) (cs' := 0) (sl' := 0) rfl ?_
      obtain ⟨v1171, hq, h⟩ := ai_bdE h
      refine ev_iald rfl rfl hq ?_
      refine ev_go 1 (pc' := 22) (L' := [some (.ref 78)]) (st' := [.int 32, .int v1171]) (h' := (HX w T)) (cs' := 0) (sl' := 0) rfl ?_
      rcases ai_ifE h with ⟨hc, h⟩ | ⟨hc, h⟩
      · refine ev_ic_ne (t := 38) rfl rfl (fun c9 => absurd hc c9) (fun _ => ?_)
        refine ev_go 5 (pc' := 32) (L' := [some (.ref 78)]) (st' := [.int ((a_text_at w) + 1), .ref 78]) (h' := (HX w T)) (cs' := 0) (sl' := 0) rfl ?_
        refine ev_step rfl rfl rfl (PFX_4_28_78 rfl) ?_
        refine ev_go 1 (pc' := 0) (L' := [some (.ref 78)]) (st' := []) (h' := (HX (u_text_at w ((a_text_at w) + 1)) T)) (cs' := 0) (sl' := 0) rfl ?_
        exact ih0 _ _ h T
      · refine ev_ic_ne (t := 38) rfl rfl (fun _ => ?_) (fun c9 => absurd c9 hc)
        obtain rfl := Option.some.inj h
        exact ev_end rfl
set_option maxHeartbeats 40000000 in
set_option maxRecDepth 100000 in
theorem Etxt_skipBlanks_78 (n : Nat) (w : WX) (w' : WX) (h : Ftxt_skipBlanks_78 n w = some w') (T : ai_H) : ai_ev D1 mtxt_skipBlanks 0 [some (.ref 78)] [] (HX w T) 0 0 (none, HX w' T) := by
  unfold Ftxt_skipBlanks_78 at h
  have ih0 := EGtxt_skipBlanks_78 n
  exact ih0 _ _ h T
set_option maxHeartbeats 40000000 in
set_option maxRecDepth 100000 in
theorem EGtxt_isWord_78 : ∀ n : Nat, (∀ (y1183 : Nat) (y1184 : Int32) (y1185 : Int32) (y1186 : Int32) (w : WX) (r : Int32) (w' : WX), Gtxt_isWord_78 n 0 y1184 y1185 y1186 y1183 w = some (r, w') → ∀ (T : ai_H), ai_ev D1 mtxt_isWord 15 [some (.ref 78), some (.retAddr y1183), some (.int y1184), some (.int y1185), some (.int y1186)] [] (HX w T) 0 0 (some (.int r), HX w' T)) := by
  intro n
  induction n with
  | zero =>
    exact (fun _ _ _ _ _ _ _ h => by cases h)
  | succ n ih0 =>
    intro y1183 y1184 y1185 y1186 w r w' h T
    simp only [Gtxt_isWord_78] at h
    refine ev_go 2 (pc' := 18) (L' := [some (.ref 78), some (.retAddr y1183), some (.int y1184), some (.int y1185), some (.int y1186)]) (st' := [.retAddr y1183, .int y1186]) (h' := (HX w T)) (cs' := 0) (sl' := 0) rfl ?_
    obtain ⟨v1187, hq, h⟩ := ai_bdE h
    refine ev_sln rfl rfl rfl rfl hq ?_
    rcases ai_ifE h with ⟨hc, h⟩ | ⟨hc, h⟩
    · refine ev_ic_ge (t := 50) rfl rfl (fun _ => ?_) (fun c9 => absurd hc c9)
      refine ev_go 1 (pc' := 51) (L' := [some (.ref 78), some (.retAddr y1183), some (.int y1184), some (.int y1185), some (.int y1186)]) (st' := [.int 1]) (h' := (HX w T)) (cs' := 0) (sl' := 0) rfl ?_
      obtain ⟨rfl, rfl⟩ := ai_smP h
      exact ev_end rfl
    · refine ev_ic_ge (t := 50) rfl rfl (fun c9 => absurd c9 hc) (fun _ => ?_)
      refine ev_go 5 (pc' := 32) (L' := [some (.ref 78), some (.retAddr y1183), some (.int y1184), some (.int y1185), some (.int y1186)]) (st' := [.int (y1184 + y1186), .ref 79]) (h' := (HX w T)) (cs' := 0) (sl' := 0) rfl ?_
      obtain ⟨v1188, hq, h⟩ := ai_bdE h
      refine ev_iald rfl rfl hq ?_
      refine ev_go 2 (pc' := 36) (L' := [some (.ref 78), some (.retAddr y1183), some (.int y1184), some (.int y1185), some (.int y1186)]) (st' := [.int y1186, .retAddr y1183, .int v1188]) (h' := (HX w T)) (cs' := 0) (sl' := 0) rfl ?_
      obtain ⟨v1189, hq, h⟩ := ai_bdE h
      refine ev_sch rfl rfl rfl rfl hq ?_
      rcases ai_ifE h with ⟨hc, h⟩ | ⟨hc, h⟩
      · refine ev_ic_eq (t := 44) rfl rfl (fun _ => ?_) (fun c9 => absurd hc c9)
        refine ev_go 2 (pc' := 15) (L' := [some (.ref 78), some (.retAddr y1183), some (.int y1184), some (.int y1185), some (.int (y1186 + 1))]) (st' := []) (h' := (HX w T)) (cs' := 0) (sl' := 0) rfl ?_
        exact ih0 _ _ _ _ _ _ _ h T
      · refine ev_ic_eq (t := 44) rfl rfl (fun c9 => absurd c9 hc) (fun _ => ?_)
        refine ev_go 1 (pc' := 43) (L' := [some (.ref 78), some (.retAddr y1183), some (.int y1184), some (.int y1185), some (.int y1186)]) (st' := [.int 0]) (h' := (HX w T)) (cs' := 0) (sl' := 0) rfl ?_
        obtain ⟨rfl, rfl⟩ := ai_smP h
        exact ev_end rfl
set_option maxHeartbeats 40000000 in
set_option maxRecDepth 100000 in
theorem Etxt_isWord_78 (n : Nat) (x1179 : Nat) (x1180 : Int32) (x1181 : Int32) (w : WX) (r : Int32) (w' : WX) (h : Ftxt_isWord_78 n x1179 x1180 x1181 w = some (r, w')) (T : ai_H) : ai_ev D1 mtxt_isWord 0 [some (.ref 78), some (.retAddr x1179), some (.int x1180), some (.int x1181), none] [] (HX w T) 0 0 (some (.int r), HX w' T) := by
  unfold Ftxt_isWord_78 at h
  have ih0 := EGtxt_isWord_78 n
  refine ev_go 1 (pc' := 1) (L' := [some (.ref 78), some (.retAddr x1179), some (.int x1180), some (.int x1181), none]) (st' := [.retAddr x1179]) (h' := (HX w T)) (cs' := 0) (sl' := 0) rfl ?_
  obtain ⟨v1182, hq, h⟩ := ai_bdE h
  refine ev_sln rfl rfl rfl rfl hq ?_
  refine ev_go 3 (pc' := 7) (L' := [some (.ref 78), some (.retAddr x1179), some (.int x1180), some (.int x1181), none]) (st' := [.int (x1181 - x1180), .int v1182]) (h' := (HX w T)) (cs' := 0) (sl' := 0) rfl ?_
  rcases ai_ifE h with ⟨hc, h⟩ | ⟨hc, h⟩
  · refine ev_ic_eq (t := 12) rfl rfl (fun _ => ?_) (fun c9 => absurd hc c9)
    refine ev_go 2 (pc' := 15) (L' := [some (.ref 78), some (.retAddr x1179), some (.int x1180), some (.int x1181), some (.int 0)]) (st' := []) (h' := (HX w T)) (cs' := 0) (sl' := 0) rfl ?_
    exact ih0 _ _ _ _ _ _ _ h T
  · refine ev_ic_eq (t := 12) rfl rfl (fun c9 => absurd c9 hc) (fun _ => ?_)
    refine ev_go 1 (pc' := 11) (L' := [some (.ref 78), some (.retAddr x1179), some (.int x1180), some (.int x1181), none]) (st' := [.int 0]) (h' := (HX w T)) (cs' := 0) (sl' := 0) rfl ?_
    obtain ⟨rfl, rfl⟩ := ai_smP h
    exact ev_end rfl
set_option maxHeartbeats 40000000 in
set_option maxRecDepth 100000 in
theorem EGtxt_takeWord_78 : ∀ n : Nat, (∀ (y1174 : Int32) (w : WX) (r : Int32) (w' : WX), Gtxt_takeWord_78 n 0 y1174 0 w = some (r, w') → ∀ (T : ai_H) (o2 : Option Value), ai_ev D1 mtxt_takeWord 5 [some (.ref 78), some (.int y1174), o2] [] (HX w T) 0 0 (some (.int r), HX w' T)) ∧ (∀ (y1177 : Int32) (y1178 : Int32) (w : WX) (r : Int32) (w' : WX), Gtxt_takeWord_78 n 1 y1177 y1178 w = some (r, w') → ∀ (T : ai_H), ai_ev D1 mtxt_takeWord 50 [some (.ref 78), some (.int y1177), some (.int y1178)] [] (HX w T) 0 0 (some (.int r), HX w' T)) := by
  intro n
  induction n with
  | zero =>
    exact ⟨(fun _ _ _ _ h => by cases h), (fun _ _ _ _ _ h => by cases h)⟩
  | succ n ih =>
    obtain ⟨ih0, ih1⟩ := ih
    refine ⟨?_, ?_⟩
    · intro y1174 w r w' h T o2
      simp only [Gtxt_takeWord_78] at h
      refine ev_go 4 (pc' := 13) (L' := [some (.ref 78), some (.int y1174), o2]) (st' := [.int (a_text_length w), .int (a_text_at w)]) (h' := (HX w T)) (cs' := 0) (sl' := 0) rfl ?_
      rcases ai_ifE h with ⟨hc, h⟩ | ⟨hc, h⟩
      · refine ev_ic_ge (t := 48) rfl rfl (fun _ => ?_) (fun c9 => absurd hc c9)
        refine ev_go 2 (pc' := 50) (L' := [some (.ref 78), some (.int y1174), some (.int 0)]) (st' := []) (h' := (HX w T)) (cs' := 0) (sl' := 0) rfl ?_
        exact ih1 _ _ _ _ _ h T
      · refine ev_ic_ge (t := 48) rfl rfl (fun c9 => absurd c9 hc) (fun _ => ?_)
        refine ev_go 4 (pc' := 24) (L' := [some (.ref 78), some (.int y1174), o2]) (st' := [.int (a_text_at w), .ref 79]) (h' := (HX w T)) (cs' := 0) (sl' := 0) rfl ?_
        obtain ⟨v1175, hq, h⟩ := ai_bdE h
        refine ev_iald rfl rfl hq ?_
        refine ev_go 2 (pc' := 29) (L' := [some (.ref 78), some (.int y1174), o2]) (st' := [.int 122, .int 97, .int v1175]) (h' := (HX w T)) (cs' := 0) (sl' := 0) rfl ?_
        obtain ⟨c1176, hq, h⟩ := ai_bdE h
        refine ev_call (M' := mf_within) (L' := [some (.int v1175), some (.int 97), some (.int 122)]) (rest := []) (rv := some (.int c1176)) (h' := (HX w T)) rfl (Ef_within v1175 97 122 _ hq (HX w T)) ?_
        show ai_ev D1 mtxt_takeWord 32 [some (.ref 78), some (.int y1174), o2] [.int c1176] (HX w T) 0 0 _
        rcases ai_ifE h with ⟨hc, h⟩ | ⟨hc, h⟩
        · refine ev_if_eq (t := 48) rfl rfl (fun _ => ?_) (fun c9 => absurd hc c9)
          refine ev_go 2 (pc' := 50) (L' := [some (.ref 78), some (.int y1174), some (.int 0)]) (st' := []) (h' := (HX w T)) (cs' := 0) (sl' := 0) rfl ?_
          exact ih1 _ _ _ _ _ h T
        · refine ev_if_eq (t := 48) rfl rfl (fun c9 => absurd c9 hc) (fun _ => ?_)
          refine ev_go 5 (pc' := 42) (L' := [some (.ref 78), some (.int y1174), o2]) (st' := [.int ((a_text_at w) + 1), .ref 78]) (h' := (HX w T)) (cs' := 0) (sl' := 0) rfl ?_
          refine ev_step rfl rfl rfl (PFX_4_28_78 rfl) ?_
          refine ev_go 1 (pc' := 5) (L' := [some (.ref 78), some (.int y1174), o2]) (st' := []) (h' := (HX (u_text_at w ((a_text_at w) + 1)) T)) (cs' := 0) (sl' := 0) rfl ?_
          exact ih0 _ _ _ _ h T _
    · intro y1177 y1178 w r w' h T
      simp only [Gtxt_takeWord_78] at h
      refine ev_go 2 (pc' := 53) (L' := [some (.ref 78), some (.int y1177), some (.int y1178)]) (st' := [.int 8, .int y1178]) (h' := (HX w T)) (cs' := 0) (sl' := 0) rfl ?_
      rcases ai_ifE h with ⟨hc, h⟩ | ⟨hc, h⟩
      · refine ev_ic_ge (t := 80) rfl rfl (fun _ => ?_) (fun c9 => absurd hc c9)
        refine ev_go 1 (pc' := 81) (L' := [some (.ref 78), some (.int y1177), some (.int y1178)]) (st' := [.int (-1)]) (h' := (HX w T)) (cs' := 0) (sl' := 0) rfl ?_
        obtain ⟨rfl, rfl⟩ := ai_smP h
        exact ev_end rfl
      · refine ev_ic_ge (t := 80) rfl rfl (fun c9 => absurd c9 hc) (fun _ => ?_)
        refine ev_go 2 (pc' := 58) (L' := [some (.ref 78), some (.int y1177), some (.int y1178)]) (st' := [.int y1178, .ref 78]) (h' := (HX w T)) (cs' := 0) (sl' := 0) rfl ?_
        refine ev_call (M' := mtxt_nameOf) (L' := [some (.int y1178)]) (rest := [.ref 78]) (rv := some (.retAddr (ai_nm y1178))) (h' := (HX w T)) rfl (Enam y1178 _) ?_
        show ai_ev D1 mtxt_takeWord 61 [some (.ref 78), some (.int y1177), some (.int y1178)] [.retAddr (ai_nm y1178), .ref 78] (HX w T) 0 0 _
        refine ev_go 3 (pc' := 66) (L' := [some (.ref 78), some (.int y1177), some (.int y1178)]) (st' := [.int (a_text_at w), .int y1177, .retAddr (ai_nm y1178), .ref 78]) (h' := (HX w T)) (cs' := 0) (sl' := 0) rfl ?_
        obtain ⟨c1190, hq, h⟩ := ai_bdE h
        refine ev_call (M' := mtxt_isWord) (L' := [some (.ref 78), some (.retAddr (ai_nm y1178)), some (.int y1177), some (.int (a_text_at w)), none]) (rest := []) (rv := some (.int c1190.1)) (h' := (HX c1190.2 T)) rfl (Etxt_isWord_78 n (ai_nm y1178) y1177 (a_text_at w) w _ _ hq T) ?_
        show ai_ev D1 mtxt_takeWord 69 [some (.ref 78), some (.int y1177), some (.int y1178)] [.int c1190.1] (HX c1190.2 T) 0 0 _
        rcases ai_ifE h with ⟨hc, h⟩ | ⟨hc, h⟩
        · refine ev_if_eq (t := 74) rfl rfl (fun _ => ?_) (fun c9 => absurd hc c9)
          refine ev_go 2 (pc' := 50) (L' := [some (.ref 78), some (.int y1177), some (.int (y1178 + 1))]) (st' := []) (h' := (HX c1190.2 T)) (cs' := 0) (sl' := 0) rfl ?_
          exact ih1 _ _ _ _ _ h T
        · refine ev_if_eq (t := 74) rfl rfl (fun c9 => absurd c9 hc) (fun _ => ?_)
          refine ev_go 1 (pc' := 73) (L' := [some (.ref 78), some (.int y1177), some (.int y1178)]) (st' := [.int y1178]) (h' := (HX c1190.2 T)) (cs' := 0) (sl' := 0) rfl ?_
          obtain ⟨rfl, rfl⟩ := ai_smP h
          exact ev_end rfl
set_option maxHeartbeats 40000000 in
set_option maxRecDepth 100000 in
theorem Etxt_takeWord_78 (n : Nat) (w : WX) (r : Int32) (w' : WX) (h : Ftxt_takeWord_78 n w = some (r, w')) (T : ai_H) : ai_ev D1 mtxt_takeWord 0 [some (.ref 78), none, none] [] (HX w T) 0 0 (some (.int r), HX w' T) := by
  unfold Ftxt_takeWord_78 at h
  obtain ⟨ih0, ih1⟩ := EGtxt_takeWord_78 n
  refine ev_go 3 (pc' := 5) (L' := [some (.ref 78), some (.int (a_text_at w)), none]) (st' := []) (h' := (HX w T)) (cs' := 0) (sl' := 0) rfl ?_
  exact ih0 _ _ _ _ h T _
set_option maxHeartbeats 40000000 in
set_option maxRecDepth 100000 in
theorem Etxt_numbersBehind (x1192 : Int32) (r : Int32) (h : Ftxt_numbersBehind x1192 = some r) (hh : ai_H) : ai_ev D1 mtxt_numbersBehind 0 [some (.int x1192)] [] hh 0 0 (some (.int r), hh) := by
  unfold Ftxt_numbersBehind at h
  refine ev_go 1 (pc' := 1) (L' := [some (.int x1192)]) (st' := [.int x1192]) (h' := hh) (cs' := 0) (sl' := 0) rfl ?_
  rcases ai_ifE h with ⟨hc, h⟩ | ⟨hs0, h⟩
  · refine ev_swi (k := 0) (t := 48) rfl hc (by decide) (by decide) rfl rfl ?_
    refine ev_go 1 (pc' := 49) (L' := [some (.int x1192)]) (st' := [.int 1]) (h' := hh) (cs' := 0) (sl' := 0) rfl ?_
    obtain rfl := Option.some.inj h
    exact ev_end rfl
  rcases ai_ifE h with ⟨hc, h⟩ | ⟨hs1, h⟩
  · refine ev_swi (k := 1) (t := 50) rfl hc (by decide) (by decide) rfl rfl ?_
    refine ev_go 1 (pc' := 51) (L' := [some (.int x1192)]) (st' := [.int 2]) (h' := hh) (cs' := 0) (sl' := 0) rfl ?_
    obtain rfl := Option.some.inj h
    exact ev_end rfl
  rcases ai_ifE h with ⟨hc, h⟩ | ⟨hs2, h⟩
  · refine ev_swi (k := 2) (t := 52) rfl hc (by decide) (by decide) rfl rfl ?_
    refine ev_go 1 (pc' := 53) (L' := [some (.int x1192)]) (st' := [.int 3]) (h' := hh) (cs' := 0) (sl' := 0) rfl ?_
    obtain rfl := Option.some.inj h
    exact ev_end rfl
  rcases ai_ifE h with ⟨hc, h⟩ | ⟨hs3, h⟩
  · refine ev_swi (k := 3) (t := 50) rfl hc (by decide) (by decide) rfl rfl ?_
    refine ev_go 1 (pc' := 51) (L' := [some (.int x1192)]) (st' := [.int 2]) (h' := hh) (cs' := 0) (sl' := 0) rfl ?_
    obtain rfl := Option.some.inj h
    exact ev_end rfl
  rcases ai_ifE h with ⟨hc, h⟩ | ⟨hs4, h⟩
  · refine ev_swi (k := 4) (t := 52) rfl hc (by decide) (by decide) rfl rfl ?_
    refine ev_go 1 (pc' := 53) (L' := [some (.int x1192)]) (st' := [.int 3]) (h' := hh) (cs' := 0) (sl' := 0) rfl ?_
    obtain rfl := Option.some.inj h
    exact ev_end rfl
  rcases ai_ifE h with ⟨hc, h⟩ | ⟨hs5, h⟩
  · refine ev_swi (k := 5) (t := 52) rfl hc (by decide) (by decide) rfl rfl ?_
    refine ev_go 1 (pc' := 53) (L' := [some (.int x1192)]) (st' := [.int 3]) (h' := hh) (cs' := 0) (sl' := 0) rfl ?_
    obtain rfl := Option.some.inj h
    exact ev_end rfl
  rcases ai_ifE h with ⟨hc, h⟩ | ⟨hs6, h⟩
  · refine ev_swi (k := 6) (t := 48) rfl hc (by decide) (by decide) rfl rfl ?_
    refine ev_go 1 (pc' := 49) (L' := [some (.int x1192)]) (st' := [.int 1]) (h' := hh) (cs' := 0) (sl' := 0) rfl ?_
    obtain rfl := Option.some.inj h
    exact ev_end rfl
  rcases ai_ifE h with ⟨hc, h⟩ | ⟨hs7, h⟩
  · refine ev_swi (k := 7) (t := 48) rfl hc (by decide) (by decide) rfl rfl ?_
    refine ev_go 1 (pc' := 49) (L' := [some (.int x1192)]) (st' := [.int 1]) (h' := hh) (cs' := 0) (sl' := 0) rfl ?_
    obtain rfl := Option.some.inj h
    exact ev_end rfl
  refine ev_swo (t := 52) (lo := 0) (n := 8) rfl (sw_out 0 8 (fun k hk => by match k, hk with | 0, _ => exact hs0 | 1, _ => exact hs1 | 2, _ => exact hs2 | 3, _ => exact hs3 | 4, _ => exact hs4 | 5, _ => exact hs5 | 6, _ => exact hs6 | 7, _ => exact hs7 | k + 8, hk => exact absurd hk (by omega))) ⟨rfl, by decide⟩ rfl ?_
  refine ev_go 1 (pc' := 53) (L' := [some (.int x1192)]) (st' := [.int 3]) (h' := hh) (cs' := 0) (sl' := 0) rfl ?_
  obtain rfl := Option.some.inj h
  exact ev_end rfl
set_option maxHeartbeats 40000000 in
set_option maxRecDepth 100000 in
theorem Etxt_isFigure_78 (w : WX) (r : Int32) (w' : WX) (h : Ftxt_isFigure_78 w = some (r, w')) (T : ai_H) : ai_ev D1 mtxt_isFigure 0 [some (.ref 78)] [] (HX w T) 0 0 (some (.int r), HX w' T) := by
  unfold Ftxt_isFigure_78 at h
  refine ev_go 4 (pc' := 8) (L' := [some (.ref 78)]) (st' := [.int (a_text_length w), .int (a_text_at w)]) (h' := (HX w T)) (cs' := 0) (sl' := 0) rfl ?_
  rcases ai_ifE h with ⟨hc, h⟩ | ⟨hc, h⟩
  · refine ev_ic_ge (t := 34) rfl rfl (fun _ => ?_) (fun c9 => absurd hc c9)
    refine ev_go 1 (pc' := 35) (L' := [some (.ref 78)]) (st' := [.int 0]) (h' := (HX w T)) (cs' := 0) (sl' := 0) rfl ?_
    obtain ⟨rfl, rfl⟩ := ai_smP h
    exact ev_end rfl
  · refine ev_ic_ge (t := 34) rfl rfl (fun c9 => absurd c9 hc) (fun _ => ?_)
    refine ev_go 4 (pc' := 19) (L' := [some (.ref 78)]) (st' := [.int (a_text_at w), .ref 79]) (h' := (HX w T)) (cs' := 0) (sl' := 0) rfl ?_
    obtain ⟨v1198, hq, h⟩ := ai_bdE h
    refine ev_iald rfl rfl hq ?_
    refine ev_go 2 (pc' := 24) (L' := [some (.ref 78)]) (st' := [.int 57, .int 48, .int v1198]) (h' := (HX w T)) (cs' := 0) (sl' := 0) rfl ?_
    obtain ⟨c1199, hq, h⟩ := ai_bdE h
    refine ev_call (M' := mf_within) (L' := [some (.int v1198), some (.int 48), some (.int 57)]) (rest := []) (rv := some (.int c1199)) (h' := (HX w T)) rfl (Ef_within v1198 48 57 _ hq (HX w T)) ?_
    show ai_ev D1 mtxt_isFigure 27 [some (.ref 78)] [.int c1199] (HX w T) 0 0 _
    rcases ai_ifE h with ⟨hc, h⟩ | ⟨hc, h⟩
    · refine ev_if_eq (t := 34) rfl rfl (fun _ => ?_) (fun c9 => absurd hc c9)
      refine ev_go 1 (pc' := 35) (L' := [some (.ref 78)]) (st' := [.int 0]) (h' := (HX w T)) (cs' := 0) (sl' := 0) rfl ?_
      obtain ⟨rfl, rfl⟩ := ai_smP h
      exact ev_end rfl
    · refine ev_if_eq (t := 34) rfl rfl (fun c9 => absurd c9 hc) (fun _ => ?_)
      refine ev_go 2 (pc' := 35) (L' := [some (.ref 78)]) (st' := [.int 1]) (h' := (HX w T)) (cs' := 0) (sl' := 0) rfl ?_
      obtain ⟨rfl, rfl⟩ := ai_smP h
      exact ev_end rfl
set_option maxHeartbeats 40000000 in
set_option maxRecDepth 100000 in
theorem EGtxt_takeNumbers_78 : ∀ n : Nat, (∀ (y1196 : Int32) (y1197 : Int32) (w : WX) (r : Int32) (w' : WX), Gtxt_takeNumbers_78 n 0 y1196 y1197 w = some (r, w') → ∀ (T : ai_H), ai_ev D1 mtxt_takeNumbers 6 [some (.ref 78), some (.int y1196), some (.int y1197)] [] (HX w T) 0 0 (some (.int r), HX w' T)) := by
  intro n
  induction n with
  | zero =>
    exact (fun _ _ _ _ _ h => by cases h)
  | succ n ih0 =>
    intro y1196 y1197 w r w' h T
    simp only [Gtxt_takeNumbers_78] at h
    refine ev_go 2 (pc' := 8) (L' := [some (.ref 78), some (.int y1196), some (.int y1197)]) (st' := [.int y1196, .int y1197]) (h' := (HX w T)) (cs' := 0) (sl' := 0) rfl ?_
    rcases ai_ifE h with ⟨hc, h⟩ | ⟨hc, h⟩
    · refine ev_ic_ge (t := 118) rfl rfl (fun _ => ?_) (fun c9 => absurd hc c9)
      refine ev_go 1 (pc' := 119) (L' := [some (.ref 78), some (.int y1196), some (.int y1197)]) (st' := [.int (-1)]) (h' := (HX w T)) (cs' := 0) (sl' := 0) rfl ?_
      obtain ⟨rfl, rfl⟩ := ai_smP h
      exact ev_end rfl
    · refine ev_ic_ge (t := 118) rfl rfl (fun c9 => absurd c9 hc) (fun _ => ?_)
      refine ev_go 1 (pc' := 12) (L' := [some (.ref 78), some (.int y1196), some (.int y1197)]) (st' := [.ref 78]) (h' := (HX w T)) (cs' := 0) (sl' := 0) rfl ?_
      obtain ⟨c1200, hq, h⟩ := ai_bdE h
      refine ev_call (M' := mtxt_isFigure) (L' := [some (.ref 78)]) (rest := []) (rv := some (.int c1200.1)) (h' := (HX c1200.2 T)) rfl (Etxt_isFigure_78 w _ _ hq T) ?_
      show ai_ev D1 mtxt_takeNumbers 15 [some (.ref 78), some (.int y1196), some (.int y1197)] [.int c1200.1] (HX c1200.2 T) 0 0 _
      rcases ai_ifE h with ⟨hc, h⟩ | ⟨hc, h⟩
      · refine ev_if_ne (t := 23) rfl rfl (fun c9 => absurd hc c9) (fun _ => ?_)
        refine ev_go 2 (pc' := 22) (L' := [some (.ref 78), some (.int y1196), some (.int y1197)]) (st' := [.int (a_text_at c1200.2)]) (h' := (HX c1200.2 T)) (cs' := 0) (sl' := 0) rfl ?_
        obtain ⟨rfl, rfl⟩ := ai_smP h
        exact ev_end rfl
      · refine ev_if_ne (t := 23) rfl rfl (fun _ => ?_) (fun c9 => absurd c9 hc)
        refine ev_go 7 (pc' := 36) (L' := [some (.ref 78), some (.int y1196), some (.int y1197)]) (st' := [.int (a_text_at c1200.2), .ref 79, .int y1197, .ref 80]) (h' := (HX c1200.2 T)) (cs' := 0) (sl' := 0) rfl ?_
        obtain ⟨v1201, hq, h⟩ := ai_bdE h
        refine ev_iald rfl rfl hq ?_
        refine ev_go 2 (pc' := 40) (L' := [some (.ref 78), some (.int y1196), some (.int y1197)]) (st' := [.int (v1201 - 48), .int y1197, .ref 80]) (h' := (HX c1200.2 T)) (cs' := 0) (sl' := 0) rfl ?_
        obtain ⟨q1202, hq, h⟩ := ai_bdE h
        refine ev_iast rfl rfl hq ?_
        rw [HXs_80]
        refine ev_go 5 (pc' := 48) (L' := [some (.ref 78), some (.int y1196), some (.int y1197)]) (st' := [.int ((a_text_at c1200.2) + 1), .ref 78]) (h' := (HX (u_text_numbers c1200.2 q1202) T)) (cs' := 0) (sl' := 0) rfl ?_
        refine ev_step rfl rfl rfl (PFX_4_28_78 rfl) ?_
        refine ev_go 1 (pc' := 52) (L' := [some (.ref 78), some (.int y1196), some (.int y1197)]) (st' := [.ref 78]) (h' := (HX (u_text_at (u_text_numbers c1200.2 q1202) ((a_text_at c1200.2) + 1)) T)) (cs' := 0) (sl' := 0) rfl ?_
        obtain ⟨c1203, hq, h⟩ := ai_bdE h
        refine ev_call (M' := mtxt_isFigure) (L' := [some (.ref 78)]) (rest := []) (rv := some (.int c1203.1)) (h' := (HX c1203.2 T)) rfl (Etxt_isFigure_78 (u_text_at (u_text_numbers c1200.2 q1202) ((a_text_at c1200.2) + 1)) _ _ hq T) ?_
        show ai_ev D1 mtxt_takeNumbers 55 [some (.ref 78), some (.int y1196), some (.int y1197)] [.int c1203.1] (HX c1203.2 T) 0 0 _
        rcases ai_ifE h with ⟨hc, h⟩ | ⟨hc, h⟩
        · refine ev_if_eq (t := 96) rfl rfl (fun _ => ?_) (fun c9 => absurd hc c9)
          refine ev_go 1 (pc' := 97) (L' := [some (.ref 78), some (.int y1196), some (.int y1197)]) (st' := [.ref 78]) (h' := (HX c1203.2 T)) (cs' := 0) (sl' := 0) rfl ?_
          obtain ⟨c1204, hq, h⟩ := ai_bdE h
          refine ev_call (M' := mtxt_isFigure) (L' := [some (.ref 78)]) (rest := []) (rv := some (.int c1204.1)) (h' := (HX c1204.2 T)) rfl (Etxt_isFigure_78 c1203.2 _ _ hq T) ?_
          show ai_ev D1 mtxt_takeNumbers 100 [some (.ref 78), some (.int y1196), some (.int y1197)] [.int c1204.1] (HX c1204.2 T) 0 0 _
          rcases ai_ifE h with ⟨hc, h⟩ | ⟨hc, h⟩
          · refine ev_if_eq (t := 108) rfl rfl (fun _ => ?_) (fun c9 => absurd hc c9)
            refine ev_go 1 (pc' := 109) (L' := [some (.ref 78), some (.int y1196), some (.int y1197)]) (st' := [.ref 78]) (h' := (HX c1204.2 T)) (cs' := 0) (sl' := 0) rfl ?_
            obtain ⟨c1205, hq, h⟩ := ai_bdE h
            refine ev_call (M' := mtxt_skipBlanks) (L' := [some (.ref 78)]) (rest := []) (rv := none) (h' := (HX c1205 T)) rfl (Etxt_skipBlanks_78 n c1204.2 _ hq T) ?_
            show ai_ev D1 mtxt_takeNumbers 112 [some (.ref 78), some (.int y1196), some (.int y1197)] [] (HX c1205 T) 0 0 _
            refine ev_go 2 (pc' := 6) (L' := [some (.ref 78), some (.int y1196), some (.int (y1197 + 1))]) (st' := []) (h' := (HX c1205 T)) (cs' := 0) (sl' := 0) rfl ?_
            exact ih0 _ _ _ _ _ h T
          · refine ev_if_eq (t := 108) rfl rfl (fun c9 => absurd c9 hc) (fun _ => ?_)
            refine ev_go 2 (pc' := 107) (L' := [some (.ref 78), some (.int y1196), some (.int y1197)]) (st' := [.int (a_text_at c1204.2)]) (h' := (HX c1204.2 T)) (cs' := 0) (sl' := 0) rfl ?_
            obtain ⟨rfl, rfl⟩ := ai_smP h
            exact ev_end rfl
        · refine ev_if_eq (t := 96) rfl rfl (fun c9 => absurd c9 hc) (fun _ => ?_)
          refine ev_go 7 (pc' := 70) (L' := [some (.ref 78), some (.int y1196), some (.int y1197)]) (st' := [.int y1197, .ref 80, .int 10, .int y1197, .ref 80]) (h' := (HX c1203.2 T)) (cs' := 0) (sl' := 0) rfl ?_
          obtain ⟨v1206, hq, h⟩ := ai_bdE h
          refine ev_iald rfl rfl hq ?_
          refine ev_go 5 (pc' := 80) (L' := [some (.ref 78), some (.int y1196), some (.int y1197)]) (st' := [.int (a_text_at c1203.2), .ref 79, .int (10 * v1206), .int y1197, .ref 80]) (h' := (HX c1203.2 T)) (cs' := 0) (sl' := 0) rfl ?_
          obtain ⟨v1207, hq, h⟩ := ai_bdE h
          refine ev_iald rfl rfl hq ?_
          refine ev_go 3 (pc' := 85) (L' := [some (.ref 78), some (.int y1196), some (.int y1197)]) (st' := [.int (((10 * v1206) + v1207) - 48), .int y1197, .ref 80]) (h' := (HX c1203.2 T)) (cs' := 0) (sl' := 0) rfl ?_
          obtain ⟨q1208, hq, h⟩ := ai_bdE h
          refine ev_iast rfl rfl hq ?_
          rw [HXs_80]
          refine ev_go 5 (pc' := 93) (L' := [some (.ref 78), some (.int y1196), some (.int y1197)]) (st' := [.int ((a_text_at c1203.2) + 1), .ref 78]) (h' := (HX (u_text_numbers c1203.2 q1208) T)) (cs' := 0) (sl' := 0) rfl ?_
          refine ev_step rfl rfl rfl (PFX_4_28_78 rfl) ?_
          refine ev_go 1 (pc' := 97) (L' := [some (.ref 78), some (.int y1196), some (.int y1197)]) (st' := [.ref 78]) (h' := (HX (u_text_at (u_text_numbers c1203.2 q1208) ((a_text_at c1203.2) + 1)) T)) (cs' := 0) (sl' := 0) rfl ?_
          obtain ⟨c1209, hq, h⟩ := ai_bdE h
          refine ev_call (M' := mtxt_isFigure) (L' := [some (.ref 78)]) (rest := []) (rv := some (.int c1209.1)) (h' := (HX c1209.2 T)) rfl (Etxt_isFigure_78 (u_text_at (u_text_numbers c1203.2 q1208) ((a_text_at c1203.2) + 1)) _ _ hq T) ?_
          show ai_ev D1 mtxt_takeNumbers 100 [some (.ref 78), some (.int y1196), some (.int y1197)] [.int c1209.1] (HX c1209.2 T) 0 0 _
          rcases ai_ifE h with ⟨hc, h⟩ | ⟨hc, h⟩
          · refine ev_if_eq (t := 108) rfl rfl (fun _ => ?_) (fun c9 => absurd hc c9)
            refine ev_go 1 (pc' := 109) (L' := [some (.ref 78), some (.int y1196), some (.int y1197)]) (st' := [.ref 78]) (h' := (HX c1209.2 T)) (cs' := 0) (sl' := 0) rfl ?_
            obtain ⟨c1210, hq, h⟩ := ai_bdE h
            refine ev_call (M' := mtxt_skipBlanks) (L' := [some (.ref 78)]) (rest := []) (rv := none) (h' := (HX c1210 T)) rfl (Etxt_skipBlanks_78 n c1209.2 _ hq T) ?_
            show ai_ev D1 mtxt_takeNumbers 112 [some (.ref 78), some (.int y1196), some (.int y1197)] [] (HX c1210 T) 0 0 _
            refine ev_go 2 (pc' := 6) (L' := [some (.ref 78), some (.int y1196), some (.int (y1197 + 1))]) (st' := []) (h' := (HX c1210 T)) (cs' := 0) (sl' := 0) rfl ?_
            exact ih0 _ _ _ _ _ h T
          · refine ev_if_eq (t := 108) rfl rfl (fun c9 => absurd c9 hc) (fun _ => ?_)
            refine ev_go 2 (pc' := 107) (L' := [some (.ref 78), some (.int y1196), some (.int y1197)]) (st' := [.int (a_text_at c1209.2)]) (h' := (HX c1209.2 T)) (cs' := 0) (sl' := 0) rfl ?_
            obtain ⟨rfl, rfl⟩ := ai_smP h
            exact ev_end rfl
set_option maxHeartbeats 40000000 in
set_option maxRecDepth 100000 in
theorem Etxt_takeNumbers_78 (n : Nat) (x1194 : Int32) (w : WX) (r : Int32) (w' : WX) (h : Ftxt_takeNumbers_78 n x1194 w = some (r, w')) (T : ai_H) : ai_ev D1 mtxt_takeNumbers 0 [some (.ref 78), some (.int x1194), none] [] (HX w T) 0 0 (some (.int r), HX w' T) := by
  unfold Ftxt_takeNumbers_78 at h
  have ih0 := EGtxt_takeNumbers_78 n
  refine ev_go 1 (pc' := 1) (L' := [some (.ref 78), some (.int x1194), none]) (st' := [.ref 78]) (h' := (HX w T)) (cs' := 0) (sl' := 0) rfl ?_
  obtain ⟨c1195, hq, h⟩ := ai_bdE h
  refine ev_call (M' := mtxt_skipBlanks) (L' := [some (.ref 78)]) (rest := []) (rv := none) (h' := (HX c1195 T)) rfl (Etxt_skipBlanks_78 n w _ hq T) ?_
  show ai_ev D1 mtxt_takeNumbers 4 [some (.ref 78), some (.int x1194), none] [] (HX c1195 T) 0 0 _
  refine ev_go 2 (pc' := 6) (L' := [some (.ref 78), some (.int x1194), some (.int 0)]) (st' := []) (h' := (HX c1195 T)) (cs' := 0) (sl' := 0) rfl ?_
  exact ih0 _ _ _ _ _ h T
set_option maxHeartbeats 40000000 in
set_option maxRecDepth 100000 in
theorem EGarr_fill_22 : ∀ n : Nat, (∀ (y1220 : Int32) (y1221 : Int32) (y1222 : Int32) (w : WX) (w' : WX), Garr_fill_22 n 0 y1220 y1221 y1222 w = some w' → ∀ (T : ai_H), ai_ev D1 marr_fill 5 [some (.ref 22), some (.int y1220), some (.int y1221), some (.int y1222)] [] (HX w T) 0 0 (none, HX w' T)) := by
  intro n
  induction n with
  | zero =>
    exact (fun _ _ _ _ _ h => by cases h)
  | succ n ih0 =>
    intro y1220 y1221 y1222 w w' h T
    simp only [Garr_fill_22] at h
    refine ev_go 2 (pc' := 7) (L' := [some (.ref 22), some (.int y1220), some (.int y1221), some (.int y1222)]) (st' := [.int y1222, .int y1221]) (h' := (HX w T)) (cs' := 0) (sl' := 0) rfl ?_
    rcases ai_ifE h with ⟨hc, h⟩ | ⟨hc, h⟩
    · refine ev_ic_ge (t := 20) rfl rfl (fun _ => ?_) (fun c9 => absurd hc c9)
      obtain rfl := Option.some.inj h
      exact ev_end rfl
    · refine ev_ic_ge (t := 20) rfl rfl (fun c9 => absurd c9 hc) (fun _ => ?_)
      refine ev_go 3 (pc' := 13) (L' := [some (.ref 22), some (.int y1220), some (.int y1221), some (.int y1222)]) (st' := [.int y1220, .int y1221, .ref 22]) (h' := (HX w T)) (cs' := 0) (sl' := 0) rfl ?_
      obtain ⟨q1223, hq, h⟩ := ai_bdE h
      refine ev_iast rfl rfl hq ?_
      rw [HXs_22]
      refine ev_go 2 (pc' := 5) (L' := [some (.ref 22), some (.int y1220), some (.int (y1221 + 1)), some (.int y1222)]) (st' := []) (h' := (HX (u_s2_currents w q1223) T)) (cs' := 0) (sl' := 0) rfl ?_
      exact ih0 _ _ _ _ _ h T
set_option maxHeartbeats 40000000 in
set_option maxRecDepth 100000 in
theorem Earr_fill_22 (n : Nat) (x1219 : Int32) (w : WX) (w' : WX) (h : Farr_fill_22 n x1219 w = some w') (T : ai_H) : ai_ev D1 marr_fill 0 [some (.ref 22), some (.int x1219), none, none] [] (HX w T) 0 0 (none, HX w' T) := by
  unfold Farr_fill_22 at h
  have ih0 := EGarr_fill_22 n
  refine ev_go 5 (pc' := 5) (L' := [some (.ref 22), some (.int x1219), some (.int 0), some (.int (Int32.ofNat (List.length (a_s2_currents w))))]) (st' := []) (h' := (HX w T)) (cs' := 0) (sl' := 0) rfl ?_
  exact ih0 _ _ _ _ _ h T
set_option maxHeartbeats 40000000 in
set_option maxRecDepth 100000 in
theorem EGarr_fill_23 : ∀ n : Nat, (∀ (y1226 : Int32) (y1227 : Int32) (y1228 : Int32) (w : WX) (w' : WX), Garr_fill_23 n 0 y1226 y1227 y1228 w = some w' → ∀ (T : ai_H), ai_ev D1 marr_fill 5 [some (.ref 23), some (.int y1226), some (.int y1227), some (.int y1228)] [] (HX w T) 0 0 (none, HX w' T)) := by
  intro n
  induction n with
  | zero =>
    exact (fun _ _ _ _ _ h => by cases h)
  | succ n ih0 =>
    intro y1226 y1227 y1228 w w' h T
    simp only [Garr_fill_23] at h
    refine ev_go 2 (pc' := 7) (L' := [some (.ref 23), some (.int y1226), some (.int y1227), some (.int y1228)]) (st' := [.int y1228, .int y1227]) (h' := (HX w T)) (cs' := 0) (sl' := 0) rfl ?_
    rcases ai_ifE h with ⟨hc, h⟩ | ⟨hc, h⟩
    · refine ev_ic_ge (t := 20) rfl rfl (fun _ => ?_) (fun c9 => absurd hc c9)
      obtain rfl := Option.some.inj h
      exact ev_end rfl
    · refine ev_ic_ge (t := 20) rfl rfl (fun c9 => absurd c9 hc) (fun _ => ?_)
      refine ev_go 3 (pc' := 13) (L' := [some (.ref 23), some (.int y1226), some (.int y1227), some (.int y1228)]) (st' := [.int y1226, .int y1227, .ref 23]) (h' := (HX w T)) (cs' := 0) (sl' := 0) rfl ?_
      obtain ⟨q1229, hq, h⟩ := ai_bdE h
      refine ev_iast rfl rfl hq ?_
      rw [HXs_23]
      refine ev_go 2 (pc' := 5) (L' := [some (.ref 23), some (.int y1226), some (.int (y1227 + 1)), some (.int y1228)]) (st' := []) (h' := (HX (u_s2_tides w q1229) T)) (cs' := 0) (sl' := 0) rfl ?_
      exact ih0 _ _ _ _ _ h T
set_option maxHeartbeats 40000000 in
set_option maxRecDepth 100000 in
theorem Earr_fill_23 (n : Nat) (x1225 : Int32) (w : WX) (w' : WX) (h : Farr_fill_23 n x1225 w = some w') (T : ai_H) : ai_ev D1 marr_fill 0 [some (.ref 23), some (.int x1225), none, none] [] (HX w T) 0 0 (none, HX w' T) := by
  unfold Farr_fill_23 at h
  have ih0 := EGarr_fill_23 n
  refine ev_go 5 (pc' := 5) (L' := [some (.ref 23), some (.int x1225), some (.int 0), some (.int (Int32.ofNat (List.length (a_s2_tides w))))]) (st' := []) (h' := (HX w T)) (cs' := 0) (sl' := 0) rfl ?_
  exact ih0 _ _ _ _ _ h T
set_option maxHeartbeats 40000000 in
set_option maxRecDepth 100000 in
theorem EGarr_fill_24 : ∀ n : Nat, (∀ (y1232 : Int32) (y1233 : Int32) (y1234 : Int32) (w : WX) (w' : WX), Garr_fill_24 n 0 y1232 y1233 y1234 w = some w' → ∀ (T : ai_H), ai_ev D1 marr_fill 5 [some (.ref 24), some (.int y1232), some (.int y1233), some (.int y1234)] [] (HX w T) 0 0 (none, HX w' T)) := by
  intro n
  induction n with
  | zero =>
    exact (fun _ _ _ _ _ h => by cases h)
  | succ n ih0 =>
    intro y1232 y1233 y1234 w w' h T
    simp only [Garr_fill_24] at h
    refine ev_go 2 (pc' := 7) (L' := [some (.ref 24), some (.int y1232), some (.int y1233), some (.int y1234)]) (st' := [.int y1234, .int y1233]) (h' := (HX w T)) (cs' := 0) (sl' := 0) rfl ?_
    rcases ai_ifE h with ⟨hc, h⟩ | ⟨hc, h⟩
    · refine ev_ic_ge (t := 20) rfl rfl (fun _ => ?_) (fun c9 => absurd hc c9)
      obtain rfl := Option.some.inj h
      exact ev_end rfl
    · refine ev_ic_ge (t := 20) rfl rfl (fun c9 => absurd c9 hc) (fun _ => ?_)
      refine ev_go 3 (pc' := 13) (L' := [some (.ref 24), some (.int y1232), some (.int y1233), some (.int y1234)]) (st' := [.int y1232, .int y1233, .ref 24]) (h' := (HX w T)) (cs' := 0) (sl' := 0) rfl ?_
      obtain ⟨q1235, hq, h⟩ := ai_bdE h
      refine ev_iast rfl rfl hq ?_
      rw [HXs_24]
      refine ev_go 2 (pc' := 5) (L' := [some (.ref 24), some (.int y1232), some (.int (y1233 + 1)), some (.int y1234)]) (st' := []) (h' := (HX (u_s2_thicks w q1235) T)) (cs' := 0) (sl' := 0) rfl ?_
      exact ih0 _ _ _ _ _ h T
set_option maxHeartbeats 40000000 in
set_option maxRecDepth 100000 in
theorem Earr_fill_24 (n : Nat) (x1231 : Int32) (w : WX) (w' : WX) (h : Farr_fill_24 n x1231 w = some w') (T : ai_H) : ai_ev D1 marr_fill 0 [some (.ref 24), some (.int x1231), none, none] [] (HX w T) 0 0 (none, HX w' T) := by
  unfold Farr_fill_24 at h
  have ih0 := EGarr_fill_24 n
  refine ev_go 5 (pc' := 5) (L' := [some (.ref 24), some (.int x1231), some (.int 0), some (.int (Int32.ofNat (List.length (a_s2_thicks w))))]) (st' := []) (h' := (HX w T)) (cs' := 0) (sl' := 0) rfl ?_
  exact ih0 _ _ _ _ _ h T
set_option maxHeartbeats 40000000 in
set_option maxRecDepth 100000 in
theorem EGarr_fill_25 : ∀ n : Nat, (∀ (y1238 : Int32) (y1239 : Int32) (y1240 : Int32) (w : WX) (w' : WX), Garr_fill_25 n 0 y1238 y1239 y1240 w = some w' → ∀ (T : ai_H), ai_ev D1 marr_fill 5 [some (.ref 25), some (.int y1238), some (.int y1239), some (.int y1240)] [] (HX w T) 0 0 (none, HX w' T)) := by
  intro n
  induction n with
  | zero =>
    exact (fun _ _ _ _ _ h => by cases h)
  | succ n ih0 =>
    intro y1238 y1239 y1240 w w' h T
    simp only [Garr_fill_25] at h
    refine ev_go 2 (pc' := 7) (L' := [some (.ref 25), some (.int y1238), some (.int y1239), some (.int y1240)]) (st' := [.int y1240, .int y1239]) (h' := (HX w T)) (cs' := 0) (sl' := 0) rfl ?_
    rcases ai_ifE h with ⟨hc, h⟩ | ⟨hc, h⟩
    · refine ev_ic_ge (t := 20) rfl rfl (fun _ => ?_) (fun c9 => absurd hc c9)
      obtain rfl := Option.some.inj h
      exact ev_end rfl
    · refine ev_ic_ge (t := 20) rfl rfl (fun c9 => absurd c9 hc) (fun _ => ?_)
      refine ev_go 3 (pc' := 13) (L' := [some (.ref 25), some (.int y1238), some (.int y1239), some (.int y1240)]) (st' := [.int y1238, .int y1239, .ref 25]) (h' := (HX w T)) (cs' := 0) (sl' := 0) rfl ?_
      obtain ⟨q1241, hq, h⟩ := ai_bdE h
      refine ev_iast rfl rfl hq ?_
      rw [HXs_25]
      refine ev_go 2 (pc' := 5) (L' := [some (.ref 25), some (.int y1238), some (.int (y1239 + 1)), some (.int y1240)]) (st' := []) (h' := (HX (u_s2_skins w q1241) T)) (cs' := 0) (sl' := 0) rfl ?_
      exact ih0 _ _ _ _ _ h T
set_option maxHeartbeats 40000000 in
set_option maxRecDepth 100000 in
theorem Earr_fill_25 (n : Nat) (x1237 : Int32) (w : WX) (w' : WX) (h : Farr_fill_25 n x1237 w = some w') (T : ai_H) : ai_ev D1 marr_fill 0 [some (.ref 25), some (.int x1237), none, none] [] (HX w T) 0 0 (none, HX w' T) := by
  unfold Farr_fill_25 at h
  have ih0 := EGarr_fill_25 n
  refine ev_go 5 (pc' := 5) (L' := [some (.ref 25), some (.int x1237), some (.int 0), some (.int (Int32.ofNat (List.length (a_s2_skins w))))]) (st' := []) (h' := (HX w T)) (cs' := 0) (sl' := 0) rfl ?_
  exact ih0 _ _ _ _ _ h T
set_option maxHeartbeats 40000000 in
set_option maxRecDepth 100000 in
theorem Esea_startAnew_20 (n : Nat) (x1216 : Int32) (w : WX) (r : Int32) (w' : WX) (h : Fsea_startAnew_20 n x1216 w = some (r, w')) (T : ai_H) : ai_ev D1 msea_startAnew 0 [some (.ref 20), some (.int x1216), none] [] (HX w T) 0 0 (some (.int r), HX w' T) := by
  unfold Fsea_startAnew_20 at h
  refine ev_go 3 (pc' := 4) (L' := [some (.ref 20), some (.int x1216), none]) (st' := [.int 6, .int 1, .int x1216]) (h' := (HX w T)) (cs' := 0) (sl' := 0) rfl ?_
  obtain ⟨c1217, hq, h⟩ := ai_bdE h
  refine ev_call (M' := mf_within) (L' := [some (.int x1216), some (.int 1), some (.int 6)]) (rest := []) (rv := some (.int c1217)) (h' := (HX w T)) rfl (Ef_within x1216 1 6 _ hq (HX w T)) ?_
  show ai_ev D1 msea_startAnew 7 [some (.ref 20), some (.int x1216), none] [.int c1217] (HX w T) 0 0 _
  rcases ai_ifE h with ⟨hc, h⟩ | ⟨hc, h⟩
  · refine ev_if_ne (t := 13) rfl rfl (fun c9 => absurd hc c9) (fun _ => ?_)
    refine ev_go 1 (pc' := 12) (L' := [some (.ref 20), some (.int x1216), none]) (st' := [.int (-2)]) (h' := (HX w T)) (cs' := 0) (sl' := 0) rfl ?_
    obtain ⟨rfl, rfl⟩ := ai_smP h
    exact ev_end rfl
  · refine ev_if_ne (t := 13) rfl rfl (fun _ => ?_) (fun c9 => absurd c9 hc)
    refine ev_go 5 (pc' := 20) (L' := [some (.ref 20), some (.int x1216), some (.int (a_s2_cells w))]) (st' := [.int x1216, .ref 20]) (h' := (HX w T)) (cs' := 0) (sl' := 0) rfl ?_
    refine ev_step rfl rfl rfl (PFX_2_9_20 rfl) ?_
    refine ev_go 2 (pc' := 25) (L' := [some (.ref 20), some (.int x1216), some (.int (a_s2_cells w))]) (st' := [.int 0, .ref 20]) (h' := (HX (u_s2_cells w x1216) T)) (cs' := 0) (sl' := 0) rfl ?_
    refine ev_step rfl rfl rfl (PFX_2_15_20 rfl) ?_
    refine ev_go 2 (pc' := 30) (L' := [some (.ref 20), some (.int x1216), some (.int (a_s2_cells w))]) (st' := [.int 0, .ref 20]) (h' := (HX (u_s2_hour (u_s2_cells w x1216) 0) T)) (cs' := 0) (sl' := 0) rfl ?_
    refine ev_step rfl rfl rfl (PFX_2_18_20 rfl) ?_
    refine ev_go 6 (pc' := 43) (L' := [some (.ref 20), some (.int x1216), some (.int (a_s2_cells w))]) (st' := [.int 4, .int 0, .ref 21, .int 0, .retAddr 0]) (h' := (HX (u_s2_dams (u_s2_hour (u_s2_cells w x1216) 0) 0) T)) (cs' := 0) (sl' := 0) rfl ?_
    obtain ⟨q1218, hq, h⟩ := ai_bdE h
    refine ev_cpx rfl rfl rfl rfl rfl rfl hq ?_
    rw [HXs_21]
    refine ev_go 3 (pc' := 51) (L' := [some (.ref 20), some (.int x1216), some (.int (a_s2_cells w))]) (st' := [.int 0, .ref 22]) (h' := (HX (u_s2_densities (u_s2_dams (u_s2_hour (u_s2_cells w x1216) 0) 0) q1218) T)) (cs' := 0) (sl' := 0) rfl ?_
    obtain ⟨c1224, hq, h⟩ := ai_bdE h
    refine ev_call (M' := marr_fill) (L' := [some (.ref 22), some (.int 0), none, none]) (rest := []) (rv := none) (h' := (HX c1224 T)) rfl (Earr_fill_22 n 0 (u_s2_densities (u_s2_dams (u_s2_hour (u_s2_cells w x1216) 0) 0) q1218) _ hq T) ?_
    show ai_ev D1 msea_startAnew 54 [some (.ref 20), some (.int x1216), some (.int (a_s2_cells w))] [] (HX c1224 T) 0 0 _
    refine ev_go 3 (pc' := 59) (L' := [some (.ref 20), some (.int x1216), some (.int (a_s2_cells w))]) (st' := [.int 0, .ref 23]) (h' := (HX c1224 T)) (cs' := 0) (sl' := 0) rfl ?_
    obtain ⟨c1230, hq, h⟩ := ai_bdE h
    refine ev_call (M' := marr_fill) (L' := [some (.ref 23), some (.int 0), none, none]) (rest := []) (rv := none) (h' := (HX c1230 T)) rfl (Earr_fill_23 n 0 c1224 _ hq T) ?_
    show ai_ev D1 msea_startAnew 62 [some (.ref 20), some (.int x1216), some (.int (a_s2_cells w))] [] (HX c1230 T) 0 0 _
    refine ev_go 3 (pc' := 67) (L' := [some (.ref 20), some (.int x1216), some (.int (a_s2_cells w))]) (st' := [.int 3, .ref 24]) (h' := (HX c1230 T)) (cs' := 0) (sl' := 0) rfl ?_
    obtain ⟨c1236, hq, h⟩ := ai_bdE h
    refine ev_call (M' := marr_fill) (L' := [some (.ref 24), some (.int 3), none, none]) (rest := []) (rv := none) (h' := (HX c1236 T)) rfl (Earr_fill_24 n 3 c1230 _ hq T) ?_
    show ai_ev D1 msea_startAnew 70 [some (.ref 20), some (.int x1216), some (.int (a_s2_cells w))] [] (HX c1236 T) 0 0 _
    refine ev_go 3 (pc' := 75) (L' := [some (.ref 20), some (.int x1216), some (.int (a_s2_cells w))]) (st' := [.int 0, .ref 25]) (h' := (HX c1236 T)) (cs' := 0) (sl' := 0) rfl ?_
    obtain ⟨c1242, hq, h⟩ := ai_bdE h
    refine ev_call (M' := marr_fill) (L' := [some (.ref 25), some (.int 0), none, none]) (rest := []) (rv := none) (h' := (HX c1242 T)) rfl (Earr_fill_25 n 0 c1236 _ hq T) ?_
    show ai_ev D1 msea_startAnew 78 [some (.ref 20), some (.int x1216), some (.int (a_s2_cells w))] [] (HX c1242 T) 0 0 _
    refine ev_go 3 (pc' := 83) (L' := [some (.ref 20), some (.int x1216), some (.int (a_s2_cells w))]) (st' := [.int 0, .ref 26]) (h' := (HX c1242 T)) (cs' := 0) (sl' := 0) rfl ?_
    refine ev_step rfl rfl rfl (PFX_2_95_26 rfl) ?_
    refine ev_go 3 (pc' := 91) (L' := [some (.ref 20), some (.int x1216), some (.int (a_s2_cells w))]) (st' := [.int 0, .ref 31]) (h' := (HX (u_s2things_count c1242 0) T)) (cs' := 0) (sl' := 0) rfl ?_
    refine ev_step rfl rfl rfl (PFX_2_98_31 rfl) ?_
    refine ev_go 2 (pc' := 96) (L' := [some (.ref 20), some (.int x1216), some (.int (a_s2_cells w))]) (st' := [.int 0, .ref 20]) (h' := (HX (u_s2lifts_count (u_s2things_count c1242 0) 0) T)) (cs' := 0) (sl' := 0) rfl ?_
    refine ev_step rfl rfl rfl (PFX_2_51_20 rfl) ?_
    refine ev_go 2 (pc' := 101) (L' := [some (.ref 20), some (.int x1216), some (.int (a_s2_cells w))]) (st' := [.int 0, .ref 20]) (h' := (HX (u_s2_towns (u_s2lifts_count (u_s2things_count c1242 0) 0) 0) T)) (cs' := 0) (sl' := 0) rfl ?_
    refine ev_step rfl rfl rfl (PFX_2_57_20 rfl) ?_
    refine ev_go 2 (pc' := 106) (L' := [some (.ref 20), some (.int x1216), some (.int (a_s2_cells w))]) (st' := [.int 0, .ref 20]) (h' := (HX (u_s2_drops (u_s2_towns (u_s2lifts_count (u_s2things_count c1242 0) 0) 0) 0) T)) (cs' := 0) (sl' := 0) rfl ?_
    refine ev_step rfl rfl rfl (PFX_2_66_20 rfl) ?_
    refine ev_go 1 (pc' := 110) (L' := [some (.ref 20), some (.int x1216), some (.int (a_s2_cells w))]) (st' := [.int (a_s2_cells w)]) (h' := (HX (u_s2_undos (u_s2_drops (u_s2_towns (u_s2lifts_count (u_s2things_count c1242 0) 0) 0) 0) 0) T)) (cs' := 0) (sl' := 0) rfl ?_
    obtain ⟨rfl, rfl⟩ := ai_smP h
    exact ev_end rfl
set_option maxHeartbeats 40000000 in
set_option maxRecDepth 100000 in
theorem Esea_putDensity_20 (x1246 : Int32) (x1247 : Int32) (w : WX) (r : Int32) (w' : WX) (h : Fsea_putDensity_20 x1246 x1247 w = some (r, w')) (T : ai_H) : ai_ev D1 msea_putDensity 0 [some (.ref 20), some (.int x1246), some (.int x1247), none, none, none] [] (HX w T) 0 0 (some (.int r), HX w' T) := by
  unfold Fsea_putDensity_20 at h
  refine ev_go 1 (pc' := 1) (L' := [some (.ref 20), some (.int x1246), some (.int x1247), none, none, none]) (st' := [.int x1246]) (h' := (HX w T)) (cs' := 0) (sl' := 0) rfl ?_
  obtain ⟨c1248, hq, h⟩ := ai_bdE h
  refine ev_call (M' := mf_isLayer) (L' := [some (.int x1246)]) (rest := []) (rv := some (.int c1248)) (h' := (HX w T)) rfl (Ef_isLayer x1246 _ hq (HX w T)) ?_
  show ai_ev D1 msea_putDensity 4 [some (.ref 20), some (.int x1246), some (.int x1247), none, none, none] [.int c1248] (HX w T) 0 0 _
  rcases ai_ifE h with ⟨hc, h⟩ | ⟨hc, h⟩
  · refine ev_if_eq (t := 17) rfl rfl (fun _ => ?_) (fun c9 => absurd hc c9)
    refine ev_go 1 (pc' := 19) (L' := [some (.ref 20), some (.int x1246), some (.int x1247), none, none, none]) (st' := [.int (-2)]) (h' := (HX w T)) (cs' := 0) (sl' := 0) rfl ?_
    obtain ⟨rfl, rfl⟩ := ai_smP h
    exact ev_end rfl
  · refine ev_if_eq (t := 17) rfl rfl (fun c9 => absurd c9 hc) (fun _ => ?_)
    refine ev_go 3 (pc' := 11) (L' := [some (.ref 20), some (.int x1246), some (.int x1247), none, none, none]) (st' := [.int 99, .int 1, .int x1247]) (h' := (HX w T)) (cs' := 0) (sl' := 0) rfl ?_
    obtain ⟨c1249, hq, h⟩ := ai_bdE h
    refine ev_call (M' := mf_within) (L' := [some (.int x1247), some (.int 1), some (.int 99)]) (rest := []) (rv := some (.int c1249)) (h' := (HX w T)) rfl (Ef_within x1247 1 99 _ hq (HX w T)) ?_
    show ai_ev D1 msea_putDensity 14 [some (.ref 20), some (.int x1246), some (.int x1247), none, none, none] [.int c1249] (HX w T) 0 0 _
    rcases ai_ifE h with ⟨hc, h⟩ | ⟨hc, h⟩
    · refine ev_if_ne (t := 20) rfl rfl (fun c9 => absurd hc c9) (fun _ => ?_)
      refine ev_go 1 (pc' := 19) (L' := [some (.ref 20), some (.int x1246), some (.int x1247), none, none, none]) (st' := [.int (-2)]) (h' := (HX w T)) (cs' := 0) (sl' := 0) rfl ?_
      obtain ⟨rfl, rfl⟩ := ai_smP h
      exact ev_end rfl
    · refine ev_if_ne (t := 20) rfl rfl (fun _ => ?_) (fun c9 => absurd c9 hc)
      refine ev_go 1 (pc' := 21) (L' := [some (.ref 20), some (.int x1246), some (.int x1247), none, none, none]) (st' := [.int x1246]) (h' := (HX w T)) (cs' := 0) (sl' := 0) rfl ?_
      rcases ai_ifE h with ⟨hc, h⟩ | ⟨hc, h⟩
      · refine ev_if_eq (t := 36) rfl rfl (fun _ => ?_) (fun c9 => absurd hc c9)
        refine ev_go 5 (pc' := 44) (L' := [some (.ref 20), some (.int x1246), some (.int x1247), some (.int 1), none, none]) (st' := [.int 3, .int x1246]) (h' := (HX w T)) (cs' := 0) (sl' := 0) rfl ?_
        rcases ai_ifE h with ⟨hc, h⟩ | ⟨hc, h⟩
        · refine ev_ic_eq (t := 59) rfl rfl (fun _ => ?_) (fun c9 => absurd hc c9)
          refine ev_go 10 (pc' := 83) (L' := [some (.ref 20), some (.int x1246), some (.int x1247), some (.int 1), some (.int 1), none]) (st' := [.int x1246, .ref 21]) (h' := (HX w T)) (cs' := 0) (sl' := 0) rfl ?_
          obtain ⟨v1250, hq, h⟩ := ai_bdE h
          refine ev_iald rfl rfl hq ?_
          refine ev_go 5 (pc' := 92) (L' := [some (.ref 20), some (.int x1246), some (.int x1247), some (.int 1), some (.int 1), some (.int v1250)]) (st' := [.int x1247, .int x1246, .ref 21]) (h' := (HX w T)) (cs' := 0) (sl' := 0) rfl ?_
          obtain ⟨q1251, hq, h⟩ := ai_bdE h
          refine ev_iast rfl rfl hq ?_
          rw [HXs_21]
          refine ev_go 1 (pc' := 95) (L' := [some (.ref 20), some (.int x1246), some (.int x1247), some (.int 1), some (.int 1), some (.int v1250)]) (st' := [.int v1250]) (h' := (HX (u_s2_densities w q1251) T)) (cs' := 0) (sl' := 0) rfl ?_
          obtain ⟨rfl, rfl⟩ := ai_smP h
          exact ev_end rfl
        · refine ev_ic_eq (t := 59) rfl rfl (fun c9 => absurd c9 hc) (fun _ => ?_)
          refine ev_go 5 (pc' := 54) (L' := [some (.ref 20), some (.int x1246), some (.int x1247), some (.int 1), none, none]) (st' := [.int (x1246 + 1), .ref 21]) (h' := (HX w T)) (cs' := 0) (sl' := 0) rfl ?_
          obtain ⟨v1252, hq, h⟩ := ai_bdE h
          refine ev_iald rfl rfl hq ?_
          refine ev_go 1 (pc' := 56) (L' := [some (.ref 20), some (.int x1246), some (.int x1247), some (.int 1), none, none]) (st' := [.int x1247, .int v1252]) (h' := (HX w T)) (cs' := 0) (sl' := 0) rfl ?_
          rcases ai_ifE h with ⟨hc, h⟩ | ⟨hc, h⟩
          · refine ev_ic_le (t := 63) rfl rfl (fun _ => ?_) (fun c9 => absurd hc c9)
            refine ev_go 7 (pc' := 77) (L' := [some (.ref 20), some (.int x1246), some (.int x1247), some (.int 1), some (.int 0), none]) (st' := [.int (-3)]) (h' := (HX w T)) (cs' := 0) (sl' := 0) rfl ?_
            obtain ⟨rfl, rfl⟩ := ai_smP h
            exact ev_end rfl
          · refine ev_ic_le (t := 63) rfl rfl (fun c9 => absurd c9 hc) (fun _ => ?_)
            refine ev_go 10 (pc' := 83) (L' := [some (.ref 20), some (.int x1246), some (.int x1247), some (.int 1), some (.int 1), none]) (st' := [.int x1246, .ref 21]) (h' := (HX w T)) (cs' := 0) (sl' := 0) rfl ?_
            obtain ⟨v1253, hq, h⟩ := ai_bdE h
            refine ev_iald rfl rfl hq ?_
            refine ev_go 5 (pc' := 92) (L' := [some (.ref 20), some (.int x1246), some (.int x1247), some (.int 1), some (.int 1), some (.int v1253)]) (st' := [.int x1247, .int x1246, .ref 21]) (h' := (HX w T)) (cs' := 0) (sl' := 0) rfl ?_
            obtain ⟨q1254, hq, h⟩ := ai_bdE h
            refine ev_iast rfl rfl hq ?_
            rw [HXs_21]
            refine ev_go 1 (pc' := 95) (L' := [some (.ref 20), some (.int x1246), some (.int x1247), some (.int 1), some (.int 1), some (.int v1253)]) (st' := [.int v1253]) (h' := (HX (u_s2_densities w q1254) T)) (cs' := 0) (sl' := 0) rfl ?_
            obtain ⟨rfl, rfl⟩ := ai_smP h
            exact ev_end rfl
      · refine ev_if_eq (t := 36) rfl rfl (fun c9 => absurd c9 hc) (fun _ => ?_)
        refine ev_go 5 (pc' := 31) (L' := [some (.ref 20), some (.int x1246), some (.int x1247), none, none, none]) (st' := [.int (x1246 - 1), .ref 21]) (h' := (HX w T)) (cs' := 0) (sl' := 0) rfl ?_
        obtain ⟨v1255, hq, h⟩ := ai_bdE h
        refine ev_iald rfl rfl hq ?_
        refine ev_go 1 (pc' := 33) (L' := [some (.ref 20), some (.int x1246), some (.int x1247), none, none, none]) (st' := [.int x1247, .int v1255]) (h' := (HX w T)) (cs' := 0) (sl' := 0) rfl ?_
        rcases ai_ifE h with ⟨hc, h⟩ | ⟨hc, h⟩
        · refine ev_ic_ge (t := 40) rfl rfl (fun _ => ?_) (fun c9 => absurd hc c9)
          refine ev_go 4 (pc' := 44) (L' := [some (.ref 20), some (.int x1246), some (.int x1247), some (.int 0), none, none]) (st' := [.int 3, .int x1246]) (h' := (HX w T)) (cs' := 0) (sl' := 0) rfl ?_
          rcases ai_ifE h with ⟨hc, h⟩ | ⟨hc, h⟩
          · refine ev_ic_eq (t := 59) rfl rfl (fun _ => ?_) (fun c9 => absurd hc c9)
            refine ev_go 6 (pc' := 77) (L' := [some (.ref 20), some (.int x1246), some (.int x1247), some (.int 0), some (.int 1), none]) (st' := [.int (-3)]) (h' := (HX w T)) (cs' := 0) (sl' := 0) rfl ?_
            obtain ⟨rfl, rfl⟩ := ai_smP h
            exact ev_end rfl
          · refine ev_ic_eq (t := 59) rfl rfl (fun c9 => absurd c9 hc) (fun _ => ?_)
            refine ev_go 5 (pc' := 54) (L' := [some (.ref 20), some (.int x1246), some (.int x1247), some (.int 0), none, none]) (st' := [.int (x1246 + 1), .ref 21]) (h' := (HX w T)) (cs' := 0) (sl' := 0) rfl ?_
            obtain ⟨v1256, hq, h⟩ := ai_bdE h
            refine ev_iald rfl rfl hq ?_
            refine ev_go 1 (pc' := 56) (L' := [some (.ref 20), some (.int x1246), some (.int x1247), some (.int 0), none, none]) (st' := [.int x1247, .int v1256]) (h' := (HX w T)) (cs' := 0) (sl' := 0) rfl ?_
            rcases ai_ifE h with ⟨hc, h⟩ | ⟨hc, h⟩
            · refine ev_ic_le (t := 63) rfl rfl (fun _ => ?_) (fun c9 => absurd hc c9)
              refine ev_go 5 (pc' := 77) (L' := [some (.ref 20), some (.int x1246), some (.int x1247), some (.int 0), some (.int 0), none]) (st' := [.int (-3)]) (h' := (HX w T)) (cs' := 0) (sl' := 0) rfl ?_
              obtain ⟨rfl, rfl⟩ := ai_smP h
              exact ev_end rfl
            · refine ev_ic_le (t := 63) rfl rfl (fun c9 => absurd c9 hc) (fun _ => ?_)
              refine ev_go 6 (pc' := 77) (L' := [some (.ref 20), some (.int x1246), some (.int x1247), some (.int 0), some (.int 1), none]) (st' := [.int (-3)]) (h' := (HX w T)) (cs' := 0) (sl' := 0) rfl ?_
              obtain ⟨rfl, rfl⟩ := ai_smP h
              exact ev_end rfl
        · refine ev_ic_ge (t := 40) rfl rfl (fun c9 => absurd c9 hc) (fun _ => ?_)
          refine ev_go 5 (pc' := 44) (L' := [some (.ref 20), some (.int x1246), some (.int x1247), some (.int 1), none, none]) (st' := [.int 3, .int x1246]) (h' := (HX w T)) (cs' := 0) (sl' := 0) rfl ?_
          rcases ai_ifE h with ⟨hc, h⟩ | ⟨hc, h⟩
          · refine ev_ic_eq (t := 59) rfl rfl (fun _ => ?_) (fun c9 => absurd hc c9)
            refine ev_go 10 (pc' := 83) (L' := [some (.ref 20), some (.int x1246), some (.int x1247), some (.int 1), some (.int 1), none]) (st' := [.int x1246, .ref 21]) (h' := (HX w T)) (cs' := 0) (sl' := 0) rfl ?_
            obtain ⟨v1257, hq, h⟩ := ai_bdE h
            refine ev_iald rfl rfl hq ?_
            refine ev_go 5 (pc' := 92) (L' := [some (.ref 20), some (.int x1246), some (.int x1247), some (.int 1), some (.int 1), some (.int v1257)]) (st' := [.int x1247, .int x1246, .ref 21]) (h' := (HX w T)) (cs' := 0) (sl' := 0) rfl ?_
            obtain ⟨q1258, hq, h⟩ := ai_bdE h
            refine ev_iast rfl rfl hq ?_
            rw [HXs_21]
            refine ev_go 1 (pc' := 95) (L' := [some (.ref 20), some (.int x1246), some (.int x1247), some (.int 1), some (.int 1), some (.int v1257)]) (st' := [.int v1257]) (h' := (HX (u_s2_densities w q1258) T)) (cs' := 0) (sl' := 0) rfl ?_
            obtain ⟨rfl, rfl⟩ := ai_smP h
            exact ev_end rfl
          · refine ev_ic_eq (t := 59) rfl rfl (fun c9 => absurd c9 hc) (fun _ => ?_)
            refine ev_go 5 (pc' := 54) (L' := [some (.ref 20), some (.int x1246), some (.int x1247), some (.int 1), none, none]) (st' := [.int (x1246 + 1), .ref 21]) (h' := (HX w T)) (cs' := 0) (sl' := 0) rfl ?_
            obtain ⟨v1259, hq, h⟩ := ai_bdE h
            refine ev_iald rfl rfl hq ?_
            refine ev_go 1 (pc' := 56) (L' := [some (.ref 20), some (.int x1246), some (.int x1247), some (.int 1), none, none]) (st' := [.int x1247, .int v1259]) (h' := (HX w T)) (cs' := 0) (sl' := 0) rfl ?_
            rcases ai_ifE h with ⟨hc, h⟩ | ⟨hc, h⟩
            · refine ev_ic_le (t := 63) rfl rfl (fun _ => ?_) (fun c9 => absurd hc c9)
              refine ev_go 7 (pc' := 77) (L' := [some (.ref 20), some (.int x1246), some (.int x1247), some (.int 1), some (.int 0), none]) (st' := [.int (-3)]) (h' := (HX w T)) (cs' := 0) (sl' := 0) rfl ?_
              obtain ⟨rfl, rfl⟩ := ai_smP h
              exact ev_end rfl
            · refine ev_ic_le (t := 63) rfl rfl (fun c9 => absurd c9 hc) (fun _ => ?_)
              refine ev_go 10 (pc' := 83) (L' := [some (.ref 20), some (.int x1246), some (.int x1247), some (.int 1), some (.int 1), none]) (st' := [.int x1246, .ref 21]) (h' := (HX w T)) (cs' := 0) (sl' := 0) rfl ?_
              obtain ⟨v1260, hq, h⟩ := ai_bdE h
              refine ev_iald rfl rfl hq ?_
              refine ev_go 5 (pc' := 92) (L' := [some (.ref 20), some (.int x1246), some (.int x1247), some (.int 1), some (.int 1), some (.int v1260)]) (st' := [.int x1247, .int x1246, .ref 21]) (h' := (HX w T)) (cs' := 0) (sl' := 0) rfl ?_
              obtain ⟨q1261, hq, h⟩ := ai_bdE h
              refine ev_iast rfl rfl hq ?_
              rw [HXs_21]
              refine ev_go 1 (pc' := 95) (L' := [some (.ref 20), some (.int x1246), some (.int x1247), some (.int 1), some (.int 1), some (.int v1260)]) (st' := [.int v1260]) (h' := (HX (u_s2_densities w q1261) T)) (cs' := 0) (sl' := 0) rfl ?_
              obtain ⟨rfl, rfl⟩ := ai_smP h
              exact ev_end rfl
set_option maxHeartbeats 40000000 in
set_option maxRecDepth 100000 in
theorem Esea_hasCell_20 (x1270 : Int32) (w : WX) (r : Int32) (w' : WX) (h : Fsea_hasCell_20 x1270 w = some (r, w')) (T : ai_H) : ai_ev D1 msea_hasCell 0 [some (.ref 20), some (.int x1270)] [] (HX w T) 0 0 (some (.int r), HX w' T) := by
  unfold Fsea_hasCell_20 at h
  refine ev_go 6 (pc' := 8) (L' := [some (.ref 20), some (.int x1270)]) (st' := [.int ((a_s2_cells w) - 1), .int 0, .int x1270]) (h' := (HX w T)) (cs' := 0) (sl' := 0) rfl ?_
  obtain ⟨c1271, hq, h⟩ := ai_bdE h
  refine ev_call (M' := mf_within) (L' := [some (.int x1270), some (.int 0), some (.int ((a_s2_cells w) - 1))]) (rest := []) (rv := some (.int c1271)) (h' := (HX w T)) rfl (Ef_within x1270 0 ((a_s2_cells w) - 1) _ hq (HX w T)) ?_
  show ai_ev D1 msea_hasCell 11 [some (.ref 20), some (.int x1270)] [.int c1271] (HX w T) 0 0 _
  obtain ⟨hv, h⟩ := ai_ifS h
  obtain ⟨rfl, rfl⟩ := ai_smP h
  exact ev_zend rfl rfl rfl hv
set_option maxHeartbeats 40000000 in
set_option maxRecDepth 100000 in
theorem Esea_putThick_20 (x1266 : Int32) (x1267 : Int32) (x1268 : Int32) (w : WX) (r : Int32) (w' : WX) (h : Fsea_putThick_20 x1266 x1267 x1268 w = some (r, w')) (T : ai_H) : ai_ev D1 msea_putThick 0 [some (.ref 20), some (.int x1266), some (.int x1267), some (.int x1268), none, none] [] (HX w T) 0 0 (some (.int r), HX w' T) := by
  unfold Fsea_putThick_20 at h
  refine ev_go 1 (pc' := 1) (L' := [some (.ref 20), some (.int x1266), some (.int x1267), some (.int x1268), none, none]) (st' := [.int x1266]) (h' := (HX w T)) (cs' := 0) (sl' := 0) rfl ?_
  obtain ⟨c1269, hq, h⟩ := ai_bdE h
  refine ev_call (M' := mf_isLayer) (L' := [some (.int x1266)]) (rest := []) (rv := some (.int c1269)) (h' := (HX w T)) rfl (Ef_isLayer x1266 _ hq (HX w T)) ?_
  show ai_ev D1 msea_putThick 4 [some (.ref 20), some (.int x1266), some (.int x1267), some (.int x1268), none, none] [.int c1269] (HX w T) 0 0 _
  rcases ai_ifE h with ⟨hc, h⟩ | ⟨hc, h⟩
  · refine ev_if_eq (t := 25) rfl rfl (fun _ => ?_) (fun c9 => absurd hc c9)
    refine ev_go 1 (pc' := 27) (L' := [some (.ref 20), some (.int x1266), some (.int x1267), some (.int x1268), none, none]) (st' := [.int (-2)]) (h' := (HX w T)) (cs' := 0) (sl' := 0) rfl ?_
    obtain ⟨rfl, rfl⟩ := ai_smP h
    exact ev_end rfl
  · refine ev_if_eq (t := 25) rfl rfl (fun c9 => absurd c9 hc) (fun _ => ?_)
    refine ev_go 2 (pc' := 9) (L' := [some (.ref 20), some (.int x1266), some (.int x1267), some (.int x1268), none, none]) (st' := [.int x1267, .ref 20]) (h' := (HX w T)) (cs' := 0) (sl' := 0) rfl ?_
    obtain ⟨c1272, hq, h⟩ := ai_bdE h
    refine ev_call (M' := msea_hasCell) (L' := [some (.ref 20), some (.int x1267)]) (rest := []) (rv := some (.int c1272.1)) (h' := (HX c1272.2 T)) rfl (Esea_hasCell_20 x1267 w _ _ hq T) ?_
    show ai_ev D1 msea_putThick 12 [some (.ref 20), some (.int x1266), some (.int x1267), some (.int x1268), none, none] [.int c1272.1] (HX c1272.2 T) 0 0 _
    rcases ai_ifE h with ⟨hc, h⟩ | ⟨hc, h⟩
    · refine ev_if_eq (t := 25) rfl rfl (fun _ => ?_) (fun c9 => absurd hc c9)
      refine ev_go 1 (pc' := 27) (L' := [some (.ref 20), some (.int x1266), some (.int x1267), some (.int x1268), none, none]) (st' := [.int (-2)]) (h' := (HX c1272.2 T)) (cs' := 0) (sl' := 0) rfl ?_
      obtain ⟨rfl, rfl⟩ := ai_smP h
      exact ev_end rfl
    · refine ev_if_eq (t := 25) rfl rfl (fun c9 => absurd c9 hc) (fun _ => ?_)
      refine ev_go 3 (pc' := 19) (L' := [some (.ref 20), some (.int x1266), some (.int x1267), some (.int x1268), none, none]) (st' := [.int 9, .int 0, .int x1268]) (h' := (HX c1272.2 T)) (cs' := 0) (sl' := 0) rfl ?_
      obtain ⟨c1273, hq, h⟩ := ai_bdE h
      refine ev_call (M' := mf_within) (L' := [some (.int x1268), some (.int 0), some (.int 9)]) (rest := []) (rv := some (.int c1273)) (h' := (HX c1272.2 T)) rfl (Ef_within x1268 0 9 _ hq (HX c1272.2 T)) ?_
      show ai_ev D1 msea_putThick 22 [some (.ref 20), some (.int x1266), some (.int x1267), some (.int x1268), none, none] [.int c1273] (HX c1272.2 T) 0 0 _
      rcases ai_ifE h with ⟨hc, h⟩ | ⟨hc, h⟩
      · refine ev_if_ne (t := 28) rfl rfl (fun c9 => absurd hc c9) (fun _ => ?_)
        refine ev_go 1 (pc' := 27) (L' := [some (.ref 20), some (.int x1266), some (.int x1267), some (.int x1268), none, none]) (st' := [.int (-2)]) (h' := (HX c1272.2 T)) (cs' := 0) (sl' := 0) rfl ?_
        obtain ⟨rfl, rfl⟩ := ai_smP h
        exact ev_end rfl
      · refine ev_if_ne (t := 28) rfl rfl (fun _ => ?_) (fun c9 => absurd c9 hc)
        refine ev_go 9 (pc' := 42) (L' := [some (.ref 20), some (.int x1266), some (.int x1267), some (.int x1268), some (.int ((x1266 * 6) + x1267)), none]) (st' := [.int ((x1266 * 6) + x1267), .ref 24]) (h' := (HX c1272.2 T)) (cs' := 0) (sl' := 0) rfl ?_
        obtain ⟨v1274, hq, h⟩ := ai_bdE h
        refine ev_iald rfl rfl hq ?_
        refine ev_go 5 (pc' := 52) (L' := [some (.ref 20), some (.int x1266), some (.int x1267), some (.int x1268), some (.int ((x1266 * 6) + x1267)), some (.int v1274)]) (st' := [.int x1268, .int ((x1266 * 6) + x1267), .ref 24]) (h' := (HX c1272.2 T)) (cs' := 0) (sl' := 0) rfl ?_
        obtain ⟨q1275, hq, h⟩ := ai_bdE h
        refine ev_iast rfl rfl hq ?_
        rw [HXs_24]
        refine ev_go 1 (pc' := 55) (L' := [some (.ref 20), some (.int x1266), some (.int x1267), some (.int x1268), some (.int ((x1266 * 6) + x1267)), some (.int v1274)]) (st' := [.int v1274]) (h' := (HX (u_s2_thicks c1272.2 q1275) T)) (cs' := 0) (sl' := 0) rfl ?_
        obtain ⟨rfl, rfl⟩ := ai_smP h
        exact ev_end rfl
set_option maxHeartbeats 40000000 in
set_option maxRecDepth 100000 in
theorem Esea_putSkin_20 (x1279 : Int32) (x1280 : Int32) (w : WX) (r : Int32) (w' : WX) (h : Fsea_putSkin_20 x1279 x1280 w = some (r, w')) (T : ai_H) : ai_ev D1 msea_putSkin 0 [some (.ref 20), some (.int x1279), some (.int x1280), none] [] (HX w T) 0 0 (some (.int r), HX w' T) := by
  unfold Fsea_putSkin_20 at h
  refine ev_go 3 (pc' := 3) (L' := [some (.ref 20), some (.int x1279), some (.int x1280), none]) (st' := [.int 2, .int 0, .int x1279]) (h' := (HX w T)) (cs' := 0) (sl' := 0) rfl ?_
  obtain ⟨c1281, hq, h⟩ := ai_bdE h
  refine ev_call (M' := mf_within) (L' := [some (.int x1279), some (.int 0), some (.int 2)]) (rest := []) (rv := some (.int c1281)) (h' := (HX w T)) rfl (Ef_within x1279 0 2 _ hq (HX w T)) ?_
  show ai_ev D1 msea_putSkin 6 [some (.ref 20), some (.int x1279), some (.int x1280), none] [.int c1281] (HX w T) 0 0 _
  rcases ai_ifE h with ⟨hc, h⟩ | ⟨hc, h⟩
  · refine ev_if_eq (t := 19) rfl rfl (fun _ => ?_) (fun c9 => absurd hc c9)
    refine ev_go 1 (pc' := 21) (L' := [some (.ref 20), some (.int x1279), some (.int x1280), none]) (st' := [.int (-2)]) (h' := (HX w T)) (cs' := 0) (sl' := 0) rfl ?_
    obtain ⟨rfl, rfl⟩ := ai_smP h
    exact ev_end rfl
  · refine ev_if_eq (t := 19) rfl rfl (fun c9 => absurd c9 hc) (fun _ => ?_)
    refine ev_go 3 (pc' := 13) (L' := [some (.ref 20), some (.int x1279), some (.int x1280), none]) (st' := [.int 99, .int 0, .int x1280]) (h' := (HX w T)) (cs' := 0) (sl' := 0) rfl ?_
    obtain ⟨c1282, hq, h⟩ := ai_bdE h
    refine ev_call (M' := mf_within) (L' := [some (.int x1280), some (.int 0), some (.int 99)]) (rest := []) (rv := some (.int c1282)) (h' := (HX w T)) rfl (Ef_within x1280 0 99 _ hq (HX w T)) ?_
    show ai_ev D1 msea_putSkin 16 [some (.ref 20), some (.int x1279), some (.int x1280), none] [.int c1282] (HX w T) 0 0 _
    rcases ai_ifE h with ⟨hc, h⟩ | ⟨hc, h⟩
    · refine ev_if_ne (t := 22) rfl rfl (fun c9 => absurd hc c9) (fun _ => ?_)
      refine ev_go 1 (pc' := 21) (L' := [some (.ref 20), some (.int x1279), some (.int x1280), none]) (st' := [.int (-2)]) (h' := (HX w T)) (cs' := 0) (sl' := 0) rfl ?_
      obtain ⟨rfl, rfl⟩ := ai_smP h
      exact ev_end rfl
    · refine ev_if_ne (t := 22) rfl rfl (fun _ => ?_) (fun c9 => absurd c9 hc)
      refine ev_go 3 (pc' := 27) (L' := [some (.ref 20), some (.int x1279), some (.int x1280), none]) (st' := [.int x1279, .ref 25]) (h' := (HX w T)) (cs' := 0) (sl' := 0) rfl ?_
      obtain ⟨v1283, hq, h⟩ := ai_bdE h
      refine ev_iald rfl rfl hq ?_
      refine ev_go 5 (pc' := 35) (L' := [some (.ref 20), some (.int x1279), some (.int x1280), some (.int v1283)]) (st' := [.int x1280, .int x1279, .ref 25]) (h' := (HX w T)) (cs' := 0) (sl' := 0) rfl ?_
      obtain ⟨q1284, hq, h⟩ := ai_bdE h
      refine ev_iast rfl rfl hq ?_
      rw [HXs_25]
      refine ev_go 1 (pc' := 37) (L' := [some (.ref 20), some (.int x1279), some (.int x1280), some (.int v1283)]) (st' := [.int v1283]) (h' := (HX (u_s2_skins w q1284) T)) (cs' := 0) (sl' := 0) rfl ?_
      obtain ⟨rfl, rfl⟩ := ai_smP h
      exact ev_end rfl
set_option maxHeartbeats 40000000 in
set_option maxRecDepth 100000 in
theorem Ethg_add_26 (x1289 : Int32) (x1290 : Int32) (x1291 : Int32) (w : WX) (r : Int32) (w' : WX) (h : Fthg_add_26 x1289 x1290 x1291 w = some (r, w')) (T : ai_H) : ai_ev D1 mthg_add 0 [some (.ref 26), some (.int x1289), some (.int x1290), some (.int x1291)] [] (HX w T) 0 0 (some (.int r), HX w' T) := by
  unfold Fthg_add_26 at h
  refine ev_go 3 (pc' := 3) (L' := [some (.ref 26), some (.int x1289), some (.int x1290), some (.int x1291)]) (st' := [.int 5, .int 0, .int x1289]) (h' := (HX w T)) (cs' := 0) (sl' := 0) rfl ?_
  obtain ⟨c1292, hq, h⟩ := ai_bdE h
  refine ev_call (M' := mf_within) (L' := [some (.int x1289), some (.int 0), some (.int 5)]) (rest := []) (rv := some (.int c1292)) (h' := (HX w T)) rfl (Ef_within x1289 0 5 _ hq (HX w T)) ?_
  show ai_ev D1 mthg_add 6 [some (.ref 26), some (.int x1289), some (.int x1290), some (.int x1291)] [.int c1292] (HX w T) 0 0 _
  rcases ai_ifE h with ⟨hc, h⟩ | ⟨hc, h⟩
  · refine ev_if_eq (t := 29) rfl rfl (fun _ => ?_) (fun c9 => absurd hc c9)
    refine ev_go 1 (pc' := 31) (L' := [some (.ref 26), some (.int x1289), some (.int x1290), some (.int x1291)]) (st' := [.int (-2)]) (h' := (HX w T)) (cs' := 0) (sl' := 0) rfl ?_
    obtain ⟨rfl, rfl⟩ := ai_smP h
    exact ev_end rfl
  · refine ev_if_eq (t := 29) rfl rfl (fun c9 => absurd c9 hc) (fun _ => ?_)
    refine ev_go 3 (pc' := 13) (L' := [some (.ref 26), some (.int x1289), some (.int x1290), some (.int x1291)]) (st' := [.int 99, .int 1, .int x1290]) (h' := (HX w T)) (cs' := 0) (sl' := 0) rfl ?_
    obtain ⟨c1293, hq, h⟩ := ai_bdE h
    refine ev_call (M' := mf_within) (L' := [some (.int x1290), some (.int 1), some (.int 99)]) (rest := []) (rv := some (.int c1293)) (h' := (HX w T)) rfl (Ef_within x1290 1 99 _ hq (HX w T)) ?_
    show ai_ev D1 mthg_add 16 [some (.ref 26), some (.int x1289), some (.int x1290), some (.int x1291)] [.int c1293] (HX w T) 0 0 _
    rcases ai_ifE h with ⟨hc, h⟩ | ⟨hc, h⟩
    · refine ev_if_eq (t := 29) rfl rfl (fun _ => ?_) (fun c9 => absurd hc c9)
      refine ev_go 1 (pc' := 31) (L' := [some (.ref 26), some (.int x1289), some (.int x1290), some (.int x1291)]) (st' := [.int (-2)]) (h' := (HX w T)) (cs' := 0) (sl' := 0) rfl ?_
      obtain ⟨rfl, rfl⟩ := ai_smP h
      exact ev_end rfl
    · refine ev_if_eq (t := 29) rfl rfl (fun c9 => absurd c9 hc) (fun _ => ?_)
      refine ev_go 3 (pc' := 23) (L' := [some (.ref 26), some (.int x1289), some (.int x1290), some (.int x1291)]) (st' := [.int 9, .int 1, .int x1291]) (h' := (HX w T)) (cs' := 0) (sl' := 0) rfl ?_
      obtain ⟨c1294, hq, h⟩ := ai_bdE h
      refine ev_call (M' := mf_within) (L' := [some (.int x1291), some (.int 1), some (.int 9)]) (rest := []) (rv := some (.int c1294)) (h' := (HX w T)) rfl (Ef_within x1291 1 9 _ hq (HX w T)) ?_
      show ai_ev D1 mthg_add 26 [some (.ref 26), some (.int x1289), some (.int x1290), some (.int x1291)] [.int c1294] (HX w T) 0 0 _
      rcases ai_ifE h with ⟨hc, h⟩ | ⟨hc, h⟩
      · refine ev_if_ne (t := 32) rfl rfl (fun c9 => absurd hc c9) (fun _ => ?_)
        refine ev_go 1 (pc' := 31) (L' := [some (.ref 26), some (.int x1289), some (.int x1290), some (.int x1291)]) (st' := [.int (-2)]) (h' := (HX w T)) (cs' := 0) (sl' := 0) rfl ?_
        obtain ⟨rfl, rfl⟩ := ai_smP h
        exact ev_end rfl
      · refine ev_if_ne (t := 32) rfl rfl (fun _ => ?_) (fun c9 => absurd c9 hc)
        refine ev_go 3 (pc' := 38) (L' := [some (.ref 26), some (.int x1289), some (.int x1290), some (.int x1291)]) (st' := [.int 6, .int (a_s2things_count w)]) (h' := (HX w T)) (cs' := 0) (sl' := 0) rfl ?_
        rcases ai_ifE h with ⟨hc, h⟩ | ⟨hc, h⟩
        · refine ev_ic_lt (t := 44) rfl rfl (fun _ => ?_) (fun c9 => absurd hc c9)
          refine ev_go 5 (pc' := 53) (L' := [some (.ref 26), some (.int x1289), some (.int x1290), some (.int x1291)]) (st' := [.int x1289, .int (a_s2things_count w), .ref 27]) (h' := (HX w T)) (cs' := 0) (sl' := 0) rfl ?_
          obtain ⟨q1295, hq, h⟩ := ai_bdE h
          refine ev_iast rfl rfl hq ?_
          rw [HXs_27]
          refine ev_go 5 (pc' := 63) (L' := [some (.ref 26), some (.int x1289), some (.int x1290), some (.int x1291)]) (st' := [.int x1290, .int (a_s2things_count w), .ref 28]) (h' := (HX (u_s2things_kinds w q1295) T)) (cs' := 0) (sl' := 0) rfl ?_
          obtain ⟨q1296, hq, h⟩ := ai_bdE h
          refine ev_iast rfl rfl hq ?_
          rw [HXs_28]
          refine ev_go 5 (pc' := 73) (L' := [some (.ref 26), some (.int x1289), some (.int x1290), some (.int x1291)]) (st' := [.int x1291, .int (a_s2things_count w), .ref 29]) (h' := (HX (u_s2things_weights (u_s2things_kinds w q1295) q1296) T)) (cs' := 0) (sl' := 0) rfl ?_
          obtain ⟨q1297, hq, h⟩ := ai_bdE h
          refine ev_iast rfl rfl hq ?_
          rw [HXs_29]
          refine ev_go 5 (pc' := 83) (L' := [some (.ref 26), some (.int x1289), some (.int x1290), some (.int x1291)]) (st' := [.int 0, .int (a_s2things_count w), .ref 30]) (h' := (HX (u_s2things_volumes (u_s2things_weights (u_s2things_kinds w q1295) q1296) q1297) T)) (cs' := 0) (sl' := 0) rfl ?_
          obtain ⟨q1298, hq, h⟩ := ai_bdE h
          refine ev_iast rfl rfl hq ?_
          rw [HXs_30]
          refine ev_go 6 (pc' := 92) (L' := [some (.ref 26), some (.int x1289), some (.int x1290), some (.int x1291)]) (st' := [.int ((a_s2things_count w) + 1), .ref 26, .int (a_s2things_count w)]) (h' := (HX (u_s2things_ballasts (u_s2things_volumes (u_s2things_weights (u_s2things_kinds w q1295) q1296) q1297) q1298) T)) (cs' := 0) (sl' := 0) rfl ?_
          refine ev_step rfl rfl rfl (PFX_5_9_26 rfl) ?_
          obtain ⟨rfl, rfl⟩ := ai_smP h
          exact ev_end rfl
        · refine ev_ic_lt (t := 44) rfl rfl (fun c9 => absurd c9 hc) (fun _ => ?_)
          refine ev_go 1 (pc' := 43) (L' := [some (.ref 26), some (.int x1289), some (.int x1290), some (.int x1291)]) (st' := [.int (-4)]) (h' := (HX w T)) (cs' := 0) (sl' := 0) rfl ?_
          obtain ⟨rfl, rfl⟩ := ai_smP h
          exact ev_end rfl
set_option maxHeartbeats 40000000 in
set_option maxRecDepth 100000 in
theorem Esea_hasPlace_20 (x1306 : Int32) (w : WX) (r : Int32) (w' : WX) (h : Fsea_hasPlace_20 x1306 w = some (r, w')) (T : ai_H) : ai_ev D1 msea_hasPlace 0 [some (.ref 20), some (.int x1306)] [] (HX w T) 0 0 (some (.int r), HX w' T) := by
  unfold Fsea_hasPlace_20 at h
  refine ev_go 1 (pc' := 1) (L' := [some (.ref 20), some (.int x1306)]) (st' := [.int x1306]) (h' := (HX w T)) (cs' := 0) (sl' := 0) rfl ?_
  rcases ai_ifE h with ⟨hc, h⟩ | ⟨hc, h⟩
  · refine ev_if_lt (t := 29) rfl rfl (fun _ => ?_) (fun c9 => absurd hc c9)
    refine ev_go 1 (pc' := 30) (L' := [some (.ref 20), some (.int x1306)]) (st' := [.int 0]) (h' := (HX w T)) (cs' := 0) (sl' := 0) rfl ?_
    obtain ⟨rfl, rfl⟩ := ai_smP h
    exact ev_end rfl
  · refine ev_if_lt (t := 29) rfl rfl (fun c9 => absurd c9 hc) (fun _ => ?_)
    refine ev_go 4 (pc' := 9) (L' := [some (.ref 20), some (.int x1306)]) (st' := [.int (x1306 / 10), .ref 20]) (h' := (HX w T)) (cs' := 0) (sl' := 0) rfl ?_
    obtain ⟨c1307, hq, h⟩ := ai_bdE h
    refine ev_call (M' := msea_hasCell) (L' := [some (.ref 20), some (.int (x1306 / 10))]) (rest := []) (rv := some (.int c1307.1)) (h' := (HX c1307.2 T)) rfl (Esea_hasCell_20 (x1306 / 10) w _ _ hq T) ?_
    show ai_ev D1 msea_hasPlace 12 [some (.ref 20), some (.int x1306)] [.int c1307.1] (HX c1307.2 T) 0 0 _
    rcases ai_ifE h with ⟨hc, h⟩ | ⟨hc, h⟩
    · refine ev_if_eq (t := 29) rfl rfl (fun _ => ?_) (fun c9 => absurd hc c9)
      refine ev_go 1 (pc' := 30) (L' := [some (.ref 20), some (.int x1306)]) (st' := [.int 0]) (h' := (HX c1307.2 T)) (cs' := 0) (sl' := 0) rfl ?_
      obtain ⟨rfl, rfl⟩ := ai_smP h
      exact ev_end rfl
    · refine ev_if_eq (t := 29) rfl rfl (fun c9 => absurd c9 hc) (fun _ => ?_)
      refine ev_go 3 (pc' := 19) (L' := [some (.ref 20), some (.int x1306)]) (st' := [.int (x1306 - x1306 / 10 * 10)]) (h' := (HX c1307.2 T)) (cs' := 0) (sl' := 0) rfl ?_
      obtain ⟨c1308, hq, h⟩ := ai_bdE h
      refine ev_call (M' := mf_isLayer) (L' := [some (.int (x1306 - x1306 / 10 * 10))]) (rest := []) (rv := some (.int c1308)) (h' := (HX c1307.2 T)) rfl (Ef_isLayer (x1306 - x1306 / 10 * 10) _ hq (HX c1307.2 T)) ?_
      show ai_ev D1 msea_hasPlace 22 [some (.ref 20), some (.int x1306)] [.int c1308] (HX c1307.2 T) 0 0 _
      rcases ai_ifE h with ⟨hc, h⟩ | ⟨hc, h⟩
      · refine ev_if_eq (t := 29) rfl rfl (fun _ => ?_) (fun c9 => absurd hc c9)
        refine ev_go 1 (pc' := 30) (L' := [some (.ref 20), some (.int x1306)]) (st' := [.int 0]) (h' := (HX c1307.2 T)) (cs' := 0) (sl' := 0) rfl ?_
        obtain ⟨rfl, rfl⟩ := ai_smP h
        exact ev_end rfl
      · refine ev_if_eq (t := 29) rfl rfl (fun c9 => absurd c9 hc) (fun _ => ?_)
        refine ev_go 2 (pc' := 30) (L' := [some (.ref 20), some (.int x1306)]) (st' := [.int 1]) (h' := (HX c1307.2 T)) (cs' := 0) (sl' := 0) rfl ?_
        obtain ⟨rfl, rfl⟩ := ai_smP h
        exact ev_end rfl
set_option maxHeartbeats 40000000 in
set_option maxRecDepth 100000 in
theorem Elift_add_31 (x1312 : Int32) (x1313 : Int32) (x1314 : Int32) (w : WX) (r : Int32) (w' : WX) (h : Flift_add_31 x1312 x1313 x1314 w = some (r, w')) (T : ai_H) : ai_ev D1 mlift_add 0 [some (.ref 31), some (.int x1312), some (.int x1313), some (.int x1314)] [] (HX w T) 0 0 (some (.int r), HX w' T) := by
  unfold Flift_add_31 at h
  refine ev_go 3 (pc' := 6) (L' := [some (.ref 31), some (.int x1312), some (.int x1313), some (.int x1314)]) (st' := [.int 10, .int (a_s2lifts_count w)]) (h' := (HX w T)) (cs' := 0) (sl' := 0) rfl ?_
  rcases ai_ifE h with ⟨hc, h⟩ | ⟨hc, h⟩
  · refine ev_ic_lt (t := 12) rfl rfl (fun _ => ?_) (fun c9 => absurd hc c9)
    refine ev_go 5 (pc' := 21) (L' := [some (.ref 31), some (.int x1312), some (.int x1313), some (.int x1314)]) (st' := [.int x1312, .int (a_s2lifts_count w), .ref 32]) (h' := (HX w T)) (cs' := 0) (sl' := 0) rfl ?_
    obtain ⟨q1315, hq, h⟩ := ai_bdE h
    refine ev_iast rfl rfl hq ?_
    rw [HXs_32]
    refine ev_go 5 (pc' := 31) (L' := [some (.ref 31), some (.int x1312), some (.int x1313), some (.int x1314)]) (st' := [.int x1313, .int (a_s2lifts_count w), .ref 33]) (h' := (HX (u_s2lifts_froms w q1315) T)) (cs' := 0) (sl' := 0) rfl ?_
    obtain ⟨q1316, hq, h⟩ := ai_bdE h
    refine ev_iast rfl rfl hq ?_
    rw [HXs_33]
    refine ev_go 5 (pc' := 41) (L' := [some (.ref 31), some (.int x1312), some (.int x1313), some (.int x1314)]) (st' := [.int x1314, .int (a_s2lifts_count w), .ref 34]) (h' := (HX (u_s2lifts_tos (u_s2lifts_froms w q1315) q1316) T)) (cs' := 0) (sl' := 0) rfl ?_
    obtain ⟨q1317, hq, h⟩ := ai_bdE h
    refine ev_iast rfl rfl hq ?_
    rw [HXs_34]
    refine ev_go 6 (pc' := 50) (L' := [some (.ref 31), some (.int x1312), some (.int x1313), some (.int x1314)]) (st' := [.int ((a_s2lifts_count w) + 1), .ref 31, .int (a_s2lifts_count w)]) (h' := (HX (u_s2lifts_times (u_s2lifts_tos (u_s2lifts_froms w q1315) q1316) q1317) T)) (cs' := 0) (sl' := 0) rfl ?_
    refine ev_step rfl rfl rfl (PFX_1_9_31 rfl) ?_
    obtain ⟨rfl, rfl⟩ := ai_smP h
    exact ev_end rfl
  · refine ev_ic_lt (t := 12) rfl rfl (fun c9 => absurd c9 hc) (fun _ => ?_)
    refine ev_go 1 (pc' := 11) (L' := [some (.ref 31), some (.int x1312), some (.int x1313), some (.int x1314)]) (st' := [.int (-4)]) (h' := (HX w T)) (cs' := 0) (sl' := 0) rfl ?_
    obtain ⟨rfl, rfl⟩ := ai_smP h
    exact ev_end rfl
set_option maxHeartbeats 40000000 in
set_option maxRecDepth 100000 in
theorem Esea_addLift_20 (x1303 : Int32) (x1304 : Int32) (x1305 : Int32) (w : WX) (r : Int32) (w' : WX) (h : Fsea_addLift_20 x1303 x1304 x1305 w = some (r, w')) (T : ai_H) : ai_ev D1 msea_addLift 0 [some (.ref 20), some (.int x1303), some (.int x1304), some (.int x1305)] [] (HX w T) 0 0 (some (.int r), HX w' T) := by
  unfold Fsea_addLift_20 at h
  refine ev_go 2 (pc' := 2) (L' := [some (.ref 20), some (.int x1303), some (.int x1304), some (.int x1305)]) (st' := [.int x1303, .ref 20]) (h' := (HX w T)) (cs' := 0) (sl' := 0) rfl ?_
  obtain ⟨c1309, hq, h⟩ := ai_bdE h
  refine ev_call (M' := msea_hasPlace) (L' := [some (.ref 20), some (.int x1303)]) (rest := []) (rv := some (.int c1309.1)) (h' := (HX c1309.2 T)) rfl (Esea_hasPlace_20 x1303 w _ _ hq T) ?_
  show ai_ev D1 msea_addLift 5 [some (.ref 20), some (.int x1303), some (.int x1304), some (.int x1305)] [.int c1309.1] (HX c1309.2 T) 0 0 _
  rcases ai_ifE h with ⟨hc, h⟩ | ⟨hc, h⟩
  · refine ev_if_eq (t := 31) rfl rfl (fun _ => ?_) (fun c9 => absurd hc c9)
    refine ev_go 1 (pc' := 33) (L' := [some (.ref 20), some (.int x1303), some (.int x1304), some (.int x1305)]) (st' := [.int (-2)]) (h' := (HX c1309.2 T)) (cs' := 0) (sl' := 0) rfl ?_
    obtain ⟨rfl, rfl⟩ := ai_smP h
    exact ev_end rfl
  · refine ev_if_eq (t := 31) rfl rfl (fun c9 => absurd c9 hc) (fun _ => ?_)
    refine ev_go 2 (pc' := 10) (L' := [some (.ref 20), some (.int x1303), some (.int x1304), some (.int x1305)]) (st' := [.int x1304, .ref 20]) (h' := (HX c1309.2 T)) (cs' := 0) (sl' := 0) rfl ?_
    obtain ⟨c1310, hq, h⟩ := ai_bdE h
    refine ev_call (M' := msea_hasPlace) (L' := [some (.ref 20), some (.int x1304)]) (rest := []) (rv := some (.int c1310.1)) (h' := (HX c1310.2 T)) rfl (Esea_hasPlace_20 x1304 c1309.2 _ _ hq T) ?_
    show ai_ev D1 msea_addLift 13 [some (.ref 20), some (.int x1303), some (.int x1304), some (.int x1305)] [.int c1310.1] (HX c1310.2 T) 0 0 _
    rcases ai_ifE h with ⟨hc, h⟩ | ⟨hc, h⟩
    · refine ev_if_eq (t := 31) rfl rfl (fun _ => ?_) (fun c9 => absurd hc c9)
      refine ev_go 1 (pc' := 33) (L' := [some (.ref 20), some (.int x1303), some (.int x1304), some (.int x1305)]) (st' := [.int (-2)]) (h' := (HX c1310.2 T)) (cs' := 0) (sl' := 0) rfl ?_
      obtain ⟨rfl, rfl⟩ := ai_smP h
      exact ev_end rfl
    · refine ev_if_eq (t := 31) rfl rfl (fun c9 => absurd c9 hc) (fun _ => ?_)
      refine ev_go 2 (pc' := 18) (L' := [some (.ref 20), some (.int x1303), some (.int x1304), some (.int x1305)]) (st' := [.int x1304, .int x1303]) (h' := (HX c1310.2 T)) (cs' := 0) (sl' := 0) rfl ?_
      rcases ai_ifE h with ⟨hc, h⟩ | ⟨hc, h⟩
      · refine ev_ic_eq (t := 31) rfl rfl (fun _ => ?_) (fun c9 => absurd hc c9)
        refine ev_go 1 (pc' := 33) (L' := [some (.ref 20), some (.int x1303), some (.int x1304), some (.int x1305)]) (st' := [.int (-2)]) (h' := (HX c1310.2 T)) (cs' := 0) (sl' := 0) rfl ?_
        obtain ⟨rfl, rfl⟩ := ai_smP h
        exact ev_end rfl
      · refine ev_ic_eq (t := 31) rfl rfl (fun c9 => absurd c9 hc) (fun _ => ?_)
        refine ev_go 3 (pc' := 25) (L' := [some (.ref 20), some (.int x1303), some (.int x1304), some (.int x1305)]) (st' := [.int 9, .int 1, .int x1305]) (h' := (HX c1310.2 T)) (cs' := 0) (sl' := 0) rfl ?_
        obtain ⟨c1311, hq, h⟩ := ai_bdE h
        refine ev_call (M' := mf_within) (L' := [some (.int x1305), some (.int 1), some (.int 9)]) (rest := []) (rv := some (.int c1311)) (h' := (HX c1310.2 T)) rfl (Ef_within x1305 1 9 _ hq (HX c1310.2 T)) ?_
        show ai_ev D1 msea_addLift 28 [some (.ref 20), some (.int x1303), some (.int x1304), some (.int x1305)] [.int c1311] (HX c1310.2 T) 0 0 _
        rcases ai_ifE h with ⟨hc, h⟩ | ⟨hc, h⟩
        · refine ev_if_ne (t := 34) rfl rfl (fun c9 => absurd hc c9) (fun _ => ?_)
          refine ev_go 1 (pc' := 33) (L' := [some (.ref 20), some (.int x1303), some (.int x1304), some (.int x1305)]) (st' := [.int (-2)]) (h' := (HX c1310.2 T)) (cs' := 0) (sl' := 0) rfl ?_
          obtain ⟨rfl, rfl⟩ := ai_smP h
          exact ev_end rfl
        · refine ev_if_ne (t := 34) rfl rfl (fun _ => ?_) (fun c9 => absurd c9 hc)
          refine ev_go 5 (pc' := 41) (L' := [some (.ref 20), some (.int x1303), some (.int x1304), some (.int x1305)]) (st' := [.int x1305, .int x1304, .int x1303, .ref 31]) (h' := (HX c1310.2 T)) (cs' := 0) (sl' := 0) rfl ?_
          obtain ⟨c1318, hq, h⟩ := ai_bdE h
          refine ev_call (M' := mlift_add) (L' := [some (.ref 31), some (.int x1303), some (.int x1304), some (.int x1305)]) (rest := []) (rv := some (.int c1318.1)) (h' := (HX c1318.2 T)) rfl (Elift_add_31 x1303 x1304 x1305 c1310.2 _ _ hq T) ?_
          show ai_ev D1 msea_addLift 44 [some (.ref 20), some (.int x1303), some (.int x1304), some (.int x1305)] [.int c1318.1] (HX c1318.2 T) 0 0 _
          obtain ⟨rfl, rfl⟩ := ai_smP h
          exact ev_end rfl
set_option maxHeartbeats 40000000 in
set_option maxRecDepth 100000 in
theorem EGsea_addTown_20 : ∀ n : Nat, (∀ (y1323 : Int32) (y1324 : Int32) (w : WX) (r : Int32) (w' : WX), Gsea_addTown_20 n 0 y1323 y1324 w = some (r, w') → ∀ (T : ai_H), ai_ev D1 msea_addTown 13 [some (.ref 20), some (.int y1323), some (.int y1324)] [] (HX w T) 0 0 (some (.int r), HX w' T)) := by
  intro n
  induction n with
  | zero =>
    exact (fun _ _ _ _ _ h => by cases h)
  | succ n ih0 =>
    intro y1323 y1324 w r w' h T
    simp only [Gsea_addTown_20] at h
    refine ev_go 3 (pc' := 18) (L' := [some (.ref 20), some (.int y1323), some (.int y1324)]) (st' := [.int (a_s2_towns w), .int y1324]) (h' := (HX w T)) (cs' := 0) (sl' := 0) rfl ?_
    rcases ai_ifE h with ⟨hc, h⟩ | ⟨hc, h⟩
    · refine ev_ic_ge (t := 40) rfl rfl (fun _ => ?_) (fun c9 => absurd hc c9)
      refine ev_go 3 (pc' := 46) (L' := [some (.ref 20), some (.int y1323), some (.int y1324)]) (st' := [.int 6, .int (a_s2_towns w)]) (h' := (HX w T)) (cs' := 0) (sl' := 0) rfl ?_
      rcases ai_ifE h with ⟨hc, h⟩ | ⟨hc, h⟩
      · refine ev_ic_lt (t := 52) rfl rfl (fun _ => ?_) (fun c9 => absurd hc c9)
        refine ev_go 5 (pc' := 61) (L' := [some (.ref 20), some (.int y1323), some (.int y1324)]) (st' := [.int y1323, .int (a_s2_towns w), .ref 35]) (h' := (HX w T)) (cs' := 0) (sl' := 0) rfl ?_
        obtain ⟨q1325, hq, h⟩ := ai_bdE h
        refine ev_iast rfl rfl hq ?_
        rw [HXs_35]
        refine ev_go 6 (pc' := 70) (L' := [some (.ref 20), some (.int y1323), some (.int y1324)]) (st' := [.int ((a_s2_towns w) + 1), .ref 20, .int (a_s2_towns w)]) (h' := (HX (u_s2_townPlaces w q1325) T)) (cs' := 0) (sl' := 0) rfl ?_
        refine ev_step rfl rfl rfl (PFX_2_51_20 rfl) ?_
        obtain ⟨rfl, rfl⟩ := ai_smP h
        exact ev_end rfl
      · refine ev_ic_lt (t := 52) rfl rfl (fun c9 => absurd c9 hc) (fun _ => ?_)
        refine ev_go 1 (pc' := 51) (L' := [some (.ref 20), some (.int y1323), some (.int y1324)]) (st' := [.int (-4)]) (h' := (HX w T)) (cs' := 0) (sl' := 0) rfl ?_
        obtain ⟨rfl, rfl⟩ := ai_smP h
        exact ev_end rfl
    · refine ev_ic_ge (t := 40) rfl rfl (fun c9 => absurd c9 hc) (fun _ => ?_)
      refine ev_go 3 (pc' := 26) (L' := [some (.ref 20), some (.int y1323), some (.int y1324)]) (st' := [.int y1324, .ref 35]) (h' := (HX w T)) (cs' := 0) (sl' := 0) rfl ?_
      obtain ⟨v1326, hq, h⟩ := ai_bdE h
      refine ev_iald rfl rfl hq ?_
      refine ev_go 1 (pc' := 28) (L' := [some (.ref 20), some (.int y1323), some (.int y1324)]) (st' := [.int y1323, .int v1326]) (h' := (HX w T)) (cs' := 0) (sl' := 0) rfl ?_
      rcases ai_ifE h with ⟨hc, h⟩ | ⟨hc, h⟩
      · refine ev_ic_ne (t := 34) rfl rfl (fun c9 => absurd hc c9) (fun _ => ?_)
        refine ev_go 1 (pc' := 33) (L' := [some (.ref 20), some (.int y1323), some (.int y1324)]) (st' := [.int (-3)]) (h' := (HX w T)) (cs' := 0) (sl' := 0) rfl ?_
        obtain ⟨rfl, rfl⟩ := ai_smP h
        exact ev_end rfl
      · refine ev_ic_ne (t := 34) rfl rfl (fun _ => ?_) (fun c9 => absurd c9 hc)
        refine ev_go 2 (pc' := 13) (L' := [some (.ref 20), some (.int y1323), some (.int (y1324 + 1))]) (st' := []) (h' := (HX w T)) (cs' := 0) (sl' := 0) rfl ?_
        exact ih0 _ _ _ _ _ h T
set_option maxHeartbeats 40000000 in
set_option maxRecDepth 100000 in
theorem Esea_addTown_20 (n : Nat) (x1321 : Int32) (w : WX) (r : Int32) (w' : WX) (h : Fsea_addTown_20 n x1321 w = some (r, w')) (T : ai_H) : ai_ev D1 msea_addTown 0 [some (.ref 20), some (.int x1321), none] [] (HX w T) 0 0 (some (.int r), HX w' T) := by
  unfold Fsea_addTown_20 at h
  have ih0 := EGsea_addTown_20 n
  refine ev_go 2 (pc' := 2) (L' := [some (.ref 20), some (.int x1321), none]) (st' := [.int x1321, .ref 20]) (h' := (HX w T)) (cs' := 0) (sl' := 0) rfl ?_
  obtain ⟨c1322, hq, h⟩ := ai_bdE h
  refine ev_call (M' := msea_hasPlace) (L' := [some (.ref 20), some (.int x1321)]) (rest := []) (rv := some (.int c1322.1)) (h' := (HX c1322.2 T)) rfl (Esea_hasPlace_20 x1321 w _ _ hq T) ?_
  show ai_ev D1 msea_addTown 5 [some (.ref 20), some (.int x1321), none] [.int c1322.1] (HX c1322.2 T) 0 0 _
  rcases ai_ifE h with ⟨hc, h⟩ | ⟨hc, h⟩
  · refine ev_if_ne (t := 11) rfl rfl (fun c9 => absurd hc c9) (fun _ => ?_)
    refine ev_go 1 (pc' := 10) (L' := [some (.ref 20), some (.int x1321), none]) (st' := [.int (-2)]) (h' := (HX c1322.2 T)) (cs' := 0) (sl' := 0) rfl ?_
    obtain ⟨rfl, rfl⟩ := ai_smP h
    exact ev_end rfl
  · refine ev_if_ne (t := 11) rfl rfl (fun _ => ?_) (fun c9 => absurd c9 hc)
    refine ev_go 2 (pc' := 13) (L' := [some (.ref 20), some (.int x1321), some (.int 0)]) (st' := []) (h' := (HX c1322.2 T)) (cs' := 0) (sl' := 0) rfl ?_
    exact ih0 _ _ _ _ _ h T
set_option maxHeartbeats 40000000 in
set_option maxRecDepth 100000 in
theorem Esea_putDam_20 (x1329 : Int32) (x1330 : Int32) (w : WX) (r : Int32) (w' : WX) (h : Fsea_putDam_20 x1329 x1330 w = some (r, w')) (T : ai_H) : ai_ev D1 msea_putDam 0 [some (.ref 20), some (.int x1329), some (.int x1330)] [] (HX w T) 0 0 (some (.int r), HX w' T) := by
  unfold Fsea_putDam_20 at h
  refine ev_go 6 (pc' := 8) (L' := [some (.ref 20), some (.int x1329), some (.int x1330)]) (st' := [.int ((a_s2_cells w) - 2), .int 0, .int x1329]) (h' := (HX w T)) (cs' := 0) (sl' := 0) rfl ?_
  obtain ⟨c1331, hq, h⟩ := ai_bdE h
  refine ev_call (M' := mf_within) (L' := [some (.int x1329), some (.int 0), some (.int ((a_s2_cells w) - 2))]) (rest := []) (rv := some (.int c1331)) (h' := (HX w T)) rfl (Ef_within x1329 0 ((a_s2_cells w) - 2) _ hq (HX w T)) ?_
  show ai_ev D1 msea_putDam 11 [some (.ref 20), some (.int x1329), some (.int x1330)] [.int c1331] (HX w T) 0 0 _
  rcases ai_ifE h with ⟨hc, h⟩ | ⟨hc, h⟩
  · refine ev_if_ne (t := 17) rfl rfl (fun c9 => absurd hc c9) (fun _ => ?_)
    refine ev_go 1 (pc' := 16) (L' := [some (.ref 20), some (.int x1329), some (.int x1330)]) (st' := [.int (-2)]) (h' := (HX w T)) (cs' := 0) (sl' := 0) rfl ?_
    obtain ⟨rfl, rfl⟩ := ai_smP h
    exact ev_end rfl
  · refine ev_if_ne (t := 17) rfl rfl (fun _ => ?_) (fun c9 => absurd c9 hc)
    refine ev_go 7 (pc' := 26) (L' := [some (.ref 20), some (.int x1329), some (.int x1330)]) (st' := [.int x1330, .int (((a_s2_dams w) >>> (x1329 &&& 31)) &&& 1)]) (h' := (HX w T)) (cs' := 0) (sl' := 0) rfl ?_
    rcases ai_ifE h with ⟨hc, h⟩ | ⟨hc, h⟩
    · refine ev_if_eq (t := 33) rfl rfl (fun _ => ?_) (fun c9 => absurd hc c9)
      refine ev_go 1 (pc' := 34) (L' := [some (.ref 20), some (.int x1329), some (.int x1330)]) (st' := [.int 0, .int (((a_s2_dams w) >>> (x1329 &&& 31)) &&& 1)]) (h' := (HX w T)) (cs' := 0) (sl' := 0) rfl ?_
      rcases ai_ifE h with ⟨hc, h⟩ | ⟨hc, h⟩
      · refine ev_ic_ne (t := 40) rfl rfl (fun c9 => absurd hc c9) (fun _ => ?_)
        refine ev_go 1 (pc' := 39) (L' := [some (.ref 20), some (.int x1329), some (.int x1330)]) (st' := [.int (-3)]) (h' := (HX w T)) (cs' := 0) (sl' := 0) rfl ?_
        obtain ⟨rfl, rfl⟩ := ai_smP h
        exact ev_end rfl
      · refine ev_ic_ne (t := 40) rfl rfl (fun _ => ?_) (fun c9 => absurd c9 hc)
        refine ev_go 7 (pc' := 49) (L' := [some (.ref 20), some (.int x1329), some (.int x1330)]) (st' := [.int ((a_s2_dams w) ^^^ (1 <<< (x1329 &&& 31))), .ref 20]) (h' := (HX w T)) (cs' := 0) (sl' := 0) rfl ?_
        refine ev_step rfl rfl rfl (PFX_2_18_20 rfl) ?_
        refine ev_go 1 (pc' := 53) (L' := [some (.ref 20), some (.int x1329), some (.int x1330)]) (st' := [.int 1]) (h' := (HX (u_s2_dams w ((a_s2_dams w) ^^^ (1 <<< (x1329 &&& 31)))) T)) (cs' := 0) (sl' := 0) rfl ?_
        obtain ⟨rfl, rfl⟩ := ai_smP h
        exact ev_end rfl
    · refine ev_if_eq (t := 33) rfl rfl (fun c9 => absurd c9 hc) (fun _ => ?_)
      refine ev_go 2 (pc' := 34) (L' := [some (.ref 20), some (.int x1329), some (.int x1330)]) (st' := [.int 1, .int (((a_s2_dams w) >>> (x1329 &&& 31)) &&& 1)]) (h' := (HX w T)) (cs' := 0) (sl' := 0) rfl ?_
      rcases ai_ifE h with ⟨hc, h⟩ | ⟨hc, h⟩
      · refine ev_ic_ne (t := 40) rfl rfl (fun c9 => absurd hc c9) (fun _ => ?_)
        refine ev_go 1 (pc' := 39) (L' := [some (.ref 20), some (.int x1329), some (.int x1330)]) (st' := [.int (-3)]) (h' := (HX w T)) (cs' := 0) (sl' := 0) rfl ?_
        obtain ⟨rfl, rfl⟩ := ai_smP h
        exact ev_end rfl
      · refine ev_ic_ne (t := 40) rfl rfl (fun _ => ?_) (fun c9 => absurd c9 hc)
        refine ev_go 7 (pc' := 49) (L' := [some (.ref 20), some (.int x1329), some (.int x1330)]) (st' := [.int ((a_s2_dams w) ^^^ (1 <<< (x1329 &&& 31))), .ref 20]) (h' := (HX w T)) (cs' := 0) (sl' := 0) rfl ?_
        refine ev_step rfl rfl rfl (PFX_2_18_20 rfl) ?_
        refine ev_go 1 (pc' := 53) (L' := [some (.ref 20), some (.int x1329), some (.int x1330)]) (st' := [.int 1]) (h' := (HX (u_s2_dams w ((a_s2_dams w) ^^^ (1 <<< (x1329 &&& 31)))) T)) (cs' := 0) (sl' := 0) rfl ?_
        obtain ⟨rfl, rfl⟩ := ai_smP h
        exact ev_end rfl
set_option maxHeartbeats 40000000 in
set_option maxRecDepth 100000 in
theorem Etxt_tellItem_78_20 (n : Nat) (x1214 : Int32) (w : WX) (r : Int32) (w' : WX) (h : Ftxt_tellItem_78_20 n x1214 w = some (r, w')) (T : ai_H) : ai_ev D1 mtxt_tellItem 0 [some (.ref 78), some (.ref 20), some (.int x1214)] [] (HX w T) 0 0 (some (.int r), HX w' T) := by
  unfold Ftxt_tellItem_78_20 at h
  refine ev_go 1 (pc' := 1) (L' := [some (.ref 78), some (.ref 20), some (.int x1214)]) (st' := [.int x1214]) (h' := (HX w T)) (cs' := 0) (sl' := 0) rfl ?_
  rcases ai_ifE h with ⟨hc, h⟩ | ⟨hs0, h⟩
  · refine ev_swi (k := 0) (t := 44) rfl hc (by decide) (by decide) rfl rfl ?_
    refine ev_go 4 (pc' := 50) (L' := [some (.ref 78), some (.ref 20), some (.int x1214)]) (st' := [.int 0, .ref 80, .ref 20]) (h' := (HX w T)) (cs' := 0) (sl' := 0) rfl ?_
    obtain ⟨v1215, hq, h⟩ := ai_bdE h
    refine ev_iald rfl rfl hq ?_
    obtain ⟨c1243, hq, h⟩ := ai_bdE h
    refine ev_call (M' := msea_startAnew) (L' := [some (.ref 20), some (.int v1215), none]) (rest := []) (rv := some (.int c1243.1)) (h' := (HX c1243.2 T)) rfl (Esea_startAnew_20 n v1215 w _ _ hq T) ?_
    show ai_ev D1 mtxt_tellItem 54 [some (.ref 78), some (.ref 20), some (.int x1214)] [.int c1243.1] (HX c1243.2 T) 0 0 _
    obtain ⟨rfl, rfl⟩ := ai_smP h
    exact ev_end rfl
  rcases ai_ifE h with ⟨hc, h⟩ | ⟨hs1, h⟩
  · refine ev_swi (k := 1) (t := 55) rfl hc (by decide) (by decide) rfl rfl ?_
    refine ev_go 4 (pc' := 61) (L' := [some (.ref 78), some (.ref 20), some (.int x1214)]) (st' := [.int 0, .ref 80, .ref 20]) (h' := (HX w T)) (cs' := 0) (sl' := 0) rfl ?_
    obtain ⟨v1244, hq, h⟩ := ai_bdE h
    refine ev_iald rfl rfl hq ?_
    refine ev_go 3 (pc' := 67) (L' := [some (.ref 78), some (.ref 20), some (.int x1214)]) (st' := [.int 1, .ref 80, .int v1244, .ref 20]) (h' := (HX w T)) (cs' := 0) (sl' := 0) rfl ?_
    obtain ⟨v1245, hq, h⟩ := ai_bdE h
    refine ev_iald rfl rfl hq ?_
    obtain ⟨c1262, hq, h⟩ := ai_bdE h
    refine ev_call (M' := msea_putDensity) (L' := [some (.ref 20), some (.int v1244), some (.int v1245), none, none, none]) (rest := []) (rv := some (.int c1262.1)) (h' := (HX c1262.2 T)) rfl (Esea_putDensity_20 v1244 v1245 w _ _ hq T) ?_
    show ai_ev D1 mtxt_tellItem 71 [some (.ref 78), some (.ref 20), some (.int x1214)] [.int c1262.1] (HX c1262.2 T) 0 0 _
    obtain ⟨rfl, rfl⟩ := ai_smP h
    exact ev_end rfl
  rcases ai_ifE h with ⟨hc, h⟩ | ⟨hs2, h⟩
  · refine ev_swi (k := 2) (t := 72) rfl hc (by decide) (by decide) rfl rfl ?_
    refine ev_go 4 (pc' := 78) (L' := [some (.ref 78), some (.ref 20), some (.int x1214)]) (st' := [.int 0, .ref 80, .ref 20]) (h' := (HX w T)) (cs' := 0) (sl' := 0) rfl ?_
    obtain ⟨v1263, hq, h⟩ := ai_bdE h
    refine ev_iald rfl rfl hq ?_
    refine ev_go 3 (pc' := 84) (L' := [some (.ref 78), some (.ref 20), some (.int x1214)]) (st' := [.int 1, .ref 80, .int v1263, .ref 20]) (h' := (HX w T)) (cs' := 0) (sl' := 0) rfl ?_
    obtain ⟨v1264, hq, h⟩ := ai_bdE h
    refine ev_iald rfl rfl hq ?_
    refine ev_go 3 (pc' := 90) (L' := [some (.ref 78), some (.ref 20), some (.int x1214)]) (st' := [.int 2, .ref 80, .int v1264, .int v1263, .ref 20]) (h' := (HX w T)) (cs' := 0) (sl' := 0) rfl ?_
    obtain ⟨v1265, hq, h⟩ := ai_bdE h
    refine ev_iald rfl rfl hq ?_
    obtain ⟨c1276, hq, h⟩ := ai_bdE h
    refine ev_call (M' := msea_putThick) (L' := [some (.ref 20), some (.int v1263), some (.int v1264), some (.int v1265), none, none]) (rest := []) (rv := some (.int c1276.1)) (h' := (HX c1276.2 T)) rfl (Esea_putThick_20 v1263 v1264 v1265 w _ _ hq T) ?_
    show ai_ev D1 mtxt_tellItem 94 [some (.ref 78), some (.ref 20), some (.int x1214)] [.int c1276.1] (HX c1276.2 T) 0 0 _
    obtain ⟨rfl, rfl⟩ := ai_smP h
    exact ev_end rfl
  rcases ai_ifE h with ⟨hc, h⟩ | ⟨hs3, h⟩
  · refine ev_swi (k := 3) (t := 95) rfl hc (by decide) (by decide) rfl rfl ?_
    refine ev_go 4 (pc' := 101) (L' := [some (.ref 78), some (.ref 20), some (.int x1214)]) (st' := [.int 0, .ref 80, .ref 20]) (h' := (HX w T)) (cs' := 0) (sl' := 0) rfl ?_
    obtain ⟨v1277, hq, h⟩ := ai_bdE h
    refine ev_iald rfl rfl hq ?_
    refine ev_go 3 (pc' := 107) (L' := [some (.ref 78), some (.ref 20), some (.int x1214)]) (st' := [.int 1, .ref 80, .int v1277, .ref 20]) (h' := (HX w T)) (cs' := 0) (sl' := 0) rfl ?_
    obtain ⟨v1278, hq, h⟩ := ai_bdE h
    refine ev_iald rfl rfl hq ?_
    obtain ⟨c1285, hq, h⟩ := ai_bdE h
    refine ev_call (M' := msea_putSkin) (L' := [some (.ref 20), some (.int v1277), some (.int v1278), none]) (rest := []) (rv := some (.int c1285.1)) (h' := (HX c1285.2 T)) rfl (Esea_putSkin_20 v1277 v1278 w _ _ hq T) ?_
    show ai_ev D1 mtxt_tellItem 111 [some (.ref 78), some (.ref 20), some (.int x1214)] [.int c1285.1] (HX c1285.2 T) 0 0 _
    obtain ⟨rfl, rfl⟩ := ai_smP h
    exact ev_end rfl
  rcases ai_ifE h with ⟨hc, h⟩ | ⟨hs4, h⟩
  · refine ev_swi (k := 4) (t := 112) rfl hc (by decide) (by decide) rfl rfl ?_
    refine ev_go 5 (pc' := 121) (L' := [some (.ref 78), some (.ref 20), some (.int x1214)]) (st' := [.int 0, .ref 80, .ref 26]) (h' := (HX w T)) (cs' := 0) (sl' := 0) rfl ?_
    obtain ⟨v1286, hq, h⟩ := ai_bdE h
    refine ev_iald rfl rfl hq ?_
    refine ev_go 3 (pc' := 127) (L' := [some (.ref 78), some (.ref 20), some (.int x1214)]) (st' := [.int 1, .ref 80, .int v1286, .ref 26]) (h' := (HX w T)) (cs' := 0) (sl' := 0) rfl ?_
    obtain ⟨v1287, hq, h⟩ := ai_bdE h
    refine ev_iald rfl rfl hq ?_
    refine ev_go 3 (pc' := 133) (L' := [some (.ref 78), some (.ref 20), some (.int x1214)]) (st' := [.int 2, .ref 80, .int v1287, .int v1286, .ref 26]) (h' := (HX w T)) (cs' := 0) (sl' := 0) rfl ?_
    obtain ⟨v1288, hq, h⟩ := ai_bdE h
    refine ev_iald rfl rfl hq ?_
    obtain ⟨c1299, hq, h⟩ := ai_bdE h
    refine ev_call (M' := mthg_add) (L' := [some (.ref 26), some (.int v1286), some (.int v1287), some (.int v1288)]) (rest := []) (rv := some (.int c1299.1)) (h' := (HX c1299.2 T)) rfl (Ethg_add_26 v1286 v1287 v1288 w _ _ hq T) ?_
    show ai_ev D1 mtxt_tellItem 137 [some (.ref 78), some (.ref 20), some (.int x1214)] [.int c1299.1] (HX c1299.2 T) 0 0 _
    obtain ⟨rfl, rfl⟩ := ai_smP h
    exact ev_end rfl
  rcases ai_ifE h with ⟨hc, h⟩ | ⟨hs5, h⟩
  · refine ev_swi (k := 5) (t := 138) rfl hc (by decide) (by decide) rfl rfl ?_
    refine ev_go 4 (pc' := 144) (L' := [some (.ref 78), some (.ref 20), some (.int x1214)]) (st' := [.int 0, .ref 80, .ref 20]) (h' := (HX w T)) (cs' := 0) (sl' := 0) rfl ?_
    obtain ⟨v1300, hq, h⟩ := ai_bdE h
    refine ev_iald rfl rfl hq ?_
    refine ev_go 3 (pc' := 150) (L' := [some (.ref 78), some (.ref 20), some (.int x1214)]) (st' := [.int 1, .ref 80, .int v1300, .ref 20]) (h' := (HX w T)) (cs' := 0) (sl' := 0) rfl ?_
    obtain ⟨v1301, hq, h⟩ := ai_bdE h
    refine ev_iald rfl rfl hq ?_
    refine ev_go 3 (pc' := 156) (L' := [some (.ref 78), some (.ref 20), some (.int x1214)]) (st' := [.int 2, .ref 80, .int v1301, .int v1300, .ref 20]) (h' := (HX w T)) (cs' := 0) (sl' := 0) rfl ?_
    obtain ⟨v1302, hq, h⟩ := ai_bdE h
    refine ev_iald rfl rfl hq ?_
    obtain ⟨c1319, hq, h⟩ := ai_bdE h
    refine ev_call (M' := msea_addLift) (L' := [some (.ref 20), some (.int v1300), some (.int v1301), some (.int v1302)]) (rest := []) (rv := some (.int c1319.1)) (h' := (HX c1319.2 T)) rfl (Esea_addLift_20 v1300 v1301 v1302 w _ _ hq T) ?_
    show ai_ev D1 mtxt_tellItem 160 [some (.ref 78), some (.ref 20), some (.int x1214)] [.int c1319.1] (HX c1319.2 T) 0 0 _
    obtain ⟨rfl, rfl⟩ := ai_smP h
    exact ev_end rfl
  rcases ai_ifE h with ⟨hc, h⟩ | ⟨hs6, h⟩
  · refine ev_swi (k := 6) (t := 161) rfl hc (by decide) (by decide) rfl rfl ?_
    refine ev_go 4 (pc' := 167) (L' := [some (.ref 78), some (.ref 20), some (.int x1214)]) (st' := [.int 0, .ref 80, .ref 20]) (h' := (HX w T)) (cs' := 0) (sl' := 0) rfl ?_
    obtain ⟨v1320, hq, h⟩ := ai_bdE h
    refine ev_iald rfl rfl hq ?_
    obtain ⟨c1327, hq, h⟩ := ai_bdE h
    refine ev_call (M' := msea_addTown) (L' := [some (.ref 20), some (.int v1320), none]) (rest := []) (rv := some (.int c1327.1)) (h' := (HX c1327.2 T)) rfl (Esea_addTown_20 n v1320 w _ _ hq T) ?_
    show ai_ev D1 mtxt_tellItem 171 [some (.ref 78), some (.ref 20), some (.int x1214)] [.int c1327.1] (HX c1327.2 T) 0 0 _
    obtain ⟨rfl, rfl⟩ := ai_smP h
    exact ev_end rfl
  refine ev_swo (t := 172) (lo := 0) (n := 7) rfl (sw_out 0 7 (fun k hk => by match k, hk with | 0, _ => exact hs0 | 1, _ => exact hs1 | 2, _ => exact hs2 | 3, _ => exact hs3 | 4, _ => exact hs4 | 5, _ => exact hs5 | 6, _ => exact hs6 | k + 7, hk => exact absurd hk (by omega))) ⟨rfl, by decide⟩ rfl ?_
  refine ev_go 4 (pc' := 178) (L' := [some (.ref 78), some (.ref 20), some (.int x1214)]) (st' := [.int 0, .ref 80, .ref 20]) (h' := (HX w T)) (cs' := 0) (sl' := 0) rfl ?_
  obtain ⟨v1328, hq, h⟩ := ai_bdE h
  refine ev_iald rfl rfl hq ?_
  refine ev_go 1 (pc' := 180) (L' := [some (.ref 78), some (.ref 20), some (.int x1214)]) (st' := [.int 1, .int v1328, .ref 20]) (h' := (HX w T)) (cs' := 0) (sl' := 0) rfl ?_
  obtain ⟨c1332, hq, h⟩ := ai_bdE h
  refine ev_call (M' := msea_putDam) (L' := [some (.ref 20), some (.int v1328), some (.int 1)]) (rest := []) (rv := some (.int c1332.1)) (h' := (HX c1332.2 T)) rfl (Esea_putDam_20 v1328 1 w _ _ hq T) ?_
  show ai_ev D1 mtxt_tellItem 183 [some (.ref 78), some (.ref 20), some (.int x1214)] [.int c1332.1] (HX c1332.2 T) 0 0 _
  obtain ⟨rfl, rfl⟩ := ai_smP h
  exact ev_end rfl
set_option maxHeartbeats 40000000 in
set_option maxRecDepth 100000 in
theorem EGtxt_tell_78_20 : ∀ n : Nat, (∀ (y1173 : Int32) (w : WX) (r : Int32) (w' : WX), Gtxt_tell_78_20 n 0 y1173 w = some (r, w') → ∀ (T : ai_H) (o3 o4 o5 : Option Value), ai_ev D1 mtxt_tell 37 [some (.ref 78), some (.ref 20), some (.int y1173), o3, o4, o5] [] (HX w T) 0 0 (some (.int r), HX w' T)) := by
  intro n
  induction n with
  | zero =>
    exact (fun _ _ _ _ h => by cases h)
  | succ n ih0 =>
    intro y1173 w r w' h T o3 o4 o5
    simp only [Gtxt_tell_78_20] at h
    refine ev_go 2 (pc' := 41) (L' := [some (.ref 78), some (.ref 20), some (.int y1173), o3, o4, o5]) (st' := [.int 150, .int y1173]) (h' := (HX w T)) (cs' := 0) (sl' := 0) rfl ?_
    rcases ai_ifE h with ⟨hc, h⟩ | ⟨hc, h⟩
    · refine ev_ic_ge (t := 205) rfl rfl (fun _ => ?_) (fun c9 => absurd hc c9)
      refine ev_go 1 (pc' := 206) (L' := [some (.ref 78), some (.ref 20), some (.int y1173), o3, o4, o5]) (st' := [.int (-1)]) (h' := (HX w T)) (cs' := 0) (sl' := 0) rfl ?_
      obtain ⟨rfl, rfl⟩ := ai_smP h
      exact ev_end rfl
    · refine ev_ic_ge (t := 205) rfl rfl (fun c9 => absurd c9 hc) (fun _ => ?_)
      refine ev_go 4 (pc' := 52) (L' := [some (.ref 78), some (.ref 20), some (.int y1173), o3, o4, o5]) (st' := [.int (a_text_length w), .int (a_text_at w)]) (h' := (HX w T)) (cs' := 0) (sl' := 0) rfl ?_
      rcases ai_ifE h with ⟨hc, h⟩ | ⟨hc, h⟩
      · refine ev_ic_ge (t := 205) rfl rfl (fun _ => ?_) (fun c9 => absurd hc c9)
        refine ev_go 1 (pc' := 206) (L' := [some (.ref 78), some (.ref 20), some (.int y1173), o3, o4, o5]) (st' := [.int (-1)]) (h' := (HX w T)) (cs' := 0) (sl' := 0) rfl ?_
        obtain ⟨rfl, rfl⟩ := ai_smP h
        exact ev_end rfl
      · refine ev_ic_ge (t := 205) rfl rfl (fun c9 => absurd c9 hc) (fun _ => ?_)
        refine ev_go 4 (pc' := 61) (L' := [some (.ref 78), some (.ref 20), some (.int y1173), some (.int (a_text_at w)), o4, o5]) (st' := [.ref 78]) (h' := (HX w T)) (cs' := 0) (sl' := 0) rfl ?_
        obtain ⟨c1191, hq, h⟩ := ai_bdE h
        refine ev_call (M' := mtxt_takeWord) (L' := [some (.ref 78), none, none]) (rest := []) (rv := some (.int c1191.1)) (h' := (HX c1191.2 T)) rfl (Etxt_takeWord_78 n w _ _ hq T) ?_
        show ai_ev D1 mtxt_tell 64 [some (.ref 78), some (.ref 20), some (.int y1173), some (.int (a_text_at w)), o4, o5] [.int c1191.1] (HX c1191.2 T) 0 0 _
        refine ev_go 3 (pc' := 69) (L' := [some (.ref 78), some (.ref 20), some (.int y1173), some (.int (a_text_at w)), some (.int c1191.1), o5]) (st' := [.int (-1), .int c1191.1]) (h' := (HX c1191.2 T)) (cs' := 0) (sl' := 0) rfl ?_
        rcases ai_ifE h with ⟨hc, h⟩ | ⟨hc, h⟩
        · refine ev_ic_eq (t := 97) rfl rfl (fun _ => ?_) (fun c9 => absurd hc c9)
          refine ev_go 1 (pc' := 98) (L' := [some (.ref 78), some (.ref 20), some (.int y1173), some (.int (a_text_at w)), some (.int c1191.1), o5]) (st' := [.int (a_text_at w)]) (h' := (HX c1191.2 T)) (cs' := 0) (sl' := 0) rfl ?_
          obtain ⟨rfl, rfl⟩ := ai_smP h
          exact ev_end rfl
        · refine ev_ic_eq (t := 97) rfl rfl (fun c9 => absurd c9 hc) (fun _ => ?_)
          refine ev_go 1 (pc' := 74) (L' := [some (.ref 78), some (.ref 20), some (.int y1173), some (.int (a_text_at w)), some (.int c1191.1), o5]) (st' := [.int c1191.1]) (h' := (HX c1191.2 T)) (cs' := 0) (sl' := 0) rfl ?_
          rcases ai_ifE h with ⟨hc, h⟩ | ⟨hc, h⟩
          · refine ev_if_ne (t := 81) rfl rfl (fun c9 => absurd hc c9) (fun _ => ?_)
            refine ev_go 4 (pc' := 86) (L' := [some (.ref 78), some (.ref 20), some (.int y1173), some (.int (a_text_at w)), some (.int c1191.1), o5]) (st' := [.int (a_text_items c1191.2), .int 1]) (h' := (HX c1191.2 T)) (cs' := 0) (sl' := 0) rfl ?_
            rcases ai_ifE h with ⟨hc, h⟩ | ⟨hc, h⟩
            · refine ev_if_ne (t := 93) rfl rfl (fun c9 => absurd hc c9) (fun _ => ?_)
              refine ev_go 5 (pc' := 102) (L' := [some (.ref 78), some (.ref 20), some (.int y1173), some (.int (a_text_at w)), some (.int c1191.1), o5]) (st' := [.int c1191.1, .ref 78]) (h' := (HX c1191.2 T)) (cs' := 0) (sl' := 0) rfl ?_
              obtain ⟨c1336, hq, h⟩ := ai_bdE h
              refine ev_call (M' := mtxt_numbersBehind) (L' := [some (.int c1191.1)]) (rest := [.ref 78]) (rv := some (.int c1336)) (h' := (HX c1191.2 T)) rfl (Etxt_numbersBehind c1191.1 _ hq (HX c1191.2 T)) ?_
              show ai_ev D1 mtxt_tell 105 [some (.ref 78), some (.ref 20), some (.int y1173), some (.int (a_text_at w)), some (.int c1191.1), o5] [.int c1336, .ref 78] (HX c1191.2 T) 0 0 _
              obtain ⟨c1337, hq, h⟩ := ai_bdE h
              refine ev_call (M' := mtxt_takeNumbers) (L' := [some (.ref 78), some (.int c1336), none]) (rest := []) (rv := some (.int c1337.1)) (h' := (HX c1337.2 T)) rfl (Etxt_takeNumbers_78 n c1336 c1191.2 _ _ hq T) ?_
              show ai_ev D1 mtxt_tell 108 [some (.ref 78), some (.ref 20), some (.int y1173), some (.int (a_text_at w)), some (.int c1191.1), o5] [.int c1337.1] (HX c1337.2 T) 0 0 _
              refine ev_go 3 (pc' := 113) (L' := [some (.ref 78), some (.ref 20), some (.int y1173), some (.int (a_text_at w)), some (.int c1191.1), some (.int c1337.1)]) (st' := [.int (-1), .int c1337.1]) (h' := (HX c1337.2 T)) (cs' := 0) (sl' := 0) rfl ?_
              rcases ai_ifE h with ⟨hc, h⟩ | ⟨hc, h⟩
              · refine ev_ic_eq (t := 119) rfl rfl (fun _ => ?_) (fun c9 => absurd hc c9)
                refine ev_go 4 (pc' := 127) (L' := [some (.ref 78), some (.ref 20), some (.int y1173), some (.int (a_text_at w)), some (.int c1191.1), some (.int c1337.1)]) (st' := [.int (a_text_length c1337.2), .int (a_text_at c1337.2)]) (h' := (HX c1337.2 T)) (cs' := 0) (sl' := 0) rfl ?_
                rcases ai_ifE h with ⟨hc, h⟩ | ⟨hc, h⟩
                · refine ev_ic_ge (t := 144) rfl rfl (fun _ => ?_) (fun c9 => absurd hc c9)
                  refine ev_go 2 (pc' := 148) (L' := [some (.ref 78), some (.ref 20), some (.int y1173), some (.int (a_text_at w)), some (.int c1191.1), some (.int c1337.1)]) (st' := [.int (a_text_at c1337.2)]) (h' := (HX c1337.2 T)) (cs' := 0) (sl' := 0) rfl ?_
                  obtain ⟨rfl, rfl⟩ := ai_smP h
                  exact ev_end rfl
                · refine ev_ic_ge (t := 144) rfl rfl (fun c9 => absurd c9 hc) (fun _ => ?_)
                  refine ev_go 4 (pc' := 138) (L' := [some (.ref 78), some (.ref 20), some (.int y1173), some (.int (a_text_at w)), some (.int c1191.1), some (.int c1337.1)]) (st' := [.int (a_text_at c1337.2), .ref 79]) (h' := (HX c1337.2 T)) (cs' := 0) (sl' := 0) rfl ?_
                  obtain ⟨v1338, hq, h⟩ := ai_bdE h
                  refine ev_iald rfl rfl hq ?_
                  refine ev_go 1 (pc' := 141) (L' := [some (.ref 78), some (.ref 20), some (.int y1173), some (.int (a_text_at w)), some (.int c1191.1), some (.int c1337.1)]) (st' := [.int 59, .int v1338]) (h' := (HX c1337.2 T)) (cs' := 0) (sl' := 0) rfl ?_
                  rcases ai_ifE h with ⟨hc, h⟩ | ⟨hc, h⟩
                  · refine ev_ic_eq (t := 149) rfl rfl (fun _ => ?_) (fun c9 => absurd hc c9)
                    refine ev_go 5 (pc' := 156) (L' := [some (.ref 78), some (.ref 20), some (.int y1173), some (.int (a_text_at w)), some (.int c1191.1), some (.int c1337.1)]) (st' := [.int ((a_text_at c1337.2) + 1), .ref 78]) (h' := (HX c1337.2 T)) (cs' := 0) (sl' := 0) rfl ?_
                    refine ev_step rfl rfl rfl (PFX_4_28_78 rfl) ?_
                    refine ev_go 3 (pc' := 164) (L' := [some (.ref 78), some (.ref 20), some (.int y1173), some (.int (a_text_at w)), some (.int c1191.1), some (.int c1337.1)]) (st' := [.int (-1), .int (a_text_refusedItem c1337.2)]) (h' := (HX (u_text_at c1337.2 ((a_text_at c1337.2) + 1)) T)) (cs' := 0) (sl' := 0) rfl ?_
                    rcases ai_ifE h with ⟨hc, h⟩ | ⟨hc, h⟩
                    · refine ev_ic_ne (t := 185) rfl rfl (fun c9 => absurd hc c9) (fun _ => ?_)
                      refine ev_go 3 (pc' := 171) (L' := [some (.ref 78), some (.ref 20), some (.int y1173), some (.int (a_text_at w)), some (.int c1191.1), some (.int c1337.1)]) (st' := [.int c1191.1, .ref 20, .ref 78]) (h' := (HX (u_text_at c1337.2 ((a_text_at c1337.2) + 1)) T)) (cs' := 0) (sl' := 0) rfl ?_
                      obtain ⟨c1340, hq, h⟩ := ai_bdE h
                      refine ev_call (M' := mtxt_tellItem) (L' := [some (.ref 78), some (.ref 20), some (.int c1191.1)]) (rest := []) (rv := some (.int c1340.1)) (h' := (HX c1340.2 T)) rfl (Etxt_tellItem_78_20 n c1191.1 (u_text_at c1337.2 ((a_text_at c1337.2) + 1)) _ _ hq T) ?_
                      show ai_ev D1 mtxt_tell 174 [some (.ref 78), some (.ref 20), some (.int y1173), some (.int (a_text_at w)), some (.int c1191.1), some (.int c1337.1)] [.int c1340.1] (HX c1340.2 T) 0 0 _
                      rcases ai_ifE h with ⟨hc, h⟩ | ⟨hc, h⟩
                      · refine ev_if_ge (t := 185) rfl rfl (fun _ => ?_) (fun c9 => absurd hc c9)
                        refine ev_go 5 (pc' := 192) (L' := [some (.ref 78), some (.ref 20), some (.int y1173), some (.int (a_text_at w)), some (.int c1191.1), some (.int c1337.1)]) (st' := [.int ((a_text_items c1340.2) + 1), .ref 78]) (h' := (HX c1340.2 T)) (cs' := 0) (sl' := 0) rfl ?_
                        refine ev_step rfl rfl rfl (PFX_4_15_78 rfl) ?_
                        refine ev_go 1 (pc' := 196) (L' := [some (.ref 78), some (.ref 20), some (.int y1173), some (.int (a_text_at w)), some (.int c1191.1), some (.int c1337.1)]) (st' := [.ref 78]) (h' := (HX (u_text_items c1340.2 ((a_text_items c1340.2) + 1)) T)) (cs' := 0) (sl' := 0) rfl ?_
                        obtain ⟨c1341, hq, h⟩ := ai_bdE h
                        refine ev_call (M' := mtxt_skipBlanks) (L' := [some (.ref 78)]) (rest := []) (rv := none) (h' := (HX c1341 T)) rfl (Etxt_skipBlanks_78 n (u_text_items c1340.2 ((a_text_items c1340.2) + 1)) _ hq T) ?_
                        show ai_ev D1 mtxt_tell 199 [some (.ref 78), some (.ref 20), some (.int y1173), some (.int (a_text_at w)), some (.int c1191.1), some (.int c1337.1)] [] (HX c1341 T) 0 0 _
                        refine ev_go 2 (pc' := 37) (L' := [some (.ref 78), some (.ref 20), some (.int (y1173 + 1)), some (.int (a_text_at w)), some (.int c1191.1), some (.int c1337.1)]) (st' := []) (h' := (HX c1341 T)) (cs' := 0) (sl' := 0) rfl ?_
                        exact ih0 _ _ _ _ h T _ _ _
                      · refine ev_if_ge (t := 185) rfl rfl (fun c9 => absurd c9 hc) (fun _ => ?_)
                        refine ev_go 3 (pc' := 182) (L' := [some (.ref 78), some (.ref 20), some (.int y1173), some (.int (a_text_at w)), some (.int c1191.1), some (.int c1337.1)]) (st' := [.int (a_text_items c1340.2), .ref 78]) (h' := (HX c1340.2 T)) (cs' := 0) (sl' := 0) rfl ?_
                        refine ev_step rfl rfl rfl (PFX_4_18_78 rfl) ?_
                        refine ev_go 5 (pc' := 192) (L' := [some (.ref 78), some (.ref 20), some (.int y1173), some (.int (a_text_at w)), some (.int c1191.1), some (.int c1337.1)]) (st' := [.int ((a_text_items c1340.2) + 1), .ref 78]) (h' := (HX (u_text_refusedItem c1340.2 (a_text_items c1340.2)) T)) (cs' := 0) (sl' := 0) rfl ?_
                        refine ev_step rfl rfl rfl (PFX_4_15_78 rfl) ?_
                        refine ev_go 1 (pc' := 196) (L' := [some (.ref 78), some (.ref 20), some (.int y1173), some (.int (a_text_at w)), some (.int c1191.1), some (.int c1337.1)]) (st' := [.ref 78]) (h' := (HX (u_text_items (u_text_refusedItem c1340.2 (a_text_items c1340.2)) ((a_text_items c1340.2) + 1)) T)) (cs' := 0) (sl' := 0) rfl ?_
                        obtain ⟨c1342, hq, h⟩ := ai_bdE h
                        refine ev_call (M' := mtxt_skipBlanks) (L' := [some (.ref 78)]) (rest := []) (rv := none) (h' := (HX c1342 T)) rfl (Etxt_skipBlanks_78 n (u_text_items (u_text_refusedItem c1340.2 (a_text_items c1340.2)) ((a_text_items c1340.2) + 1)) _ hq T) ?_
                        show ai_ev D1 mtxt_tell 199 [some (.ref 78), some (.ref 20), some (.int y1173), some (.int (a_text_at w)), some (.int c1191.1), some (.int c1337.1)] [] (HX c1342 T) 0 0 _
                        refine ev_go 2 (pc' := 37) (L' := [some (.ref 78), some (.ref 20), some (.int (y1173 + 1)), some (.int (a_text_at w)), some (.int c1191.1), some (.int c1337.1)]) (st' := []) (h' := (HX c1342 T)) (cs' := 0) (sl' := 0) rfl ?_
                        exact ih0 _ _ _ _ h T _ _ _
                    · refine ev_ic_ne (t := 185) rfl rfl (fun _ => ?_) (fun c9 => absurd c9 hc)
                      refine ev_go 5 (pc' := 192) (L' := [some (.ref 78), some (.ref 20), some (.int y1173), some (.int (a_text_at w)), some (.int c1191.1), some (.int c1337.1)]) (st' := [.int ((a_text_items c1337.2) + 1), .ref 78]) (h' := (HX (u_text_at c1337.2 ((a_text_at c1337.2) + 1)) T)) (cs' := 0) (sl' := 0) rfl ?_
                      refine ev_step rfl rfl rfl (PFX_4_15_78 rfl) ?_
                      refine ev_go 1 (pc' := 196) (L' := [some (.ref 78), some (.ref 20), some (.int y1173), some (.int (a_text_at w)), some (.int c1191.1), some (.int c1337.1)]) (st' := [.ref 78]) (h' := (HX (u_text_items (u_text_at c1337.2 ((a_text_at c1337.2) + 1)) ((a_text_items c1337.2) + 1)) T)) (cs' := 0) (sl' := 0) rfl ?_
                      obtain ⟨c1339, hq, h⟩ := ai_bdE h
                      refine ev_call (M' := mtxt_skipBlanks) (L' := [some (.ref 78)]) (rest := []) (rv := none) (h' := (HX c1339 T)) rfl (Etxt_skipBlanks_78 n (u_text_items (u_text_at c1337.2 ((a_text_at c1337.2) + 1)) ((a_text_items c1337.2) + 1)) _ hq T) ?_
                      show ai_ev D1 mtxt_tell 199 [some (.ref 78), some (.ref 20), some (.int y1173), some (.int (a_text_at w)), some (.int c1191.1), some (.int c1337.1)] [] (HX c1339 T) 0 0 _
                      refine ev_go 2 (pc' := 37) (L' := [some (.ref 78), some (.ref 20), some (.int (y1173 + 1)), some (.int (a_text_at w)), some (.int c1191.1), some (.int c1337.1)]) (st' := []) (h' := (HX c1339 T)) (cs' := 0) (sl' := 0) rfl ?_
                      exact ih0 _ _ _ _ h T _ _ _
                  · refine ev_ic_eq (t := 149) rfl rfl (fun c9 => absurd c9 hc) (fun _ => ?_)
                    refine ev_go 2 (pc' := 148) (L' := [some (.ref 78), some (.ref 20), some (.int y1173), some (.int (a_text_at w)), some (.int c1191.1), some (.int c1337.1)]) (st' := [.int (a_text_at c1337.2)]) (h' := (HX c1337.2 T)) (cs' := 0) (sl' := 0) rfl ?_
                    obtain ⟨rfl, rfl⟩ := ai_smP h
                    exact ev_end rfl
              · refine ev_ic_eq (t := 119) rfl rfl (fun c9 => absurd c9 hc) (fun _ => ?_)
                refine ev_go 1 (pc' := 118) (L' := [some (.ref 78), some (.ref 20), some (.int y1173), some (.int (a_text_at w)), some (.int c1191.1), some (.int c1337.1)]) (st' := [.int c1337.1]) (h' := (HX c1337.2 T)) (cs' := 0) (sl' := 0) rfl ?_
                obtain ⟨rfl, rfl⟩ := ai_smP h
                exact ev_end rfl
            · refine ev_if_ne (t := 93) rfl rfl (fun _ => ?_) (fun c9 => absurd c9 hc)
              refine ev_go 3 (pc' := 98) (L' := [some (.ref 78), some (.ref 20), some (.int y1173), some (.int (a_text_at w)), some (.int c1191.1), o5]) (st' := [.int (a_text_at w)]) (h' := (HX c1191.2 T)) (cs' := 0) (sl' := 0) rfl ?_
              obtain ⟨rfl, rfl⟩ := ai_smP h
              exact ev_end rfl
          · refine ev_if_ne (t := 81) rfl rfl (fun _ => ?_) (fun c9 => absurd c9 hc)
            refine ev_go 3 (pc' := 86) (L' := [some (.ref 78), some (.ref 20), some (.int y1173), some (.int (a_text_at w)), some (.int c1191.1), o5]) (st' := [.int (a_text_items c1191.2), .int 0]) (h' := (HX c1191.2 T)) (cs' := 0) (sl' := 0) rfl ?_
            rcases ai_ifE h with ⟨hc, h⟩ | ⟨hc, h⟩
            · refine ev_if_ne (t := 93) rfl rfl (fun c9 => absurd hc c9) (fun _ => ?_)
              refine ev_go 4 (pc' := 98) (L' := [some (.ref 78), some (.ref 20), some (.int y1173), some (.int (a_text_at w)), some (.int c1191.1), o5]) (st' := [.int (a_text_at w)]) (h' := (HX c1191.2 T)) (cs' := 0) (sl' := 0) rfl ?_
              obtain ⟨rfl, rfl⟩ := ai_smP h
              exact ev_end rfl
            · refine ev_if_ne (t := 93) rfl rfl (fun _ => ?_) (fun c9 => absurd c9 hc)
              refine ev_go 4 (pc' := 102) (L' := [some (.ref 78), some (.ref 20), some (.int y1173), some (.int (a_text_at w)), some (.int c1191.1), o5]) (st' := [.int c1191.1, .ref 78]) (h' := (HX c1191.2 T)) (cs' := 0) (sl' := 0) rfl ?_
              obtain ⟨c1193, hq, h⟩ := ai_bdE h
              refine ev_call (M' := mtxt_numbersBehind) (L' := [some (.int c1191.1)]) (rest := [.ref 78]) (rv := some (.int c1193)) (h' := (HX c1191.2 T)) rfl (Etxt_numbersBehind c1191.1 _ hq (HX c1191.2 T)) ?_
              show ai_ev D1 mtxt_tell 105 [some (.ref 78), some (.ref 20), some (.int y1173), some (.int (a_text_at w)), some (.int c1191.1), o5] [.int c1193, .ref 78] (HX c1191.2 T) 0 0 _
              obtain ⟨c1211, hq, h⟩ := ai_bdE h
              refine ev_call (M' := mtxt_takeNumbers) (L' := [some (.ref 78), some (.int c1193), none]) (rest := []) (rv := some (.int c1211.1)) (h' := (HX c1211.2 T)) rfl (Etxt_takeNumbers_78 n c1193 c1191.2 _ _ hq T) ?_
              show ai_ev D1 mtxt_tell 108 [some (.ref 78), some (.ref 20), some (.int y1173), some (.int (a_text_at w)), some (.int c1191.1), o5] [.int c1211.1] (HX c1211.2 T) 0 0 _
              refine ev_go 3 (pc' := 113) (L' := [some (.ref 78), some (.ref 20), some (.int y1173), some (.int (a_text_at w)), some (.int c1191.1), some (.int c1211.1)]) (st' := [.int (-1), .int c1211.1]) (h' := (HX c1211.2 T)) (cs' := 0) (sl' := 0) rfl ?_
              rcases ai_ifE h with ⟨hc, h⟩ | ⟨hc, h⟩
              · refine ev_ic_eq (t := 119) rfl rfl (fun _ => ?_) (fun c9 => absurd hc c9)
                refine ev_go 4 (pc' := 127) (L' := [some (.ref 78), some (.ref 20), some (.int y1173), some (.int (a_text_at w)), some (.int c1191.1), some (.int c1211.1)]) (st' := [.int (a_text_length c1211.2), .int (a_text_at c1211.2)]) (h' := (HX c1211.2 T)) (cs' := 0) (sl' := 0) rfl ?_
                rcases ai_ifE h with ⟨hc, h⟩ | ⟨hc, h⟩
                · refine ev_ic_ge (t := 144) rfl rfl (fun _ => ?_) (fun c9 => absurd hc c9)
                  refine ev_go 2 (pc' := 148) (L' := [some (.ref 78), some (.ref 20), some (.int y1173), some (.int (a_text_at w)), some (.int c1191.1), some (.int c1211.1)]) (st' := [.int (a_text_at c1211.2)]) (h' := (HX c1211.2 T)) (cs' := 0) (sl' := 0) rfl ?_
                  obtain ⟨rfl, rfl⟩ := ai_smP h
                  exact ev_end rfl
                · refine ev_ic_ge (t := 144) rfl rfl (fun c9 => absurd c9 hc) (fun _ => ?_)
                  refine ev_go 4 (pc' := 138) (L' := [some (.ref 78), some (.ref 20), some (.int y1173), some (.int (a_text_at w)), some (.int c1191.1), some (.int c1211.1)]) (st' := [.int (a_text_at c1211.2), .ref 79]) (h' := (HX c1211.2 T)) (cs' := 0) (sl' := 0) rfl ?_
                  obtain ⟨v1212, hq, h⟩ := ai_bdE h
                  refine ev_iald rfl rfl hq ?_
                  refine ev_go 1 (pc' := 141) (L' := [some (.ref 78), some (.ref 20), some (.int y1173), some (.int (a_text_at w)), some (.int c1191.1), some (.int c1211.1)]) (st' := [.int 59, .int v1212]) (h' := (HX c1211.2 T)) (cs' := 0) (sl' := 0) rfl ?_
                  rcases ai_ifE h with ⟨hc, h⟩ | ⟨hc, h⟩
                  · refine ev_ic_eq (t := 149) rfl rfl (fun _ => ?_) (fun c9 => absurd hc c9)
                    refine ev_go 5 (pc' := 156) (L' := [some (.ref 78), some (.ref 20), some (.int y1173), some (.int (a_text_at w)), some (.int c1191.1), some (.int c1211.1)]) (st' := [.int ((a_text_at c1211.2) + 1), .ref 78]) (h' := (HX c1211.2 T)) (cs' := 0) (sl' := 0) rfl ?_
                    refine ev_step rfl rfl rfl (PFX_4_28_78 rfl) ?_
                    refine ev_go 3 (pc' := 164) (L' := [some (.ref 78), some (.ref 20), some (.int y1173), some (.int (a_text_at w)), some (.int c1191.1), some (.int c1211.1)]) (st' := [.int (-1), .int (a_text_refusedItem c1211.2)]) (h' := (HX (u_text_at c1211.2 ((a_text_at c1211.2) + 1)) T)) (cs' := 0) (sl' := 0) rfl ?_
                    rcases ai_ifE h with ⟨hc, h⟩ | ⟨hc, h⟩
                    · refine ev_ic_ne (t := 185) rfl rfl (fun c9 => absurd hc c9) (fun _ => ?_)
                      refine ev_go 3 (pc' := 171) (L' := [some (.ref 78), some (.ref 20), some (.int y1173), some (.int (a_text_at w)), some (.int c1191.1), some (.int c1211.1)]) (st' := [.int c1191.1, .ref 20, .ref 78]) (h' := (HX (u_text_at c1211.2 ((a_text_at c1211.2) + 1)) T)) (cs' := 0) (sl' := 0) rfl ?_
                      obtain ⟨c1333, hq, h⟩ := ai_bdE h
                      refine ev_call (M' := mtxt_tellItem) (L' := [some (.ref 78), some (.ref 20), some (.int c1191.1)]) (rest := []) (rv := some (.int c1333.1)) (h' := (HX c1333.2 T)) rfl (Etxt_tellItem_78_20 n c1191.1 (u_text_at c1211.2 ((a_text_at c1211.2) + 1)) _ _ hq T) ?_
                      show ai_ev D1 mtxt_tell 174 [some (.ref 78), some (.ref 20), some (.int y1173), some (.int (a_text_at w)), some (.int c1191.1), some (.int c1211.1)] [.int c1333.1] (HX c1333.2 T) 0 0 _
                      rcases ai_ifE h with ⟨hc, h⟩ | ⟨hc, h⟩
                      · refine ev_if_ge (t := 185) rfl rfl (fun _ => ?_) (fun c9 => absurd hc c9)
                        refine ev_go 5 (pc' := 192) (L' := [some (.ref 78), some (.ref 20), some (.int y1173), some (.int (a_text_at w)), some (.int c1191.1), some (.int c1211.1)]) (st' := [.int ((a_text_items c1333.2) + 1), .ref 78]) (h' := (HX c1333.2 T)) (cs' := 0) (sl' := 0) rfl ?_
                        refine ev_step rfl rfl rfl (PFX_4_15_78 rfl) ?_
                        refine ev_go 1 (pc' := 196) (L' := [some (.ref 78), some (.ref 20), some (.int y1173), some (.int (a_text_at w)), some (.int c1191.1), some (.int c1211.1)]) (st' := [.ref 78]) (h' := (HX (u_text_items c1333.2 ((a_text_items c1333.2) + 1)) T)) (cs' := 0) (sl' := 0) rfl ?_
                        obtain ⟨c1334, hq, h⟩ := ai_bdE h
                        refine ev_call (M' := mtxt_skipBlanks) (L' := [some (.ref 78)]) (rest := []) (rv := none) (h' := (HX c1334 T)) rfl (Etxt_skipBlanks_78 n (u_text_items c1333.2 ((a_text_items c1333.2) + 1)) _ hq T) ?_
                        show ai_ev D1 mtxt_tell 199 [some (.ref 78), some (.ref 20), some (.int y1173), some (.int (a_text_at w)), some (.int c1191.1), some (.int c1211.1)] [] (HX c1334 T) 0 0 _
                        refine ev_go 2 (pc' := 37) (L' := [some (.ref 78), some (.ref 20), some (.int (y1173 + 1)), some (.int (a_text_at w)), some (.int c1191.1), some (.int c1211.1)]) (st' := []) (h' := (HX c1334 T)) (cs' := 0) (sl' := 0) rfl ?_
                        exact ih0 _ _ _ _ h T _ _ _
                      · refine ev_if_ge (t := 185) rfl rfl (fun c9 => absurd c9 hc) (fun _ => ?_)
                        refine ev_go 3 (pc' := 182) (L' := [some (.ref 78), some (.ref 20), some (.int y1173), some (.int (a_text_at w)), some (.int c1191.1), some (.int c1211.1)]) (st' := [.int (a_text_items c1333.2), .ref 78]) (h' := (HX c1333.2 T)) (cs' := 0) (sl' := 0) rfl ?_
                        refine ev_step rfl rfl rfl (PFX_4_18_78 rfl) ?_
                        refine ev_go 5 (pc' := 192) (L' := [some (.ref 78), some (.ref 20), some (.int y1173), some (.int (a_text_at w)), some (.int c1191.1), some (.int c1211.1)]) (st' := [.int ((a_text_items c1333.2) + 1), .ref 78]) (h' := (HX (u_text_refusedItem c1333.2 (a_text_items c1333.2)) T)) (cs' := 0) (sl' := 0) rfl ?_
                        refine ev_step rfl rfl rfl (PFX_4_15_78 rfl) ?_
                        refine ev_go 1 (pc' := 196) (L' := [some (.ref 78), some (.ref 20), some (.int y1173), some (.int (a_text_at w)), some (.int c1191.1), some (.int c1211.1)]) (st' := [.ref 78]) (h' := (HX (u_text_items (u_text_refusedItem c1333.2 (a_text_items c1333.2)) ((a_text_items c1333.2) + 1)) T)) (cs' := 0) (sl' := 0) rfl ?_
                        obtain ⟨c1335, hq, h⟩ := ai_bdE h
                        refine ev_call (M' := mtxt_skipBlanks) (L' := [some (.ref 78)]) (rest := []) (rv := none) (h' := (HX c1335 T)) rfl (Etxt_skipBlanks_78 n (u_text_items (u_text_refusedItem c1333.2 (a_text_items c1333.2)) ((a_text_items c1333.2) + 1)) _ hq T) ?_
                        show ai_ev D1 mtxt_tell 199 [some (.ref 78), some (.ref 20), some (.int y1173), some (.int (a_text_at w)), some (.int c1191.1), some (.int c1211.1)] [] (HX c1335 T) 0 0 _
                        refine ev_go 2 (pc' := 37) (L' := [some (.ref 78), some (.ref 20), some (.int (y1173 + 1)), some (.int (a_text_at w)), some (.int c1191.1), some (.int c1211.1)]) (st' := []) (h' := (HX c1335 T)) (cs' := 0) (sl' := 0) rfl ?_
                        exact ih0 _ _ _ _ h T _ _ _
                    · refine ev_ic_ne (t := 185) rfl rfl (fun _ => ?_) (fun c9 => absurd c9 hc)
                      refine ev_go 5 (pc' := 192) (L' := [some (.ref 78), some (.ref 20), some (.int y1173), some (.int (a_text_at w)), some (.int c1191.1), some (.int c1211.1)]) (st' := [.int ((a_text_items c1211.2) + 1), .ref 78]) (h' := (HX (u_text_at c1211.2 ((a_text_at c1211.2) + 1)) T)) (cs' := 0) (sl' := 0) rfl ?_
                      refine ev_step rfl rfl rfl (PFX_4_15_78 rfl) ?_
                      refine ev_go 1 (pc' := 196) (L' := [some (.ref 78), some (.ref 20), some (.int y1173), some (.int (a_text_at w)), some (.int c1191.1), some (.int c1211.1)]) (st' := [.ref 78]) (h' := (HX (u_text_items (u_text_at c1211.2 ((a_text_at c1211.2) + 1)) ((a_text_items c1211.2) + 1)) T)) (cs' := 0) (sl' := 0) rfl ?_
                      obtain ⟨c1213, hq, h⟩ := ai_bdE h
                      refine ev_call (M' := mtxt_skipBlanks) (L' := [some (.ref 78)]) (rest := []) (rv := none) (h' := (HX c1213 T)) rfl (Etxt_skipBlanks_78 n (u_text_items (u_text_at c1211.2 ((a_text_at c1211.2) + 1)) ((a_text_items c1211.2) + 1)) _ hq T) ?_
                      show ai_ev D1 mtxt_tell 199 [some (.ref 78), some (.ref 20), some (.int y1173), some (.int (a_text_at w)), some (.int c1191.1), some (.int c1211.1)] [] (HX c1213 T) 0 0 _
                      refine ev_go 2 (pc' := 37) (L' := [some (.ref 78), some (.ref 20), some (.int (y1173 + 1)), some (.int (a_text_at w)), some (.int c1191.1), some (.int c1211.1)]) (st' := []) (h' := (HX c1213 T)) (cs' := 0) (sl' := 0) rfl ?_
                      exact ih0 _ _ _ _ h T _ _ _
                  · refine ev_ic_eq (t := 149) rfl rfl (fun c9 => absurd c9 hc) (fun _ => ?_)
                    refine ev_go 2 (pc' := 148) (L' := [some (.ref 78), some (.ref 20), some (.int y1173), some (.int (a_text_at w)), some (.int c1191.1), some (.int c1211.1)]) (st' := [.int (a_text_at c1211.2)]) (h' := (HX c1211.2 T)) (cs' := 0) (sl' := 0) rfl ?_
                    obtain ⟨rfl, rfl⟩ := ai_smP h
                    exact ev_end rfl
              · refine ev_ic_eq (t := 119) rfl rfl (fun c9 => absurd c9 hc) (fun _ => ?_)
                refine ev_go 1 (pc' := 118) (L' := [some (.ref 78), some (.ref 20), some (.int y1173), some (.int (a_text_at w)), some (.int c1191.1), some (.int c1211.1)]) (st' := [.int c1211.1]) (h' := (HX c1211.2 T)) (cs' := 0) (sl' := 0) rfl ?_
                obtain ⟨rfl, rfl⟩ := ai_smP h
                exact ev_end rfl
set_option maxHeartbeats 40000000 in
set_option maxRecDepth 100000 in
theorem Etxt_tell_78_20 (n : Nat) (w : WX) (r : Int32) (w' : WX) (h : Ftxt_tell_78_20 n w = some (r, w')) (T : ai_H) : ai_ev D1 mtxt_tell 0 [some (.ref 78), some (.ref 20), none, none, none, none] [] (HX w T) 0 0 (some (.int r), HX w' T) := by
  unfold Ftxt_tell_78_20 at h
  have ih0 := EGtxt_tell_78_20 n
  refine ev_go 2 (pc' := 2) (L' := [some (.ref 78), some (.ref 20), none, none, none, none]) (st' := [.int 0, .ref 78]) (h' := (HX w T)) (cs' := 0) (sl' := 0) rfl ?_
  refine ev_step rfl rfl rfl (PFX_4_28_78 rfl) ?_
  refine ev_go 2 (pc' := 7) (L' := [some (.ref 78), some (.ref 20), none, none, none, none]) (st' := [.int 0, .ref 78]) (h' := (HX (u_text_at w 0) T)) (cs' := 0) (sl' := 0) rfl ?_
  refine ev_step rfl rfl rfl (PFX_4_15_78 rfl) ?_
  refine ev_go 2 (pc' := 12) (L' := [some (.ref 78), some (.ref 20), none, none, none, none]) (st' := [.int (-1), .ref 78]) (h' := (HX (u_text_items (u_text_at w 0) 0) T)) (cs' := 0) (sl' := 0) rfl ?_
  refine ev_step rfl rfl rfl (PFX_4_18_78 rfl) ?_
  refine ev_go 1 (pc' := 16) (L' := [some (.ref 78), some (.ref 20), none, none, none, none]) (st' := [.ref 78]) (h' := (HX (u_text_refusedItem (u_text_items (u_text_at w 0) 0) (-1)) T)) (cs' := 0) (sl' := 0) rfl ?_
  obtain ⟨c1172, hq, h⟩ := ai_bdE h
  refine ev_call (M' := mtxt_skipBlanks) (L' := [some (.ref 78)]) (rest := []) (rv := none) (h' := (HX c1172 T)) rfl (Etxt_skipBlanks_78 n (u_text_refusedItem (u_text_items (u_text_at w 0) 0) (-1)) _ hq T) ?_
  show ai_ev D1 mtxt_tell 19 [some (.ref 78), some (.ref 20), none, none, none, none] [] (HX c1172 T) 0 0 _
  refine ev_go 4 (pc' := 27) (L' := [some (.ref 78), some (.ref 20), none, none, none, none]) (st' := [.int (a_text_length c1172), .int (a_text_at c1172)]) (h' := (HX c1172 T)) (cs' := 0) (sl' := 0) rfl ?_
  rcases ai_ifE h with ⟨hc, h⟩ | ⟨hc, h⟩
  · refine ev_ic_lt (t := 35) rfl rfl (fun _ => ?_) (fun c9 => absurd hc c9)
    refine ev_go 2 (pc' := 37) (L' := [some (.ref 78), some (.ref 20), some (.int 0), none, none, none]) (st' := []) (h' := (HX c1172 T)) (cs' := 0) (sl' := 0) rfl ?_
    exact ih0 _ _ _ _ h T _ _ _
  · refine ev_ic_lt (t := 35) rfl rfl (fun c9 => absurd c9 hc) (fun _ => ?_)
    refine ev_go 2 (pc' := 34) (L' := [some (.ref 78), some (.ref 20), none, none, none, none]) (st' := [.int (a_text_length c1172)]) (h' := (HX c1172 T)) (cs' := 0) (sl' := 0) rfl ?_
    obtain ⟨rfl, rfl⟩ := ai_smP h
    exact ev_end rfl
set_option maxHeartbeats 40000000 in
set_option maxRecDepth 100000 in
theorem Ethg_copyFrom_7_26 (w : WX) (w' : WX) (h : Fthg_copyFrom_7_26 w = some w') (T : ai_H) : ai_ev D1 mthg_copyFrom 0 [some (.ref 7), some (.ref 26)] [] (HX w T) 0 0 (none, HX w' T) := by
  unfold Fthg_copyFrom_7_26 at h
  refine ev_go 3 (pc' := 5) (L' := [some (.ref 7), some (.ref 26)]) (st' := [.int (a_s2things_count w), .ref 7]) (h' := (HX w T)) (cs' := 0) (sl' := 0) rfl ?_
  refine ev_step rfl rfl rfl (PFX_5_9_7 rfl) ?_
  refine ev_go 7 (pc' := 20) (L' := [some (.ref 7), some (.ref 26)]) (st' := [.int 6, .int 0, .ref 8, .int 0, .ref 27]) (h' := (HX (u_s1things_count w (a_s2things_count w)) T)) (cs' := 0) (sl' := 0) rfl ?_
  obtain ⟨q1349, hq, h⟩ := ai_bdE h
  refine ev_cpy rfl rfl rfl rfl rfl rfl hq ?_
  rw [HXs_8]
  refine ev_go 7 (pc' := 35) (L' := [some (.ref 7), some (.ref 26)]) (st' := [.int 6, .int 0, .ref 9, .int 0, .ref 28]) (h' := (HX (u_s1things_kinds (u_s1things_count w (a_s2things_count w)) q1349) T)) (cs' := 0) (sl' := 0) rfl ?_
  obtain ⟨q1350, hq, h⟩ := ai_bdE h
  refine ev_cpy rfl rfl rfl rfl rfl rfl hq ?_
  rw [HXs_9]
  refine ev_go 7 (pc' := 50) (L' := [some (.ref 7), some (.ref 26)]) (st' := [.int 6, .int 0, .ref 10, .int 0, .ref 29]) (h' := (HX (u_s1things_weights (u_s1things_kinds (u_s1things_count w (a_s2things_count w)) q1349) q1350) T)) (cs' := 0) (sl' := 0) rfl ?_
  obtain ⟨q1351, hq, h⟩ := ai_bdE h
  refine ev_cpy rfl rfl rfl rfl rfl rfl hq ?_
  rw [HXs_10]
  refine ev_go 7 (pc' := 65) (L' := [some (.ref 7), some (.ref 26)]) (st' := [.int 6, .int 0, .ref 11, .int 0, .ref 30]) (h' := (HX (u_s1things_volumes (u_s1things_weights (u_s1things_kinds (u_s1things_count w (a_s2things_count w)) q1349) q1350) q1351) T)) (cs' := 0) (sl' := 0) rfl ?_
  obtain ⟨q1352, hq, h⟩ := ai_bdE h
  refine ev_cpy rfl rfl rfl rfl rfl rfl hq ?_
  rw [HXs_11]
  obtain rfl := Option.some.inj h
  exact ev_end rfl
set_option maxHeartbeats 40000000 in
set_option maxRecDepth 100000 in
theorem Elift_copyFrom_12_31 (w : WX) (w' : WX) (h : Flift_copyFrom_12_31 w = some w') (T : ai_H) : ai_ev D1 mlift_copyFrom 0 [some (.ref 12), some (.ref 31)] [] (HX w T) 0 0 (none, HX w' T) := by
  unfold Flift_copyFrom_12_31 at h
  refine ev_go 3 (pc' := 5) (L' := [some (.ref 12), some (.ref 31)]) (st' := [.int (a_s2lifts_count w), .ref 12]) (h' := (HX w T)) (cs' := 0) (sl' := 0) rfl ?_
  refine ev_step rfl rfl rfl (PFX_1_9_12 rfl) ?_
  refine ev_go 7 (pc' := 20) (L' := [some (.ref 12), some (.ref 31)]) (st' := [.int 10, .int 0, .ref 13, .int 0, .ref 32]) (h' := (HX (u_s1lifts_count w (a_s2lifts_count w)) T)) (cs' := 0) (sl' := 0) rfl ?_
  obtain ⟨q1354, hq, h⟩ := ai_bdE h
  refine ev_cpy rfl rfl rfl rfl rfl rfl hq ?_
  rw [HXs_13]
  refine ev_go 7 (pc' := 35) (L' := [some (.ref 12), some (.ref 31)]) (st' := [.int 10, .int 0, .ref 14, .int 0, .ref 33]) (h' := (HX (u_s1lifts_froms (u_s1lifts_count w (a_s2lifts_count w)) q1354) T)) (cs' := 0) (sl' := 0) rfl ?_
  obtain ⟨q1355, hq, h⟩ := ai_bdE h
  refine ev_cpy rfl rfl rfl rfl rfl rfl hq ?_
  rw [HXs_14]
  refine ev_go 7 (pc' := 50) (L' := [some (.ref 12), some (.ref 31)]) (st' := [.int 10, .int 0, .ref 15, .int 0, .ref 34]) (h' := (HX (u_s1lifts_tos (u_s1lifts_froms (u_s1lifts_count w (a_s2lifts_count w)) q1354) q1355) T)) (cs' := 0) (sl' := 0) rfl ?_
  obtain ⟨q1356, hq, h⟩ := ai_bdE h
  refine ev_cpy rfl rfl rfl rfl rfl rfl hq ?_
  rw [HXs_15]
  obtain rfl := Option.some.inj h
  exact ev_end rfl
set_option maxHeartbeats 40000000 in
set_option maxRecDepth 100000 in
theorem Esea_copyFrom_1_20 (w : WX) (w' : WX) (h : Fsea_copyFrom_1_20 w = some w') (T : ai_H) : ai_ev D1 msea_copyFrom 0 [some (.ref 1), some (.ref 20)] [] (HX w T) 0 0 (none, HX w' T) := by
  unfold Fsea_copyFrom_1_20 at h
  refine ev_go 3 (pc' := 5) (L' := [some (.ref 1), some (.ref 20)]) (st' := [.int (a_s2_cells w), .ref 1]) (h' := (HX w T)) (cs' := 0) (sl' := 0) rfl ?_
  refine ev_step rfl rfl rfl (PFX_2_9_1 rfl) ?_
  refine ev_go 3 (pc' := 13) (L' := [some (.ref 1), some (.ref 20)]) (st' := [.int (a_s2_hour w), .ref 1]) (h' := (HX (u_s1_cells w (a_s2_cells w)) T)) (cs' := 0) (sl' := 0) rfl ?_
  refine ev_step rfl rfl rfl (PFX_2_15_1 rfl) ?_
  refine ev_go 3 (pc' := 21) (L' := [some (.ref 1), some (.ref 20)]) (st' := [.int (a_s2_dams w), .ref 1]) (h' := (HX (u_s1_hour (u_s1_cells w (a_s2_cells w)) (a_s2_hour w)) T)) (cs' := 0) (sl' := 0) rfl ?_
  refine ev_step rfl rfl rfl (PFX_2_18_1 rfl) ?_
  refine ev_go 7 (pc' := 35) (L' := [some (.ref 1), some (.ref 20)]) (st' := [.int 4, .int 0, .ref 2, .int 0, .ref 21]) (h' := (HX (u_s1_dams (u_s1_hour (u_s1_cells w (a_s2_cells w)) (a_s2_hour w)) (a_s2_dams w)) T)) (cs' := 0) (sl' := 0) rfl ?_
  obtain ⟨q1344, hq, h⟩ := ai_bdE h
  refine ev_cpy rfl rfl rfl rfl rfl rfl hq ?_
  rw [HXs_2]
  refine ev_go 7 (pc' := 49) (L' := [some (.ref 1), some (.ref 20)]) (st' := [.int 4, .int 0, .ref 3, .int 0, .ref 22]) (h' := (HX (u_s1_densities (u_s1_dams (u_s1_hour (u_s1_cells w (a_s2_cells w)) (a_s2_hour w)) (a_s2_dams w)) q1344) T)) (cs' := 0) (sl' := 0) rfl ?_
  obtain ⟨q1345, hq, h⟩ := ai_bdE h
  refine ev_cpy rfl rfl rfl rfl rfl rfl hq ?_
  rw [HXs_3]
  refine ev_go 7 (pc' := 64) (L' := [some (.ref 1), some (.ref 20)]) (st' := [.int 24, .int 0, .ref 4, .int 0, .ref 23]) (h' := (HX (u_s1_currents (u_s1_densities (u_s1_dams (u_s1_hour (u_s1_cells w (a_s2_cells w)) (a_s2_hour w)) (a_s2_dams w)) q1344) q1345) T)) (cs' := 0) (sl' := 0) rfl ?_
  obtain ⟨q1346, hq, h⟩ := ai_bdE h
  refine ev_cpy rfl rfl rfl rfl rfl rfl hq ?_
  rw [HXs_4]
  refine ev_go 7 (pc' := 79) (L' := [some (.ref 1), some (.ref 20)]) (st' := [.int 24, .int 0, .ref 5, .int 0, .ref 24]) (h' := (HX (u_s1_tides (u_s1_currents (u_s1_densities (u_s1_dams (u_s1_hour (u_s1_cells w (a_s2_cells w)) (a_s2_hour w)) (a_s2_dams w)) q1344) q1345) q1346) T)) (cs' := 0) (sl' := 0) rfl ?_
  obtain ⟨q1347, hq, h⟩ := ai_bdE h
  refine ev_cpy rfl rfl rfl rfl rfl rfl hq ?_
  rw [HXs_5]
  refine ev_go 7 (pc' := 93) (L' := [some (.ref 1), some (.ref 20)]) (st' := [.int 3, .int 0, .ref 6, .int 0, .ref 25]) (h' := (HX (u_s1_thicks (u_s1_tides (u_s1_currents (u_s1_densities (u_s1_dams (u_s1_hour (u_s1_cells w (a_s2_cells w)) (a_s2_hour w)) (a_s2_dams w)) q1344) q1345) q1346) q1347) T)) (cs' := 0) (sl' := 0) rfl ?_
  obtain ⟨q1348, hq, h⟩ := ai_bdE h
  refine ev_cpy rfl rfl rfl rfl rfl rfl hq ?_
  rw [HXs_6]
  refine ev_go 4 (pc' := 104) (L' := [some (.ref 1), some (.ref 20)]) (st' := [.ref 26, .ref 7]) (h' := (HX (u_s1_skins (u_s1_thicks (u_s1_tides (u_s1_currents (u_s1_densities (u_s1_dams (u_s1_hour (u_s1_cells w (a_s2_cells w)) (a_s2_hour w)) (a_s2_dams w)) q1344) q1345) q1346) q1347) q1348) T)) (cs' := 0) (sl' := 0) rfl ?_
  obtain ⟨c1353, hq, h⟩ := ai_bdE h
  refine ev_call (M' := mthg_copyFrom) (L' := [some (.ref 7), some (.ref 26)]) (rest := []) (rv := none) (h' := (HX c1353 T)) rfl (Ethg_copyFrom_7_26 (u_s1_skins (u_s1_thicks (u_s1_tides (u_s1_currents (u_s1_densities (u_s1_dams (u_s1_hour (u_s1_cells w (a_s2_cells w)) (a_s2_hour w)) (a_s2_dams w)) q1344) q1345) q1346) q1347) q1348) _ hq T) ?_
  show ai_ev D1 msea_copyFrom 107 [some (.ref 1), some (.ref 20)] [] (HX c1353 T) 0 0 _
  refine ev_go 4 (pc' := 115) (L' := [some (.ref 1), some (.ref 20)]) (st' := [.ref 31, .ref 12]) (h' := (HX c1353 T)) (cs' := 0) (sl' := 0) rfl ?_
  obtain ⟨c1357, hq, h⟩ := ai_bdE h
  refine ev_call (M' := mlift_copyFrom) (L' := [some (.ref 12), some (.ref 31)]) (rest := []) (rv := none) (h' := (HX c1357 T)) rfl (Elift_copyFrom_12_31 c1353 _ hq T) ?_
  show ai_ev D1 msea_copyFrom 118 [some (.ref 1), some (.ref 20)] [] (HX c1357 T) 0 0 _
  refine ev_go 3 (pc' := 123) (L' := [some (.ref 1), some (.ref 20)]) (st' := [.int (a_s2_towns c1357), .ref 1]) (h' := (HX c1357 T)) (cs' := 0) (sl' := 0) rfl ?_
  refine ev_step rfl rfl rfl (PFX_2_51_1 rfl) ?_
  refine ev_go 7 (pc' := 138) (L' := [some (.ref 1), some (.ref 20)]) (st' := [.int 6, .int 0, .ref 16, .int 0, .ref 35]) (h' := (HX (u_s1_towns c1357 (a_s2_towns c1357)) T)) (cs' := 0) (sl' := 0) rfl ?_
  obtain ⟨q1358, hq, h⟩ := ai_bdE h
  refine ev_cpy rfl rfl rfl rfl rfl rfl hq ?_
  rw [HXs_16]
  refine ev_go 3 (pc' := 146) (L' := [some (.ref 1), some (.ref 20)]) (st' := [.int (a_s2_drops c1357), .ref 1]) (h' := (HX (u_s1_townPlaces (u_s1_towns c1357 (a_s2_towns c1357)) q1358) T)) (cs' := 0) (sl' := 0) rfl ?_
  refine ev_step rfl rfl rfl (PFX_2_57_1 rfl) ?_
  refine ev_go 7 (pc' := 161) (L' := [some (.ref 1), some (.ref 20)]) (st' := [.int 6, .int 0, .ref 17, .int 0, .ref 36]) (h' := (HX (u_s1_drops (u_s1_townPlaces (u_s1_towns c1357 (a_s2_towns c1357)) q1358) (a_s2_drops c1357)) T)) (cs' := 0) (sl' := 0) rfl ?_
  obtain ⟨q1359, hq, h⟩ := ai_bdE h
  refine ev_cpy rfl rfl rfl rfl rfl rfl hq ?_
  rw [HXs_17]
  refine ev_go 7 (pc' := 176) (L' := [some (.ref 1), some (.ref 20)]) (st' := [.int 6, .int 0, .ref 18, .int 0, .ref 37]) (h' := (HX (u_s1_dropLayers (u_s1_drops (u_s1_townPlaces (u_s1_towns c1357 (a_s2_towns c1357)) q1358) (a_s2_drops c1357)) q1359) T)) (cs' := 0) (sl' := 0) rfl ?_
  obtain ⟨q1360, hq, h⟩ := ai_bdE h
  refine ev_cpy rfl rfl rfl rfl rfl rfl hq ?_
  rw [HXs_18]
  refine ev_go 3 (pc' := 184) (L' := [some (.ref 1), some (.ref 20)]) (st' := [.int (a_s2_undos c1357), .ref 1]) (h' := (HX (u_s1_dropFloats (u_s1_dropLayers (u_s1_drops (u_s1_townPlaces (u_s1_towns c1357 (a_s2_towns c1357)) q1358) (a_s2_drops c1357)) q1359) q1360) T)) (cs' := 0) (sl' := 0) rfl ?_
  refine ev_step rfl rfl rfl (PFX_2_66_1 rfl) ?_
  refine ev_go 7 (pc' := 199) (L' := [some (.ref 1), some (.ref 20)]) (st' := [.int 10, .int 0, .ref 19, .int 0, .ref 38]) (h' := (HX (u_s1_undos (u_s1_dropFloats (u_s1_dropLayers (u_s1_drops (u_s1_townPlaces (u_s1_towns c1357 (a_s2_towns c1357)) q1358) (a_s2_drops c1357)) q1359) q1360) (a_s2_undos c1357)) T)) (cs' := 0) (sl' := 0) rfl ?_
  obtain ⟨q1361, hq, h⟩ := ai_bdE h
  refine ev_cpy rfl rfl rfl rfl rfl rfl hq ?_
  rw [HXs_19]
  obtain rfl := Option.some.inj h
  exact ev_end rfl
set_option maxHeartbeats 40000000 in
set_option maxRecDepth 100000 in
theorem Ef_read_0 (n : Nat) (w : WX) (r : Int32) (w' : WX) (h : Ff_read_0 n w = some (r, w')) (T : ai_H) : ai_ev D1 mf_read 0 [some (.ref 0), none] [] (HX w T) 0 0 (some (.int r), HX w' T) := by
  unfold Ff_read_0 at h
  refine ev_go 4 (pc' := 8) (L' := [some (.ref 0), none]) (st' := [.ref 20, .ref 78]) (h' := (HX w T)) (cs' := 0) (sl' := 0) rfl ?_
  obtain ⟨c1343, hq, h⟩ := ai_bdE h
  refine ev_call (M' := mtxt_tell) (L' := [some (.ref 78), some (.ref 20), none, none, none, none]) (rest := []) (rv := some (.int c1343.1)) (h' := (HX c1343.2 T)) rfl (Etxt_tell_78_20 n w _ _ hq T) ?_
  show ai_ev D1 mf_read 11 [some (.ref 0), none] [.int c1343.1] (HX c1343.2 T) 0 0 _
  refine ev_go 3 (pc' := 14) (L' := [some (.ref 0), some (.int c1343.1)]) (st' := [.int (-1), .int c1343.1]) (h' := (HX c1343.2 T)) (cs' := 0) (sl' := 0) rfl ?_
  rcases ai_ifE h with ⟨hc, h⟩ | ⟨hc, h⟩
  · refine ev_ic_eq (t := 22) rfl rfl (fun _ => ?_) (fun c9 => absurd hc c9)
    refine ev_go 4 (pc' := 30) (L' := [some (.ref 0), some (.int c1343.1)]) (st' := [.int (-1), .int (a_text_refusedItem c1343.2)]) (h' := (HX c1343.2 T)) (cs' := 0) (sl' := 0) rfl ?_
    rcases ai_ifE h with ⟨hc, h⟩ | ⟨hc, h⟩
    · refine ev_ic_eq (t := 45) rfl rfl (fun _ => ?_) (fun c9 => absurd hc c9)
      refine ev_go 4 (pc' := 53) (L' := [some (.ref 0), some (.int c1343.1)]) (st' := [.ref 20, .ref 1]) (h' := (HX c1343.2 T)) (cs' := 0) (sl' := 0) rfl ?_
      obtain ⟨c1362, hq, h⟩ := ai_bdE h
      refine ev_call (M' := msea_copyFrom) (L' := [some (.ref 1), some (.ref 20)]) (rest := []) (rv := none) (h' := (HX c1362 T)) rfl (Esea_copyFrom_1_20 c1343.2 _ hq T) ?_
      show ai_ev D1 mf_read 56 [some (.ref 0), some (.int c1343.1)] [] (HX c1362 T) 0 0 _
      refine ev_go 3 (pc' := 63) (L' := [some (.ref 0), some (.int c1343.1)]) (st' := [.int (a_text_items c1362)]) (h' := (HX c1362 T)) (cs' := 0) (sl' := 0) rfl ?_
      obtain ⟨rfl, rfl⟩ := ai_smP h
      exact ev_end rfl
    · refine ev_ic_eq (t := 45) rfl rfl (fun c9 => absurd c9 hc) (fun _ => ?_)
      refine ev_go 5 (pc' := 44) (L' := [some (.ref 0), some (.int c1343.1)]) (st' := [.int ((-1000) - (a_text_refusedItem c1343.2))]) (h' := (HX c1343.2 T)) (cs' := 0) (sl' := 0) rfl ?_
      obtain ⟨rfl, rfl⟩ := ai_smP h
      exact ev_end rfl
  · refine ev_ic_eq (t := 22) rfl rfl (fun c9 => absurd c9 hc) (fun _ => ?_)
    refine ev_go 3 (pc' := 21) (L' := [some (.ref 0), some (.int c1343.1)]) (st' := [.int ((-10) - c1343.1)]) (h' := (HX c1343.2 T)) (cs' := 0) (sl' := 0) rfl ?_
    obtain ⟨rfl, rfl⟩ := ai_smP h
    exact ev_end rfl
set_option maxHeartbeats 40000000 in
set_option maxRecDepth 100000 in
theorem Esea_goOn_1 (x1364 : Int32) (w : WX) (r : Int32) (w' : WX) (h : Fsea_goOn_1 x1364 w = some (r, w')) (T : ai_H) : ai_ev D1 msea_goOn 0 [some (.ref 1), some (.int x1364)] [] (HX w T) 0 0 (some (.int r), HX w' T) := by
  unfold Fsea_goOn_1 at h
  refine ev_go 3 (pc' := 4) (L' := [some (.ref 1), some (.int x1364)]) (st' := [.int 99, .int 1, .int x1364]) (h' := (HX w T)) (cs' := 0) (sl' := 0) rfl ?_
  obtain ⟨c1365, hq, h⟩ := ai_bdE h
  refine ev_call (M' := mf_within) (L' := [some (.int x1364), some (.int 1), some (.int 99)]) (rest := []) (rv := some (.int c1365)) (h' := (HX w T)) rfl (Ef_within x1364 1 99 _ hq (HX w T)) ?_
  show ai_ev D1 msea_goOn 7 [some (.ref 1), some (.int x1364)] [.int c1365] (HX w T) 0 0 _
  rcases ai_ifE h with ⟨hc, h⟩ | ⟨hc, h⟩
  · refine ev_if_ne (t := 13) rfl rfl (fun c9 => absurd hc c9) (fun _ => ?_)
    refine ev_go 1 (pc' := 12) (L' := [some (.ref 1), some (.int x1364)]) (st' := [.int (-2)]) (h' := (HX w T)) (cs' := 0) (sl' := 0) rfl ?_
    obtain ⟨rfl, rfl⟩ := ai_smP h
    exact ev_end rfl
  · refine ev_if_ne (t := 13) rfl rfl (fun _ => ?_) (fun c9 => absurd c9 hc)
    refine ev_go 5 (pc' := 22) (L' := [some (.ref 1), some (.int x1364)]) (st' := [.int 999, .int ((a_s1_hour w) + x1364)]) (h' := (HX w T)) (cs' := 0) (sl' := 0) rfl ?_
    rcases ai_ifE h with ⟨hc, h⟩ | ⟨hc, h⟩
    · refine ev_ic_le (t := 28) rfl rfl (fun _ => ?_) (fun c9 => absurd hc c9)
      refine ev_go 3 (pc' := 34) (L' := [some (.ref 1), some (.int x1364)]) (st' := [.int 10, .int (a_s1_undos w)]) (h' := (HX w T)) (cs' := 0) (sl' := 0) rfl ?_
      rcases ai_ifE h with ⟨hc, h⟩ | ⟨hc, h⟩
      · refine ev_ic_lt (t := 58) rfl rfl (fun _ => ?_) (fun c9 => absurd hc c9)
        refine ev_go 6 (pc' := 70) (L' := [some (.ref 1), some (.int x1364)]) (st' := [.int (a_s1_hour w), .int (a_s1_undos w), .ref 19]) (h' := (HX w T)) (cs' := 0) (sl' := 0) rfl ?_
        obtain ⟨q1366, hq, h⟩ := ai_bdE h
        refine ev_iast rfl rfl hq ?_
        rw [HXs_19]
        refine ev_go 5 (pc' := 78) (L' := [some (.ref 1), some (.int x1364)]) (st' := [.int ((a_s1_undos w) + 1), .ref 1]) (h' := (HX (u_s1_hoursBefore w q1366) T)) (cs' := 0) (sl' := 0) rfl ?_
        refine ev_step rfl rfl rfl (PFX_2_66_1 rfl) ?_
        refine ev_go 5 (pc' := 88) (L' := [some (.ref 1), some (.int x1364)]) (st' := [.int ((a_s1_hour w) + x1364), .ref 1]) (h' := (HX (u_s1_undos (u_s1_hoursBefore w q1366) ((a_s1_undos w) + 1)) T)) (cs' := 0) (sl' := 0) rfl ?_
        refine ev_step rfl rfl rfl (PFX_2_15_1 rfl) ?_
        refine ev_go 2 (pc' := 95) (L' := [some (.ref 1), some (.int x1364)]) (st' := [.int ((a_s1_hour w) + x1364)]) (h' := (HX (u_s1_hour (u_s1_undos (u_s1_hoursBefore w q1366) ((a_s1_undos w) + 1)) ((a_s1_hour w) + x1364)) T)) (cs' := 0) (sl' := 0) rfl ?_
        obtain ⟨rfl, rfl⟩ := ai_smP h
        exact ev_end rfl
      · refine ev_ic_lt (t := 58) rfl rfl (fun c9 => absurd c9 hc) (fun _ => ?_)
        refine ev_go 7 (pc' := 49) (L' := [some (.ref 1), some (.int x1364)]) (st' := [.int 9, .int 0, .ref 19, .int 1, .ref 19]) (h' := (HX w T)) (cs' := 0) (sl' := 0) rfl ?_
        obtain ⟨q1367, hq, h⟩ := ai_bdE h
        refine ev_cpy rfl rfl rfl rfl rfl rfl hq ?_
        rw [HXs_19]
        refine ev_go 2 (pc' := 55) (L' := [some (.ref 1), some (.int x1364)]) (st' := [.int 9, .ref 1]) (h' := (HX (u_s1_hoursBefore w q1367) T)) (cs' := 0) (sl' := 0) rfl ?_
        refine ev_step rfl rfl rfl (PFX_2_66_1 rfl) ?_
        refine ev_go 6 (pc' := 70) (L' := [some (.ref 1), some (.int x1364)]) (st' := [.int (a_s1_hour w), .int 9, .ref 19]) (h' := (HX (u_s1_undos (u_s1_hoursBefore w q1367) 9) T)) (cs' := 0) (sl' := 0) rfl ?_
        obtain ⟨q1368, hq, h⟩ := ai_bdE h
        refine ev_iast rfl rfl hq ?_
        rw [HXs_19]
        refine ev_go 5 (pc' := 78) (L' := [some (.ref 1), some (.int x1364)]) (st' := [.int 10, .ref 1]) (h' := (HX (u_s1_hoursBefore (u_s1_undos (u_s1_hoursBefore w q1367) 9) q1368) T)) (cs' := 0) (sl' := 0) rfl ?_
        refine ev_step rfl rfl rfl (PFX_2_66_1 rfl) ?_
        refine ev_go 5 (pc' := 88) (L' := [some (.ref 1), some (.int x1364)]) (st' := [.int ((a_s1_hour w) + x1364), .ref 1]) (h' := (HX (u_s1_undos (u_s1_hoursBefore (u_s1_undos (u_s1_hoursBefore w q1367) 9) q1368) 10) T)) (cs' := 0) (sl' := 0) rfl ?_
        refine ev_step rfl rfl rfl (PFX_2_15_1 rfl) ?_
        refine ev_go 2 (pc' := 95) (L' := [some (.ref 1), some (.int x1364)]) (st' := [.int ((a_s1_hour w) + x1364)]) (h' := (HX (u_s1_hour (u_s1_undos (u_s1_hoursBefore (u_s1_undos (u_s1_hoursBefore w q1367) 9) q1368) 10) ((a_s1_hour w) + x1364)) T)) (cs' := 0) (sl' := 0) rfl ?_
        obtain ⟨rfl, rfl⟩ := ai_smP h
        exact ev_end rfl
    · refine ev_ic_le (t := 28) rfl rfl (fun c9 => absurd c9 hc) (fun _ => ?_)
      refine ev_go 1 (pc' := 27) (L' := [some (.ref 1), some (.int x1364)]) (st' := [.int (-3)]) (h' := (HX w T)) (cs' := 0) (sl' := 0) rfl ?_
      obtain ⟨rfl, rfl⟩ := ai_smP h
      exact ev_end rfl
set_option maxHeartbeats 40000000 in
set_option maxRecDepth 100000 in
theorem Ef_hours_0 (x1363 : Int32) (w : WX) (r : Int32) (w' : WX) (h : Ff_hours_0 x1363 w = some (r, w')) (T : ai_H) : ai_ev D1 mf_hours 0 [some (.ref 0), some (.int x1363)] [] (HX w T) 0 0 (some (.int r), HX w' T) := by
  unfold Ff_hours_0 at h
  refine ev_go 4 (pc' := 6) (L' := [some (.ref 0), some (.int x1363)]) (st' := [.int x1363, .ref 1, .ref 0]) (h' := (HX w T)) (cs' := 0) (sl' := 0) rfl ?_
  obtain ⟨c1369, hq, h⟩ := ai_bdE h
  refine ev_call (M' := msea_goOn) (L' := [some (.ref 1), some (.int x1363)]) (rest := [.ref 0]) (rv := some (.int c1369.1)) (h' := (HX c1369.2 T)) rfl (Esea_goOn_1 x1363 w _ _ hq T) ?_
  show ai_ev D1 mf_hours 9 [some (.ref 0), some (.int x1363)] [.int c1369.1, .ref 0] (HX c1369.2 T) 0 0 _
  obtain ⟨c1370, hq, h⟩ := ai_bdE h
  refine ev_call (M' := mf_counted) (L' := [some (.ref 0), some (.int c1369.1)]) (rest := []) (rv := some (.int c1370.1)) (h' := (HX c1370.2 T)) rfl (Ef_counted_0 c1369.1 c1369.2 _ _ hq T) ?_
  show ai_ev D1 mf_hours 12 [some (.ref 0), some (.int x1363)] [.int c1370.1] (HX c1370.2 T) 0 0 _
  obtain ⟨rfl, rfl⟩ := ai_smP h
  exact ev_end rfl
set_option maxHeartbeats 40000000 in
set_option maxRecDepth 100000 in
theorem Esea_goBack_1 (w : WX) (r : Int32) (w' : WX) (h : Fsea_goBack_1 w = some (r, w')) (T : ai_H) : ai_ev D1 msea_goBack 0 [some (.ref 1)] [] (HX w T) 0 0 (some (.int r), HX w' T) := by
  unfold Fsea_goBack_1 at h
  refine ev_go 2 (pc' := 4) (L' := [some (.ref 1)]) (st' := [.int (a_s1_undos w)]) (h' := (HX w T)) (cs' := 0) (sl' := 0) rfl ?_
  rcases ai_ifE h with ⟨hc, h⟩ | ⟨hc, h⟩
  · refine ev_if_gt (t := 10) rfl rfl (fun _ => ?_) (fun c9 => absurd hc c9)
    refine ev_go 5 (pc' := 17) (L' := [some (.ref 1)]) (st' := [.int ((a_s1_undos w) - 1), .ref 1]) (h' := (HX w T)) (cs' := 0) (sl' := 0) rfl ?_
    refine ev_step rfl rfl rfl (PFX_2_66_1 rfl) ?_
    refine ev_go 5 (pc' := 29) (L' := [some (.ref 1)]) (st' := [.int ((a_s1_undos w) - 1), .ref 19, .ref 1]) (h' := (HX (u_s1_undos w ((a_s1_undos w) - 1)) T)) (cs' := 0) (sl' := 0) rfl ?_
    obtain ⟨v1371, hq, h⟩ := ai_bdE h
    refine ev_iald rfl rfl hq ?_
    refine ev_step rfl rfl rfl (PFX_2_15_1 rfl) ?_
    refine ev_go 1 (pc' := 34) (L' := [some (.ref 1)]) (st' := [.int 1]) (h' := (HX (u_s1_hour (u_s1_undos w ((a_s1_undos w) - 1)) v1371) T)) (cs' := 0) (sl' := 0) rfl ?_
    obtain ⟨rfl, rfl⟩ := ai_smP h
    exact ev_end rfl
  · refine ev_if_gt (t := 10) rfl rfl (fun c9 => absurd c9 hc) (fun _ => ?_)
    refine ev_go 1 (pc' := 9) (L' := [some (.ref 1)]) (st' := [.int (-3)]) (h' := (HX w T)) (cs' := 0) (sl' := 0) rfl ?_
    obtain ⟨rfl, rfl⟩ := ai_smP h
    exact ev_end rfl
set_option maxHeartbeats 40000000 in
set_option maxRecDepth 100000 in
theorem Ef_undo_0 (w : WX) (r : Int32) (w' : WX) (h : Ff_undo_0 w = some (r, w')) (T : ai_H) : ai_ev D1 mf_undo 0 [some (.ref 0)] [] (HX w T) 0 0 (some (.int r), HX w' T) := by
  unfold Ff_undo_0 at h
  refine ev_go 3 (pc' := 5) (L' := [some (.ref 0)]) (st' := [.ref 1, .ref 0]) (h' := (HX w T)) (cs' := 0) (sl' := 0) rfl ?_
  obtain ⟨c1372, hq, h⟩ := ai_bdE h
  refine ev_call (M' := msea_goBack) (L' := [some (.ref 1)]) (rest := [.ref 0]) (rv := some (.int c1372.1)) (h' := (HX c1372.2 T)) rfl (Esea_goBack_1 w _ _ hq T) ?_
  show ai_ev D1 mf_undo 8 [some (.ref 0)] [.int c1372.1, .ref 0] (HX c1372.2 T) 0 0 _
  obtain ⟨c1373, hq, h⟩ := ai_bdE h
  refine ev_call (M' := mf_counted) (L' := [some (.ref 0), some (.int c1372.1)]) (rest := []) (rv := some (.int c1373.1)) (h' := (HX c1373.2 T)) rfl (Ef_counted_0 c1372.1 c1372.2 _ _ hq T) ?_
  show ai_ev D1 mf_undo 11 [some (.ref 0)] [.int c1373.1] (HX c1373.2 T) 0 0 _
  obtain ⟨rfl, rfl⟩ := ai_smP h
  exact ev_end rfl
set_option maxHeartbeats 40000000 in
set_option maxRecDepth 100000 in
theorem Efall_weightOf (x1392 : Int32) (x1393 : Int32) (x1394 : Int32) (x1395 : Int32) (r : Int32) (h : Ffall_weightOf x1392 x1393 x1394 x1395 = some r) (hh : ai_H) : ai_ev D1 mfall_weightOf 0 [some (.int x1392), some (.int x1393), some (.int x1394), some (.int x1395)] [] hh 0 0 (some (.int r), hh) := by
  unfold Ffall_weightOf at h
  refine ev_go 1 (pc' := 1) (L' := [some (.int x1392), some (.int x1393), some (.int x1394), some (.int x1395)]) (st' := [.int x1392]) (h' := hh) (cs' := 0) (sl' := 0) rfl ?_
  rcases ai_ifE h with ⟨hc, h⟩ | ⟨hs1, h⟩
  · refine ev_swi (k := 1) (t := 28) rfl hc (by decide) (by decide) rfl rfl ?_
    refine ev_go 3 (pc' := 31) (L' := [some (.int x1392), some (.int x1393), some (.int x1394), some (.int x1395)]) (st' := [.int (x1393 + x1394)]) (h' := hh) (cs' := 0) (sl' := 0) rfl ?_
    obtain rfl := Option.some.inj h
    exact ev_end rfl
  rcases ai_ifE h with ⟨hc, h⟩ | ⟨hs2, h⟩
  · refine ev_swi (k := 2) (t := 28) rfl hc (by decide) (by decide) rfl rfl ?_
    refine ev_go 3 (pc' := 31) (L' := [some (.int x1392), some (.int x1393), some (.int x1394), some (.int x1395)]) (st' := [.int (x1393 + x1394)]) (h' := hh) (cs' := 0) (sl' := 0) rfl ?_
    obtain rfl := Option.some.inj h
    exact ev_end rfl
  rcases ai_ifE h with ⟨hc, h⟩ | ⟨hs3, h⟩
  · refine ev_swi (k := 3) (t := 32) rfl hc (by decide) (by decide) rfl rfl ?_
    refine ev_go 9 (pc' := 44) (L' := [some (.int x1392), some (.int x1393), some (.int x1394), some (.int x1395)]) (st' := [.int ((x1393 + x1394) + (2 * (if 10 < x1395 then 10 else x1395)))]) (h' := hh) (cs' := 0) (sl' := 0) rfl ?_
    obtain rfl := Option.some.inj h
    exact ev_end rfl
  refine ev_swo (t := 45) (lo := 1) (n := 3) rfl (sw_out 1 3 (fun k hk => by match k, hk with | 0, _ => exact hs1 | 1, _ => exact hs2 | 2, _ => exact hs3 | k + 3, hk => exact absurd hk (by omega))) ⟨rfl, by decide⟩ rfl ?_
  refine ev_go 1 (pc' := 46) (L' := [some (.int x1392), some (.int x1393), some (.int x1394), some (.int x1395)]) (st' := [.int x1393]) (h' := hh) (cs' := 0) (sl' := 0) rfl ?_
  obtain rfl := Option.some.inj h
  exact ev_end rfl
set_option maxHeartbeats 40000000 in
set_option maxRecDepth 100000 in
theorem Efall_roomOf (x1397 : Int32) (x1398 : Int32) (x1399 : Int32) (r : Int32) (h : Ffall_roomOf x1397 x1398 x1399 = some r) (hh : ai_H) : ai_ev D1 mfall_roomOf 0 [some (.int x1397), some (.int x1398), some (.int x1399)] [] hh 0 0 (some (.int r), hh) := by
  unfold Ffall_roomOf at h
  refine ev_go 1 (pc' := 1) (L' := [some (.int x1397), some (.int x1398), some (.int x1399)]) (st' := [.int x1397]) (h' := hh) (cs' := 0) (sl' := 0) rfl ?_
  rcases ai_ifE h with ⟨hc, h⟩ | ⟨hs2, h⟩
  · refine ev_swi (k := 2) (t := 28) rfl hc (by decide) (by decide) rfl rfl ?_
    refine ev_go 3 (pc' := 31) (L' := [some (.int x1397), some (.int x1398), some (.int x1399)]) (st' := [.int (x1398 + 1)]) (h' := hh) (cs' := 0) (sl' := 0) rfl ?_
    obtain rfl := Option.some.inj h
    exact ev_end rfl
  rcases ai_ifE h with ⟨hc, h⟩ | ⟨hs3, h⟩
  · refine ev_swi (k := 3) (t := 28) rfl hc (by decide) (by decide) rfl rfl ?_
    refine ev_go 3 (pc' := 31) (L' := [some (.int x1397), some (.int x1398), some (.int x1399)]) (st' := [.int (x1398 + 1)]) (h' := hh) (cs' := 0) (sl' := 0) rfl ?_
    obtain rfl := Option.some.inj h
    exact ev_end rfl
  rcases ai_ifE h with ⟨hc, h⟩ | ⟨hs4, h⟩
  · refine ev_swi (k := 4) (t := 32) rfl hc (by decide) (by decide) rfl rfl ?_
    refine ev_go 7 (pc' := 41) (L' := [some (.int x1397), some (.int x1398), some (.int x1399)]) (st' := [.int (x1398 + (if 5 < (x1399 / 4) then 5 else (x1399 / 4)))]) (h' := hh) (cs' := 0) (sl' := 0) rfl ?_
    obtain rfl := Option.some.inj h
    exact ev_end rfl
  refine ev_swo (t := 42) (lo := 2) (n := 3) rfl (sw_out 2 3 (fun k hk => by match k, hk with | 0, _ => exact hs2 | 1, _ => exact hs3 | 2, _ => exact hs4 | k + 3, hk => exact absurd hk (by omega))) ⟨rfl, by decide⟩ rfl ?_
  refine ev_go 1 (pc' := 43) (L' := [some (.int x1397), some (.int x1398), some (.int x1399)]) (st' := [.int x1398]) (h' := hh) (cs' := 0) (sl' := 0) rfl ?_
  obtain rfl := Option.some.inj h
  exact ev_end rfl
set_option maxHeartbeats 40000000 in
set_option maxRecDepth 100000 in
theorem Efall_forceOf (x1401 : Int32) (x1402 : Int32) (r : Int32) (h : Ffall_forceOf x1401 x1402 = some r) (hh : ai_H) : ai_ev D1 mfall_forceOf 0 [some (.int x1401), some (.int x1402)] [] hh 0 0 (some (.int r), hh) := by
  unfold Ffall_forceOf at h
  refine ev_go 1 (pc' := 1) (L' := [some (.int x1401), some (.int x1402)]) (st' := [.int x1401]) (h' := hh) (cs' := 0) (sl' := 0) rfl ?_
  rcases ai_ifE h with ⟨hc, h⟩ | ⟨hs2, h⟩
  · refine ev_swi (k := 2) (t := 32) rfl hc (by decide) (by decide) rfl rfl ?_
    refine ev_go 3 (pc' := 35) (L' := [some (.int x1401), some (.int x1402)]) (st' := [.int (x1402 / 2)]) (h' := hh) (cs' := 0) (sl' := 0) rfl ?_
    obtain rfl := Option.some.inj h
    exact ev_end rfl
  rcases ai_ifE h with ⟨hc, h⟩ | ⟨hs3, h⟩
  · refine ev_swi (k := 3) (t := 36) rfl hc (by decide) (by decide) rfl rfl ?_
    refine ev_go 1 (pc' := 38) (L' := [some (.int x1401), some (.int x1402)]) (st' := [.int 100]) (h' := hh) (cs' := 0) (sl' := 0) rfl ?_
    obtain rfl := Option.some.inj h
    exact ev_end rfl
  rcases ai_ifE h with ⟨hc, h⟩ | ⟨hs4, h⟩
  · refine ev_swi (k := 4) (t := 41) rfl hc (by decide) (by decide) rfl rfl ?_
    refine ev_go 1 (pc' := 42) (L' := [some (.int x1401), some (.int x1402)]) (st' := [.int x1402]) (h' := hh) (cs' := 0) (sl' := 0) rfl ?_
    obtain rfl := Option.some.inj h
    exact ev_end rfl
  rcases ai_ifE h with ⟨hc, h⟩ | ⟨hs5, h⟩
  · refine ev_swi (k := 5) (t := 39) rfl hc (by decide) (by decide) rfl rfl ?_
    refine ev_go 1 (pc' := 40) (L' := [some (.int x1401), some (.int x1402)]) (st' := [.int 0]) (h' := hh) (cs' := 0) (sl' := 0) rfl ?_
    obtain rfl := Option.some.inj h
    exact ev_end rfl
  refine ev_swo (t := 41) (lo := 2) (n := 4) rfl (sw_out 2 4 (fun k hk => by match k, hk with | 0, _ => exact hs2 | 1, _ => exact hs3 | 2, _ => exact hs4 | 3, _ => exact hs5 | k + 4, hk => exact absurd hk (by omega))) ⟨rfl, by decide⟩ rfl ?_
  refine ev_go 1 (pc' := 42) (L' := [some (.int x1401), some (.int x1402)]) (st' := [.int x1402]) (h' := hh) (cs' := 0) (sl' := 0) rfl ?_
  obtain rfl := Option.some.inj h
  exact ev_end rfl
set_option maxHeartbeats 40000000 in
set_option maxRecDepth 100000 in
theorem Efall_shape_81 (x1387 : Int32) (x1388 : Int32) (x1389 : Int32) (x1390 : Int32) (x1391 : Int32) (w : WX) (w' : WX) (h : Ffall_shape_81 x1387 x1388 x1389 x1390 x1391 w = some w') (T : ai_H) : ai_ev D1 mfall_shape 0 [some (.ref 81), some (.int x1387), some (.int x1388), some (.int x1389), some (.int x1390), some (.int x1391)] [] (HX w T) 0 0 (none, HX w' T) := by
  unfold Ffall_shape_81 at h
  refine ev_go 5 (pc' := 7) (L' := [some (.ref 81), some (.int x1387), some (.int x1388), some (.int x1389), some (.int x1390), some (.int x1391)]) (st' := [.int x1391, .int x1390, .int x1388, .int x1387, .ref 81]) (h' := (HX w T)) (cs' := 0) (sl' := 0) rfl ?_
  obtain ⟨c1396, hq, h⟩ := ai_bdE h
  refine ev_call (M' := mfall_weightOf) (L' := [some (.int x1387), some (.int x1388), some (.int x1390), some (.int x1391)]) (rest := [.ref 81]) (rv := some (.int c1396)) (h' := (HX w T)) rfl (Efall_weightOf x1387 x1388 x1390 x1391 _ hq (HX w T)) ?_
  show ai_ev D1 mfall_shape 10 [some (.ref 81), some (.int x1387), some (.int x1388), some (.int x1389), some (.int x1390), some (.int x1391)] [.int c1396, .ref 81] (HX w T) 0 0 _
  refine ev_step rfl rfl rfl (PFX_0_9_81 rfl) ?_
  refine ev_go 4 (pc' := 18) (L' := [some (.ref 81), some (.int x1387), some (.int x1388), some (.int x1389), some (.int x1390), some (.int x1391)]) (st' := [.int x1391, .int x1389, .int x1387, .ref 81]) (h' := (HX (u_fall_weighs w c1396) T)) (cs' := 0) (sl' := 0) rfl ?_
  obtain ⟨c1400, hq, h⟩ := ai_bdE h
  refine ev_call (M' := mfall_roomOf) (L' := [some (.int x1387), some (.int x1389), some (.int x1391)]) (rest := [.ref 81]) (rv := some (.int c1400)) (h' := (HX (u_fall_weighs w c1396) T)) rfl (Efall_roomOf x1387 x1389 x1391 _ hq (HX (u_fall_weighs w c1396) T)) ?_
  show ai_ev D1 mfall_shape 21 [some (.ref 81), some (.int x1387), some (.int x1388), some (.int x1389), some (.int x1390), some (.int x1391)] [.int c1400, .ref 81] (HX (u_fall_weighs w c1396) T) 0 0 _
  refine ev_step rfl rfl rfl (PFX_0_15_81 rfl) ?_
  refine ev_go 4 (pc' := 30) (L' := [some (.ref 81), some (.int x1387), some (.int x1388), some (.int x1389), some (.int x1390), some (.int x1391)]) (st' := [.int c1396, .int x1387, .ref 81]) (h' := (HX (u_fall_room (u_fall_weighs w c1396) c1400) T)) (cs' := 0) (sl' := 0) rfl ?_
  obtain ⟨c1403, hq, h⟩ := ai_bdE h
  refine ev_call (M' := mfall_forceOf) (L' := [some (.int x1387), some (.int c1396)]) (rest := [.ref 81]) (rv := some (.int c1403)) (h' := (HX (u_fall_room (u_fall_weighs w c1396) c1400) T)) rfl (Efall_forceOf x1387 c1396 _ hq (HX (u_fall_room (u_fall_weighs w c1396) c1400) T)) ?_
  show ai_ev D1 mfall_shape 33 [some (.ref 81), some (.int x1387), some (.int x1388), some (.int x1389), some (.int x1390), some (.int x1391)] [.int c1403, .ref 81] (HX (u_fall_room (u_fall_weighs w c1396) c1400) T) 0 0 _
  refine ev_step rfl rfl rfl (PFX_0_18_81 rfl) ?_
  obtain rfl := Option.some.inj h
  exact ev_end rfl
set_option maxHeartbeats 40000000 in
set_option maxRecDepth 100000 in
theorem Ef_shapeWithBallast_0 (x1381 : Int32) (x1382 : Int32) (x1383 : Int32) (w : WX) (w' : WX) (h : Ff_shapeWithBallast_0 x1381 x1382 x1383 w = some w') (T : ai_H) : ai_ev D1 mf_shapeWithBallast 0 [some (.ref 0), some (.int x1381), some (.int x1382), some (.int x1383), none] [] (HX w T) 0 0 (none, HX w' T) := by
  unfold Ff_shapeWithBallast_0 at h
  refine ev_go 9 (pc' := 19) (L' := [some (.ref 0), some (.int x1381), some (.int x1382), some (.int x1383), some (.ref 7)]) (st' := [.int x1381, .ref 8, .ref 81]) (h' := (HX w T)) (cs' := 0) (sl' := 0) rfl ?_
  obtain ⟨v1384, hq, h⟩ := ai_bdE h
  refine ev_iald rfl rfl hq ?_
  refine ev_go 3 (pc' := 26) (L' := [some (.ref 0), some (.int x1381), some (.int x1382), some (.int x1383), some (.ref 7)]) (st' := [.int x1381, .ref 9, .int v1384, .ref 81]) (h' := (HX w T)) (cs' := 0) (sl' := 0) rfl ?_
  obtain ⟨v1385, hq, h⟩ := ai_bdE h
  refine ev_iald rfl rfl hq ?_
  refine ev_go 3 (pc' := 33) (L' := [some (.ref 0), some (.int x1381), some (.int x1382), some (.int x1383), some (.ref 7)]) (st' := [.int x1381, .ref 10, .int v1385, .int v1384, .ref 81]) (h' := (HX w T)) (cs' := 0) (sl' := 0) rfl ?_
  obtain ⟨v1386, hq, h⟩ := ai_bdE h
  refine ev_iald rfl rfl hq ?_
  refine ev_go 2 (pc' := 36) (L' := [some (.ref 0), some (.int x1381), some (.int x1382), some (.int x1383), some (.ref 7)]) (st' := [.int x1383, .int x1382, .int v1386, .int v1385, .int v1384, .ref 81]) (h' := (HX w T)) (cs' := 0) (sl' := 0) rfl ?_
  obtain ⟨c1404, hq, h⟩ := ai_bdE h
  refine ev_call (M' := mfall_shape) (L' := [some (.ref 81), some (.int v1384), some (.int v1385), some (.int v1386), some (.int x1382), some (.int x1383)]) (rest := []) (rv := none) (h' := (HX c1404 T)) rfl (Efall_shape_81 v1384 v1385 v1386 x1382 x1383 w _ hq T) ?_
  show ai_ev D1 mf_shapeWithBallast 39 [some (.ref 0), some (.int x1381), some (.int x1382), some (.int x1383), some (.ref 7)] [] (HX c1404 T) 0 0 _
  obtain rfl := Option.some.inj h
  exact ev_end rfl
set_option maxHeartbeats 40000000 in
set_option maxRecDepth 100000 in
theorem Ef_shapeNow_0 (x1379 : Int32) (w : WX) (w' : WX) (h : Ff_shapeNow_0 x1379 w = some w') (T : ai_H) : ai_ev D1 mf_shapeNow 0 [some (.ref 0), some (.int x1379)] [] (HX w T) 0 0 (none, HX w' T) := by
  unfold Ff_shapeNow_0 at h
  refine ev_go 7 (pc' := 13) (L' := [some (.ref 0), some (.int x1379)]) (st' := [.int x1379, .ref 11, .int x1379, .ref 0]) (h' := (HX w T)) (cs' := 0) (sl' := 0) rfl ?_
  obtain ⟨v1380, hq, h⟩ := ai_bdE h
  refine ev_iald rfl rfl hq ?_
  refine ev_go 3 (pc' := 21) (L' := [some (.ref 0), some (.int x1379)]) (st' := [.int (a_s1_hour w), .int v1380, .int x1379, .ref 0]) (h' := (HX w T)) (cs' := 0) (sl' := 0) rfl ?_
  obtain ⟨c1405, hq, h⟩ := ai_bdE h
  refine ev_call (M' := mf_shapeWithBallast) (L' := [some (.ref 0), some (.int x1379), some (.int v1380), some (.int (a_s1_hour w)), none]) (rest := []) (rv := none) (h' := (HX c1405 T)) rfl (Ef_shapeWithBallast_0 x1379 v1380 (a_s1_hour w) w _ hq T) ?_
  show ai_ev D1 mf_shapeNow 24 [some (.ref 0), some (.int x1379)] [] (HX c1405 T) 0 0 _
  obtain rfl := Option.some.inj h
  exact ev_end rfl
set_option maxHeartbeats 40000000 in
set_option maxRecDepth 100000 in
theorem Ef_of_0 (x1374 : Int32) (x1375 : Int32) (w : WX) (r : Int32) (w' : WX) (h : Ff_of_0 x1374 x1375 w = some (r, w')) (T : ai_H) : ai_ev D1 mf_of 0 [some (.ref 0), some (.int x1374), some (.int x1375)] [] (HX w T) 0 0 (some (.int r), HX w' T) := by
  unfold Ff_of_0 at h
  refine ev_go 4 (pc' := 8) (L' := [some (.ref 0), some (.int x1374), some (.int x1375)]) (st' := [.int x1374, .ref 7]) (h' := (HX w T)) (cs' := 0) (sl' := 0) rfl ?_
  obtain ⟨c1376, hq, h⟩ := ai_bdE h
  refine ev_call (M' := mthg_has) (L' := [some (.ref 7), some (.int x1374)]) (rest := []) (rv := some (.int c1376.1)) (h' := (HX c1376.2 T)) rfl (Ethg_has_7 x1374 w _ _ hq T) ?_
  show ai_ev D1 mf_of 11 [some (.ref 0), some (.int x1374), some (.int x1375)] [.int c1376.1] (HX c1376.2 T) 0 0 _
  rcases ai_ifE h with ⟨hc, h⟩ | ⟨hc, h⟩
  · refine ev_if_eq (t := 23) rfl rfl (fun _ => ?_) (fun c9 => absurd hc c9)
    refine ev_go 2 (pc' := 26) (L' := [some (.ref 0), some (.int x1374), some (.int x1375)]) (st' := [.int (-2), .ref 0]) (h' := (HX c1376.2 T)) (cs' := 0) (sl' := 0) rfl ?_
    obtain ⟨c1377, hq, h⟩ := ai_bdE h
    refine ev_call (M' := mf_bad) (L' := [some (.ref 0), some (.int (-2))]) (rest := []) (rv := some (.int c1377.1)) (h' := (HX c1377.2 T)) rfl (Ef_bad_0 (-2) c1376.2 _ _ hq T) ?_
    show ai_ev D1 mf_of 29 [some (.ref 0), some (.int x1374), some (.int x1375)] [.int c1377.1] (HX c1377.2 T) 0 0 _
    obtain ⟨rfl, rfl⟩ := ai_smP h
    exact ev_end rfl
  · refine ev_if_eq (t := 23) rfl rfl (fun c9 => absurd c9 hc) (fun _ => ?_)
    refine ev_go 3 (pc' := 17) (L' := [some (.ref 0), some (.int x1374), some (.int x1375)]) (st' := [.int 2, .int 0, .int x1375]) (h' := (HX c1376.2 T)) (cs' := 0) (sl' := 0) rfl ?_
    obtain ⟨c1378, hq, h⟩ := ai_bdE h
    refine ev_call (M' := mf_within) (L' := [some (.int x1375), some (.int 0), some (.int 2)]) (rest := []) (rv := some (.int c1378)) (h' := (HX c1376.2 T)) rfl (Ef_within x1375 0 2 _ hq (HX c1376.2 T)) ?_
    show ai_ev D1 mf_of 20 [some (.ref 0), some (.int x1374), some (.int x1375)] [.int c1378] (HX c1376.2 T) 0 0 _
    rcases ai_ifE h with ⟨hc, h⟩ | ⟨hc, h⟩
    · refine ev_if_ne (t := 30) rfl rfl (fun c9 => absurd hc c9) (fun _ => ?_)
      refine ev_go 2 (pc' := 26) (L' := [some (.ref 0), some (.int x1374), some (.int x1375)]) (st' := [.int (-2), .ref 0]) (h' := (HX c1376.2 T)) (cs' := 0) (sl' := 0) rfl ?_
      obtain ⟨c1408, hq, h⟩ := ai_bdE h
      refine ev_call (M' := mf_bad) (L' := [some (.ref 0), some (.int (-2))]) (rest := []) (rv := some (.int c1408.1)) (h' := (HX c1408.2 T)) rfl (Ef_bad_0 (-2) c1376.2 _ _ hq T) ?_
      show ai_ev D1 mf_of 29 [some (.ref 0), some (.int x1374), some (.int x1375)] [.int c1408.1] (HX c1408.2 T) 0 0 _
      obtain ⟨rfl, rfl⟩ := ai_smP h
      exact ev_end rfl
    · refine ev_if_ne (t := 30) rfl rfl (fun _ => ?_) (fun c9 => absurd c9 hc)
      refine ev_go 1 (pc' := 31) (L' := [some (.ref 0), some (.int x1374), some (.int x1375)]) (st' := [.int x1375]) (h' := (HX c1376.2 T)) (cs' := 0) (sl' := 0) rfl ?_
      rcases ai_ifE h with ⟨hc, h⟩ | ⟨hc, h⟩
      · refine ev_if_ne (t := 47) rfl rfl (fun c9 => absurd hc c9) (fun _ => ?_)
        refine ev_go 5 (pc' := 45) (L' := [some (.ref 0), some (.int x1374), some (.int x1375)]) (st' := [.int x1374, .ref 8]) (h' := (HX c1376.2 T)) (cs' := 0) (sl' := 0) rfl ?_
        obtain ⟨v1407, hq, h⟩ := ai_bdE h
        refine ev_iald rfl rfl hq ?_
        obtain ⟨rfl, rfl⟩ := ai_smP h
        exact ev_end rfl
      · refine ev_if_ne (t := 47) rfl rfl (fun _ => ?_) (fun c9 => absurd c9 hc)
        refine ev_go 2 (pc' := 49) (L' := [some (.ref 0), some (.int x1374), some (.int x1375)]) (st' := [.int x1374, .ref 0]) (h' := (HX c1376.2 T)) (cs' := 0) (sl' := 0) rfl ?_
        obtain ⟨c1406, hq, h⟩ := ai_bdE h
        refine ev_call (M' := mf_shapeNow) (L' := [some (.ref 0), some (.int x1374)]) (rest := []) (rv := none) (h' := (HX c1406 T)) rfl (Ef_shapeNow_0 x1374 c1376.2 _ hq T) ?_
        show ai_ev D1 mf_of 52 [some (.ref 0), some (.int x1374), some (.int x1375)] [] (HX c1406 T) 0 0 _
        refine ev_go 2 (pc' := 54) (L' := [some (.ref 0), some (.int x1374), some (.int x1375)]) (st' := [.int 1, .int x1375]) (h' := (HX c1406 T)) (cs' := 0) (sl' := 0) rfl ?_
        rcases ai_ifE h with ⟨hc, h⟩ | ⟨hc, h⟩
        · refine ev_ic_ne (t := 67) rfl rfl (fun c9 => absurd hc c9) (fun _ => ?_)
          refine ev_go 4 (pc' := 74) (L' := [some (.ref 0), some (.int x1374), some (.int x1375)]) (st' := [.int (a_fall_weighs c1406)]) (h' := (HX c1406 T)) (cs' := 0) (sl' := 0) rfl ?_
          obtain ⟨rfl, rfl⟩ := ai_smP h
          exact ev_end rfl
        · refine ev_ic_ne (t := 67) rfl rfl (fun _ => ?_) (fun c9 => absurd c9 hc)
          refine ev_go 3 (pc' := 74) (L' := [some (.ref 0), some (.int x1374), some (.int x1375)]) (st' := [.int (a_fall_room c1406)]) (h' := (HX c1406 T)) (cs' := 0) (sl' := 0) rfl ?_
          obtain ⟨rfl, rfl⟩ := ai_smP h
          exact ev_end rfl
set_option maxHeartbeats 40000000 in
set_option maxRecDepth 100000 in
theorem Esea_thickAt_1 (x1414 : Int32) (x1415 : Int32) (x1416 : Int32) (w : WX) (r : Int32) (w' : WX) (h : Fsea_thickAt_1 x1414 x1415 x1416 w = some (r, w')) (T : ai_H) : ai_ev D1 msea_thickAt 0 [some (.ref 1), some (.int x1414), some (.int x1415), some (.int x1416)] [] (HX w T) 0 0 (some (.int r), HX w' T) := by
  unfold Fsea_thickAt_1 at h
  refine ev_go 8 (pc' := 11) (L' := [some (.ref 1), some (.int x1414), some (.int x1415), some (.int x1416)]) (st' := [.int ((x1414 * 6) + x1415), .ref 5, .int 0]) (h' := (HX w T)) (cs' := 0) (sl' := 0) rfl ?_
  obtain ⟨v1417, hq, h⟩ := ai_bdE h
  refine ev_iald rfl rfl hq ?_
  refine ev_go 9 (pc' := 25) (L' := [some (.ref 1), some (.int x1414), some (.int x1415), some (.int x1416)]) (st' := [.int ((x1414 * 6) + (x1416 - x1416 / 6 * 6)), .ref 4, .int v1417, .int 0]) (h' := (HX w T)) (cs' := 0) (sl' := 0) rfl ?_
  obtain ⟨v1418, hq, h⟩ := ai_bdE h
  refine ev_iald rfl rfl hq ?_
  refine ev_go 2 (pc' := 30) (L' := [some (.ref 1), some (.int x1414), some (.int x1415), some (.int x1416)]) (st' := [.int (if 0 < (v1417 + v1418) then (v1417 + v1418) else 0)]) (h' := (HX w T)) (cs' := 0) (sl' := 0) rfl ?_
  obtain ⟨rfl, rfl⟩ := ai_smP h
  exact ev_end rfl
set_option maxHeartbeats 40000000 in
set_option maxRecDepth 100000 in
theorem Ef_deep_0 (x1409 : Int32) (x1410 : Int32) (w : WX) (r : Int32) (w' : WX) (h : Ff_deep_0 x1409 x1410 w = some (r, w')) (T : ai_H) : ai_ev D1 mf_deep 0 [some (.ref 0), some (.int x1409), some (.int x1410)] [] (HX w T) 0 0 (some (.int r), HX w' T) := by
  unfold Ff_deep_0 at h
  refine ev_go 1 (pc' := 1) (L' := [some (.ref 0), some (.int x1409), some (.int x1410)]) (st' := [.int x1409]) (h' := (HX w T)) (cs' := 0) (sl' := 0) rfl ?_
  obtain ⟨c1411, hq, h⟩ := ai_bdE h
  refine ev_call (M' := mf_isLayer) (L' := [some (.int x1409)]) (rest := []) (rv := some (.int c1411)) (h' := (HX w T)) rfl (Ef_isLayer x1409 _ hq (HX w T)) ?_
  show ai_ev D1 mf_deep 4 [some (.ref 0), some (.int x1409), some (.int x1410)] [.int c1411] (HX w T) 0 0 _
  rcases ai_ifE h with ⟨hc, h⟩ | ⟨hc, h⟩
  · refine ev_if_eq (t := 18) rfl rfl (fun _ => ?_) (fun c9 => absurd hc c9)
    refine ev_go 2 (pc' := 21) (L' := [some (.ref 0), some (.int x1409), some (.int x1410)]) (st' := [.int (-2), .ref 0]) (h' := (HX w T)) (cs' := 0) (sl' := 0) rfl ?_
    obtain ⟨c1412, hq, h⟩ := ai_bdE h
    refine ev_call (M' := mf_bad) (L' := [some (.ref 0), some (.int (-2))]) (rest := []) (rv := some (.int c1412.1)) (h' := (HX c1412.2 T)) rfl (Ef_bad_0 (-2) w _ _ hq T) ?_
    show ai_ev D1 mf_deep 24 [some (.ref 0), some (.int x1409), some (.int x1410)] [.int c1412.1] (HX c1412.2 T) 0 0 _
    obtain ⟨rfl, rfl⟩ := ai_smP h
    exact ev_end rfl
  · refine ev_if_eq (t := 18) rfl rfl (fun c9 => absurd c9 hc) (fun _ => ?_)
    refine ev_go 3 (pc' := 12) (L' := [some (.ref 0), some (.int x1409), some (.int x1410)]) (st' := [.int x1410, .ref 1]) (h' := (HX w T)) (cs' := 0) (sl' := 0) rfl ?_
    obtain ⟨c1413, hq, h⟩ := ai_bdE h
    refine ev_call (M' := msea_hasCell) (L' := [some (.ref 1), some (.int x1410)]) (rest := []) (rv := some (.int c1413.1)) (h' := (HX c1413.2 T)) rfl (Esea_hasCell_1 x1410 w _ _ hq T) ?_
    show ai_ev D1 mf_deep 15 [some (.ref 0), some (.int x1409), some (.int x1410)] [.int c1413.1] (HX c1413.2 T) 0 0 _
    rcases ai_ifE h with ⟨hc, h⟩ | ⟨hc, h⟩
    · refine ev_if_ne (t := 25) rfl rfl (fun c9 => absurd hc c9) (fun _ => ?_)
      refine ev_go 2 (pc' := 21) (L' := [some (.ref 0), some (.int x1409), some (.int x1410)]) (st' := [.int (-2), .ref 0]) (h' := (HX c1413.2 T)) (cs' := 0) (sl' := 0) rfl ?_
      obtain ⟨c1420, hq, h⟩ := ai_bdE h
      refine ev_call (M' := mf_bad) (L' := [some (.ref 0), some (.int (-2))]) (rest := []) (rv := some (.int c1420.1)) (h' := (HX c1420.2 T)) rfl (Ef_bad_0 (-2) c1413.2 _ _ hq T) ?_
      show ai_ev D1 mf_deep 24 [some (.ref 0), some (.int x1409), some (.int x1410)] [.int c1420.1] (HX c1420.2 T) 0 0 _
      obtain ⟨rfl, rfl⟩ := ai_smP h
      exact ev_end rfl
    · refine ev_if_ne (t := 25) rfl rfl (fun _ => ?_) (fun c9 => absurd c9 hc)
      refine ev_go 7 (pc' := 38) (L' := [some (.ref 0), some (.int x1409), some (.int x1410)]) (st' := [.int (a_s1_hour c1413.2), .int x1410, .int x1409, .ref 1]) (h' := (HX c1413.2 T)) (cs' := 0) (sl' := 0) rfl ?_
      obtain ⟨c1419, hq, h⟩ := ai_bdE h
      refine ev_call (M' := msea_thickAt) (L' := [some (.ref 1), some (.int x1409), some (.int x1410), some (.int (a_s1_hour c1413.2))]) (rest := []) (rv := some (.int c1419.1)) (h' := (HX c1419.2 T)) rfl (Esea_thickAt_1 x1409 x1410 (a_s1_hour c1413.2) c1413.2 _ _ hq T) ?_
      show ai_ev D1 mf_deep 41 [some (.ref 0), some (.int x1409), some (.int x1410)] [.int c1419.1] (HX c1419.2 T) 0 0 _
      obtain ⟨rfl, rfl⟩ := ai_smP h
      exact ev_end rfl
set_option maxHeartbeats 40000000 in
set_option maxRecDepth 100000 in
theorem EGarr_fill_82 : ∀ n : Nat, (∀ (y1437 : Int32) (y1438 : Int32) (y1439 : Int32) (w : WX) (w' : WX), Garr_fill_82 n 0 y1437 y1438 y1439 w = some w' → ∀ (T : ai_H), ai_ev D1 marr_fill 5 [some (.ref 82), some (.int y1437), some (.int y1438), some (.int y1439)] [] (HX w T) 0 0 (none, HX w' T)) := by
  intro n
  induction n with
  | zero =>
    exact (fun _ _ _ _ _ h => by cases h)
  | succ n ih0 =>
    intro y1437 y1438 y1439 w w' h T
    simp only [Garr_fill_82] at h
    refine ev_go 2 (pc' := 7) (L' := [some (.ref 82), some (.int y1437), some (.int y1438), some (.int y1439)]) (st' := [.int y1439, .int y1438]) (h' := (HX w T)) (cs' := 0) (sl' := 0) rfl ?_
    rcases ai_ifE h with ⟨hc, h⟩ | ⟨hc, h⟩
    · refine ev_ic_ge (t := 20) rfl rfl (fun _ => ?_) (fun c9 => absurd hc c9)
      obtain rfl := Option.some.inj h
      exact ev_end rfl
    · refine ev_ic_ge (t := 20) rfl rfl (fun c9 => absurd c9 hc) (fun _ => ?_)
      refine ev_go 3 (pc' := 13) (L' := [some (.ref 82), some (.int y1437), some (.int y1438), some (.int y1439)]) (st' := [.int y1437, .int y1438, .ref 82]) (h' := (HX w T)) (cs' := 0) (sl' := 0) rfl ?_
      obtain ⟨q1440, hq, h⟩ := ai_bdE h
      refine ev_iast rfl rfl hq ?_
      rw [HXs_82]
      refine ev_go 2 (pc' := 5) (L' := [some (.ref 82), some (.int y1437), some (.int (y1438 + 1)), some (.int y1439)]) (st' := []) (h' := (HX (u_fall_passedThick w q1440) T)) (cs' := 0) (sl' := 0) rfl ?_
      exact ih0 _ _ _ _ _ h T
set_option maxHeartbeats 40000000 in
set_option maxRecDepth 100000 in
theorem Earr_fill_82 (n : Nat) (x1436 : Int32) (w : WX) (w' : WX) (h : Farr_fill_82 n x1436 w = some w') (T : ai_H) : ai_ev D1 marr_fill 0 [some (.ref 82), some (.int x1436), none, none] [] (HX w T) 0 0 (none, HX w' T) := by
  unfold Farr_fill_82 at h
  have ih0 := EGarr_fill_82 n
  refine ev_go 5 (pc' := 5) (L' := [some (.ref 82), some (.int x1436), some (.int 0), some (.int (Int32.ofNat (List.length (a_fall_passedThick w))))]) (st' := []) (h' := (HX w T)) (cs' := 0) (sl' := 0) rfl ?_
  exact ih0 _ _ _ _ _ h T
set_option maxHeartbeats 40000000 in
set_option maxRecDepth 100000 in
theorem Efall_forget_81 (n : Nat) (w : WX) (w' : WX) (h : Ffall_forget_81 n w = some w') (T : ai_H) : ai_ev D1 mfall_forget 0 [some (.ref 81)] [] (HX w T) 0 0 (none, HX w' T) := by
  unfold Ffall_forget_81 at h
  refine ev_go 2 (pc' := 2) (L' := [some (.ref 81)]) (st' := [.int 0, .ref 81]) (h' := (HX w T)) (cs' := 0) (sl' := 0) rfl ?_
  refine ev_step rfl rfl rfl (PFX_0_24_81 rfl) ?_
  refine ev_go 2 (pc' := 7) (L' := [some (.ref 81)]) (st' := [.int 0, .ref 81]) (h' := (HX (u_fall_down w 0) T)) (cs' := 0) (sl' := 0) rfl ?_
  refine ev_step rfl rfl rfl (PFX_0_27_81 rfl) ?_
  refine ev_go 2 (pc' := 12) (L' := [some (.ref 81)]) (st' := [.int (-1), .ref 81]) (h' := (HX (u_fall_broken (u_fall_down w 0) 0) T)) (cs' := 0) (sl' := 0) rfl ?_
  refine ev_step rfl rfl rfl (PFX_0_30_81 rfl) ?_
  refine ev_go 3 (pc' := 20) (L' := [some (.ref 81)]) (st' := [.int 0, .ref 82]) (h' := (HX (u_fall_stopper (u_fall_broken (u_fall_down w 0) 0) (-1)) T)) (cs' := 0) (sl' := 0) rfl ?_
  obtain ⟨c1441, hq, h⟩ := ai_bdE h
  refine ev_call (M' := marr_fill) (L' := [some (.ref 82), some (.int 0), none, none]) (rest := []) (rv := none) (h' := (HX c1441 T)) rfl (Earr_fill_82 n 0 (u_fall_stopper (u_fall_broken (u_fall_down w 0) 0) (-1)) _ hq T) ?_
  show ai_ev D1 mfall_forget 23 [some (.ref 81)] [] (HX c1441 T) 0 0 _
  obtain rfl := Option.some.inj h
  exact ev_end rfl
set_option maxHeartbeats 40000000 in
set_option maxRecDepth 100000 in
theorem Efall_getsThrough_81_1 (x1451 : Int32) (x1452 : Int32) (w : WX) (r : Int32) (w' : WX) (h : Ffall_getsThrough_81_1 x1451 x1452 w = some (r, w')) (T : ai_H) : ai_ev D1 mfall_getsThrough 0 [some (.ref 81), some (.ref 1), some (.int x1451), some (.int x1452)] [] (HX w T) 0 0 (some (.int r), HX w' T) := by
  unfold Ffall_getsThrough_81_1 at h
  refine ev_go 6 (pc' := 6) (L' := [some (.ref 81), some (.ref 1), some (.int x1451), some (.int x1452)]) (st' := [.int 1, .int ((x1452 >>> (x1451 &&& 31)) &&& 1)]) (h' := (HX w T)) (cs' := 0) (sl' := 0) rfl ?_
  rcases ai_ifE h with ⟨hc, h⟩ | ⟨hc, h⟩
  · refine ev_ic_ne (t := 11) rfl rfl (fun c9 => absurd hc c9) (fun _ => ?_)
    refine ev_go 1 (pc' := 10) (L' := [some (.ref 81), some (.ref 1), some (.int x1451), some (.int x1452)]) (st' := [.int 1]) (h' := (HX w T)) (cs' := 0) (sl' := 0) rfl ?_
    obtain ⟨rfl, rfl⟩ := ai_smP h
    exact ev_end rfl
  · refine ev_ic_ne (t := 11) rfl rfl (fun _ => ?_) (fun c9 => absurd c9 hc)
    refine ev_go 3 (pc' := 16) (L' := [some (.ref 81), some (.ref 1), some (.int x1451), some (.int x1452)]) (st' := [.int x1451, .ref 6]) (h' := (HX w T)) (cs' := 0) (sl' := 0) rfl ?_
    obtain ⟨v1453, hq, h⟩ := ai_bdE h
    refine ev_iald rfl rfl hq ?_
    refine ev_go 2 (pc' := 21) (L' := [some (.ref 81), some (.ref 1), some (.int x1451), some (.int x1452)]) (st' := [.int (a_fall_force w), .int v1453]) (h' := (HX w T)) (cs' := 0) (sl' := 0) rfl ?_
    rcases ai_ifE h with ⟨hc, h⟩ | ⟨hc, h⟩
    · refine ev_ic_lt (t := 26) rfl rfl (fun _ => ?_) (fun c9 => absurd hc c9)
      refine ev_go 7 (pc' := 35) (L' := [some (.ref 81), some (.ref 1), some (.int x1451), some (.int x1452)]) (st' := [.int ((a_fall_broken w) ||| (1 <<< (x1451 &&& 31))), .ref 81]) (h' := (HX w T)) (cs' := 0) (sl' := 0) rfl ?_
      refine ev_step rfl rfl rfl (PFX_0_27_81 rfl) ?_
      refine ev_go 1 (pc' := 39) (L' := [some (.ref 81), some (.ref 1), some (.int x1451), some (.int x1452)]) (st' := [.int 1]) (h' := (HX (u_fall_broken w ((a_fall_broken w) ||| (1 <<< (x1451 &&& 31)))) T)) (cs' := 0) (sl' := 0) rfl ?_
      obtain ⟨rfl, rfl⟩ := ai_smP h
      exact ev_end rfl
    · refine ev_ic_lt (t := 26) rfl rfl (fun c9 => absurd c9 hc) (fun _ => ?_)
      refine ev_go 1 (pc' := 25) (L' := [some (.ref 81), some (.ref 1), some (.int x1451), some (.int x1452)]) (st' := [.int 0]) (h' := (HX w T)) (cs' := 0) (sl' := 0) rfl ?_
      obtain ⟨rfl, rfl⟩ := ai_smP h
      exact ev_end rfl
set_option maxHeartbeats 40000000 in
set_option maxRecDepth 100000 in
theorem EGfall_letGo_81_1 : ∀ n : Nat, (∀ (y1443 : Int32) (y1444 : Int32) (y1445 : Int32) (y1446 : Int32) (y1447 : Int32) (w : WX) (w' : WX), Gfall_letGo_81_1 n 0 y1443 y1444 y1445 y1446 y1447 w = some w' → ∀ (T : ai_H) (o7 : Option Value), ai_ev D1 mfall_letGo 10 [some (.ref 81), some (.ref 1), some (.int y1443), some (.int y1444), some (.int y1445), some (.int y1446), some (.int y1447), o7] [] (HX w T) 0 0 (none, HX w' T)) := by
  intro n
  induction n with
  | zero =>
    exact (fun _ _ _ _ _ _ _ h => by cases h)
  | succ n ih0 =>
    intro y1443 y1444 y1445 y1446 y1447 w w' h T o7
    simp only [Gfall_letGo_81_1] at h
    refine ev_go 2 (pc' := 13) (L' := [some (.ref 81), some (.ref 1), some (.int y1443), some (.int y1444), some (.int y1445), some (.int y1446), some (.int y1447), o7]) (st' := [.int 4, .int y1447]) (h' := (HX w T)) (cs' := 0) (sl' := 0) rfl ?_
    rcases ai_ifE h with ⟨hc, h⟩ | ⟨hc, h⟩
    · refine ev_ic_ge (t := 125) rfl rfl (fun _ => ?_) (fun c9 => absurd hc c9)
      refine ev_go 2 (pc' := 127) (L' := [some (.ref 81), some (.ref 1), some (.int y1443), some (.int y1444), some (.int y1445), some (.int y1446), some (.int y1447), o7]) (st' := [.int 4, .ref 81]) (h' := (HX w T)) (cs' := 0) (sl' := 0) rfl ?_
      refine ev_step rfl rfl rfl (PFX_0_21_81 rfl) ?_
      obtain rfl := Option.some.inj h
      exact ev_end rfl
    · refine ev_ic_ge (t := 125) rfl rfl (fun c9 => absurd c9 hc) (fun _ => ?_)
      refine ev_go 4 (pc' := 21) (L' := [some (.ref 81), some (.ref 1), some (.int y1443), some (.int y1444), some (.int y1445), some (.int y1446), some (.int y1447), o7]) (st' := [.int y1444, .int y1443, .int y1447, .ref 1]) (h' := (HX w T)) (cs' := 0) (sl' := 0) rfl ?_
      obtain ⟨c1448, hq, h⟩ := ai_bdE h
      refine ev_call (M' := msea_thickAt) (L' := [some (.ref 1), some (.int y1447), some (.int y1443), some (.int y1444)]) (rest := []) (rv := some (.int c1448.1)) (h' := (HX c1448.2 T)) rfl (Esea_thickAt_1 y1447 y1443 y1444 w _ _ hq T) ?_
      show ai_ev D1 mfall_letGo 24 [some (.ref 81), some (.ref 1), some (.int y1443), some (.int y1444), some (.int y1445), some (.int y1446), some (.int y1447), o7] [.int c1448.1] (HX c1448.2 T) 0 0 _
      refine ev_go 2 (pc' := 28) (L' := [some (.ref 81), some (.ref 1), some (.int y1443), some (.int y1444), some (.int y1445), some (.int y1446), some (.int y1447), some (.int c1448.1)]) (st' := [.int c1448.1]) (h' := (HX c1448.2 T)) (cs' := 0) (sl' := 0) rfl ?_
      rcases ai_ifE h with ⟨hc, h⟩ | ⟨hc, h⟩
      · refine ev_if_ne (t := 34) rfl rfl (fun c9 => absurd hc c9) (fun _ => ?_)
        refine ev_go 3 (pc' := 10) (L' := [some (.ref 81), some (.ref 1), some (.int y1443), some (.int y1444), some (.int y1445), some (.int y1446), some (.int (y1447 + 1)), some (.int c1448.1)]) (st' := []) (h' := (HX c1448.2 T)) (cs' := 0) (sl' := 0) rfl ?_
        exact ih0 _ _ _ _ _ _ _ h T _
      · refine ev_if_ne (t := 34) rfl rfl (fun _ => ?_) (fun c9 => absurd c9 hc)
        refine ev_go 2 (pc' := 37) (L' := [some (.ref 81), some (.ref 1), some (.int y1443), some (.int y1444), some (.int y1445), some (.int y1446), some (.int y1447), some (.int c1448.1)]) (st' := [.int (-1), .int y1446]) (h' := (HX c1448.2 T)) (cs' := 0) (sl' := 0) rfl ?_
        rcases ai_ifE h with ⟨hc, h⟩ | ⟨hc, h⟩
        · refine ev_ic_eq (t := 69) rfl rfl (fun _ => ?_) (fun c9 => absurd hc c9)
          refine ev_go 7 (pc' := 83) (L' := [some (.ref 81), some (.ref 1), some (.int y1443), some (.int y1444), some (.int y1445), some (.int y1446), some (.int y1447), some (.int c1448.1)]) (st' := [.int y1447, .ref 2, .int (a_fall_room c1448.2), .int (a_fall_weighs c1448.2)]) (h' := (HX c1448.2 T)) (cs' := 0) (sl' := 0) rfl ?_
          obtain ⟨v1449, hq, h⟩ := ai_bdE h
          refine ev_iald rfl rfl hq ?_
          refine ev_go 1 (pc' := 85) (L' := [some (.ref 81), some (.ref 1), some (.int y1443), some (.int y1444), some (.int y1445), some (.int y1446), some (.int y1447), some (.int c1448.1)]) (st' := [.int ((a_fall_room c1448.2) * v1449), .int (a_fall_weighs c1448.2)]) (h' := (HX c1448.2 T)) (cs' := 0) (sl' := 0) rfl ?_
          rcases ai_ifE h with ⟨hc, h⟩ | ⟨hc, h⟩
          · refine ev_ic_gt (t := 95) rfl rfl (fun _ => ?_) (fun c9 => absurd hc c9)
            refine ev_go 4 (pc' := 103) (L' := [some (.ref 81), some (.ref 1), some (.int y1443), some (.int y1444), some (.int y1445), some (.int y1446), some (.int y1447), some (.int c1448.1)]) (st' := [.int c1448.1, .int y1447, .ref 82]) (h' := (HX c1448.2 T)) (cs' := 0) (sl' := 0) rfl ?_
            obtain ⟨q1450, hq, h⟩ := ai_bdE h
            refine ev_iast rfl rfl hq ?_
            rw [HXs_82]
            refine ev_go 5 (pc' := 112) (L' := [some (.ref 81), some (.ref 1), some (.int y1443), some (.int y1444), some (.int y1445), some (.int y1446), some (.int y1447), some (.int c1448.1)]) (st' := [.int ((a_fall_down c1448.2) + c1448.1), .ref 81]) (h' := (HX (u_fall_passedThick c1448.2 q1450) T)) (cs' := 0) (sl' := 0) rfl ?_
            refine ev_step rfl rfl rfl (PFX_0_24_81 rfl) ?_
            refine ev_go 4 (pc' := 10) (L' := [some (.ref 81), some (.ref 1), some (.int y1443), some (.int y1444), some (.int y1445), some (.int y1447), some (.int (y1447 + 1)), some (.int c1448.1)]) (st' := []) (h' := (HX (u_fall_down (u_fall_passedThick c1448.2 q1450) ((a_fall_down c1448.2) + c1448.1)) T)) (cs' := 0) (sl' := 0) rfl ?_
            exact ih0 _ _ _ _ _ _ _ h T _
          · refine ev_ic_gt (t := 95) rfl rfl (fun c9 => absurd c9 hc) (fun _ => ?_)
            refine ev_go 2 (pc' := 91) (L' := [some (.ref 81), some (.ref 1), some (.int y1443), some (.int y1444), some (.int y1445), some (.int y1446), some (.int y1447), some (.int c1448.1)]) (st' := [.int y1447, .ref 81]) (h' := (HX c1448.2 T)) (cs' := 0) (sl' := 0) rfl ?_
            refine ev_step rfl rfl rfl (PFX_0_21_81 rfl) ?_
            obtain rfl := Option.some.inj h
            exact ev_end rfl
        · refine ev_ic_eq (t := 69) rfl rfl (fun c9 => absurd c9 hc) (fun _ => ?_)
          refine ev_go 6 (pc' := 48) (L' := [some (.ref 81), some (.ref 1), some (.int y1443), some (.int y1444), some (.int y1445), some (.int y1446), some (.int y1447), some (.int c1448.1)]) (st' := [.int y1445, .int (y1447 - 1), .ref 1, .ref 81]) (h' := (HX c1448.2 T)) (cs' := 0) (sl' := 0) rfl ?_
          obtain ⟨c1454, hq, h⟩ := ai_bdE h
          refine ev_call (M' := mfall_getsThrough) (L' := [some (.ref 81), some (.ref 1), some (.int (y1447 - 1)), some (.int y1445)]) (rest := []) (rv := some (.int c1454.1)) (h' := (HX c1454.2 T)) rfl (Efall_getsThrough_81_1 (y1447 - 1) y1445 c1448.2 _ _ hq T) ?_
          show ai_ev D1 mfall_letGo 51 [some (.ref 81), some (.ref 1), some (.int y1443), some (.int y1444), some (.int y1445), some (.int y1446), some (.int y1447), some (.int c1448.1)] [.int c1454.1] (HX c1454.2 T) 0 0 _
          rcases ai_ifE h with ⟨hc, h⟩ | ⟨hc, h⟩
          · refine ev_if_ne (t := 69) rfl rfl (fun c9 => absurd hc c9) (fun _ => ?_)
            refine ev_go 4 (pc' := 59) (L' := [some (.ref 81), some (.ref 1), some (.int y1443), some (.int y1444), some (.int y1445), some (.int y1446), some (.int y1447), some (.int c1448.1)]) (st' := [.int (y1447 - 1), .ref 81]) (h' := (HX c1454.2 T)) (cs' := 0) (sl' := 0) rfl ?_
            refine ev_step rfl rfl rfl (PFX_0_30_81 rfl) ?_
            refine ev_go 2 (pc' := 65) (L' := [some (.ref 81), some (.ref 1), some (.int y1443), some (.int y1444), some (.int y1445), some (.int y1446), some (.int y1447), some (.int c1448.1)]) (st' := [.int y1446, .ref 81]) (h' := (HX (u_fall_stopper c1454.2 (y1447 - 1)) T)) (cs' := 0) (sl' := 0) rfl ?_
            refine ev_step rfl rfl rfl (PFX_0_21_81 rfl) ?_
            obtain rfl := Option.some.inj h
            exact ev_end rfl
          · refine ev_if_ne (t := 69) rfl rfl (fun _ => ?_) (fun c9 => absurd c9 hc)
            refine ev_go 7 (pc' := 83) (L' := [some (.ref 81), some (.ref 1), some (.int y1443), some (.int y1444), some (.int y1445), some (.int y1446), some (.int y1447), some (.int c1448.1)]) (st' := [.int y1447, .ref 2, .int (a_fall_room c1454.2), .int (a_fall_weighs c1454.2)]) (h' := (HX c1454.2 T)) (cs' := 0) (sl' := 0) rfl ?_
            obtain ⟨v1455, hq, h⟩ := ai_bdE h
            refine ev_iald rfl rfl hq ?_
            refine ev_go 1 (pc' := 85) (L' := [some (.ref 81), some (.ref 1), some (.int y1443), some (.int y1444), some (.int y1445), some (.int y1446), some (.int y1447), some (.int c1448.1)]) (st' := [.int ((a_fall_room c1454.2) * v1455), .int (a_fall_weighs c1454.2)]) (h' := (HX c1454.2 T)) (cs' := 0) (sl' := 0) rfl ?_
            rcases ai_ifE h with ⟨hc, h⟩ | ⟨hc, h⟩
            · refine ev_ic_gt (t := 95) rfl rfl (fun _ => ?_) (fun c9 => absurd hc c9)
              refine ev_go 4 (pc' := 103) (L' := [some (.ref 81), some (.ref 1), some (.int y1443), some (.int y1444), some (.int y1445), some (.int y1446), some (.int y1447), some (.int c1448.1)]) (st' := [.int c1448.1, .int y1447, .ref 82]) (h' := (HX c1454.2 T)) (cs' := 0) (sl' := 0) rfl ?_
              obtain ⟨q1456, hq, h⟩ := ai_bdE h
              refine ev_iast rfl rfl hq ?_
              rw [HXs_82]
              refine ev_go 5 (pc' := 112) (L' := [some (.ref 81), some (.ref 1), some (.int y1443), some (.int y1444), some (.int y1445), some (.int y1446), some (.int y1447), some (.int c1448.1)]) (st' := [.int ((a_fall_down c1454.2) + c1448.1), .ref 81]) (h' := (HX (u_fall_passedThick c1454.2 q1456) T)) (cs' := 0) (sl' := 0) rfl ?_
              refine ev_step rfl rfl rfl (PFX_0_24_81 rfl) ?_
              refine ev_go 4 (pc' := 10) (L' := [some (.ref 81), some (.ref 1), some (.int y1443), some (.int y1444), some (.int y1445), some (.int y1447), some (.int (y1447 + 1)), some (.int c1448.1)]) (st' := []) (h' := (HX (u_fall_down (u_fall_passedThick c1454.2 q1456) ((a_fall_down c1454.2) + c1448.1)) T)) (cs' := 0) (sl' := 0) rfl ?_
              exact ih0 _ _ _ _ _ _ _ h T _
            · refine ev_ic_gt (t := 95) rfl rfl (fun c9 => absurd c9 hc) (fun _ => ?_)
              refine ev_go 2 (pc' := 91) (L' := [some (.ref 81), some (.ref 1), some (.int y1443), some (.int y1444), some (.int y1445), some (.int y1446), some (.int y1447), some (.int c1448.1)]) (st' := [.int y1447, .ref 81]) (h' := (HX c1454.2 T)) (cs' := 0) (sl' := 0) rfl ?_
              refine ev_step rfl rfl rfl (PFX_0_21_81 rfl) ?_
              obtain rfl := Option.some.inj h
              exact ev_end rfl
set_option maxHeartbeats 40000000 in
set_option maxRecDepth 100000 in
theorem Efall_letGo_81_1 (n : Nat) (x1433 : Int32) (x1434 : Int32) (x1435 : Int32) (w : WX) (w' : WX) (h : Ffall_letGo_81_1 n x1433 x1434 x1435 w = some w') (T : ai_H) : ai_ev D1 mfall_letGo 0 [some (.ref 81), some (.ref 1), some (.int x1433), some (.int x1434), some (.int x1435), none, none, none] [] (HX w T) 0 0 (none, HX w' T) := by
  unfold Ffall_letGo_81_1 at h
  have ih0 := EGfall_letGo_81_1 n
  refine ev_go 1 (pc' := 1) (L' := [some (.ref 81), some (.ref 1), some (.int x1433), some (.int x1434), some (.int x1435), none, none, none]) (st' := [.ref 81]) (h' := (HX w T)) (cs' := 0) (sl' := 0) rfl ?_
  obtain ⟨c1442, hq, h⟩ := ai_bdE h
  refine ev_call (M' := mfall_forget) (L' := [some (.ref 81)]) (rest := []) (rv := none) (h' := (HX c1442 T)) rfl (Efall_forget_81 n w _ hq T) ?_
  show ai_ev D1 mfall_letGo 4 [some (.ref 81), some (.ref 1), some (.int x1433), some (.int x1434), some (.int x1435), none, none, none] [] (HX c1442 T) 0 0 _
  refine ev_go 4 (pc' := 10) (L' := [some (.ref 81), some (.ref 1), some (.int x1433), some (.int x1434), some (.int x1435), some (.int (-1)), some (.int 0), none]) (st' := []) (h' := (HX c1442 T)) (cs' := 0) (sl' := 0) rfl ?_
  exact ih0 _ _ _ _ _ _ _ h T _
set_option maxHeartbeats 40000000 in
set_option maxRecDepth 100000 in
theorem Ef_letGoNow_0 (n : Nat) (x1429 : Int32) (x1430 : Int32) (x1431 : Int32) (w : WX) (w' : WX) (h : Ff_letGoNow_0 n x1429 x1430 x1431 w = some w') (T : ai_H) : ai_ev D1 mf_letGoNow 0 [some (.ref 0), some (.int x1429), some (.int x1430), some (.int x1431)] [] (HX w T) 0 0 (none, HX w' T) := by
  unfold Ff_letGoNow_0 at h
  refine ev_go 2 (pc' := 2) (L' := [some (.ref 0), some (.int x1429), some (.int x1430), some (.int x1431)]) (st' := [.int x1429, .ref 0]) (h' := (HX w T)) (cs' := 0) (sl' := 0) rfl ?_
  obtain ⟨c1432, hq, h⟩ := ai_bdE h
  refine ev_call (M' := mf_shapeNow) (L' := [some (.ref 0), some (.int x1429)]) (rest := []) (rv := none) (h' := (HX c1432 T)) rfl (Ef_shapeNow_0 x1429 w _ hq T) ?_
  show ai_ev D1 mf_letGoNow 5 [some (.ref 0), some (.int x1429), some (.int x1430), some (.int x1431)] [] (HX c1432 T) 0 0 _
  refine ev_go 9 (pc' := 22) (L' := [some (.ref 0), some (.int x1429), some (.int x1430), some (.int x1431)]) (st' := [.int x1431, .int (a_s1_hour c1432), .int x1430, .ref 1, .ref 81]) (h' := (HX c1432 T)) (cs' := 0) (sl' := 0) rfl ?_
  obtain ⟨c1457, hq, h⟩ := ai_bdE h
  refine ev_call (M' := mfall_letGo) (L' := [some (.ref 81), some (.ref 1), some (.int x1430), some (.int (a_s1_hour c1432)), some (.int x1431), none, none, none]) (rest := []) (rv := none) (h' := (HX c1457 T)) rfl (Efall_letGo_81_1 n x1430 (a_s1_hour c1432) x1431 c1432 _ hq T) ?_
  show ai_ev D1 mf_letGoNow 25 [some (.ref 0), some (.int x1429), some (.int x1430), some (.int x1431)] [] (HX c1457 T) 0 0 _
  obtain rfl := Option.some.inj h
  exact ev_end rfl
set_option maxHeartbeats 40000000 in
set_option maxRecDepth 100000 in
theorem Ef_rests_0 (n : Nat) (x1421 : Int32) (x1422 : Int32) (x1423 : Int32) (w : WX) (r : Int32) (w' : WX) (h : Ff_rests_0 n x1421 x1422 x1423 w = some (r, w')) (T : ai_H) : ai_ev D1 mf_rests 0 [some (.ref 0), some (.int x1421), some (.int x1422), some (.int x1423)] [] (HX w T) 0 0 (some (.int r), HX w' T) := by
  unfold Ff_rests_0 at h
  refine ev_go 4 (pc' := 8) (L' := [some (.ref 0), some (.int x1421), some (.int x1422), some (.int x1423)]) (st' := [.int x1421, .ref 7]) (h' := (HX w T)) (cs' := 0) (sl' := 0) rfl ?_
  obtain ⟨c1424, hq, h⟩ := ai_bdE h
  refine ev_call (M' := mthg_has) (L' := [some (.ref 7), some (.int x1421)]) (rest := []) (rv := some (.int c1424.1)) (h' := (HX c1424.2 T)) rfl (Ethg_has_7 x1421 w _ _ hq T) ?_
  show ai_ev D1 mf_rests 11 [some (.ref 0), some (.int x1421), some (.int x1422), some (.int x1423)] [.int c1424.1] (HX c1424.2 T) 0 0 _
  rcases ai_ifE h with ⟨hc, h⟩ | ⟨hc, h⟩
  · refine ev_if_eq (t := 34) rfl rfl (fun _ => ?_) (fun c9 => absurd hc c9)
    refine ev_go 2 (pc' := 37) (L' := [some (.ref 0), some (.int x1421), some (.int x1422), some (.int x1423)]) (st' := [.int (-2), .ref 0]) (h' := (HX c1424.2 T)) (cs' := 0) (sl' := 0) rfl ?_
    obtain ⟨c1425, hq, h⟩ := ai_bdE h
    refine ev_call (M' := mf_bad) (L' := [some (.ref 0), some (.int (-2))]) (rest := []) (rv := some (.int c1425.1)) (h' := (HX c1425.2 T)) rfl (Ef_bad_0 (-2) c1424.2 _ _ hq T) ?_
    show ai_ev D1 mf_rests 40 [some (.ref 0), some (.int x1421), some (.int x1422), some (.int x1423)] [.int c1425.1] (HX c1425.2 T) 0 0 _
    obtain ⟨rfl, rfl⟩ := ai_smP h
    exact ev_end rfl
  · refine ev_if_eq (t := 34) rfl rfl (fun c9 => absurd c9 hc) (fun _ => ?_)
    refine ev_go 3 (pc' := 19) (L' := [some (.ref 0), some (.int x1421), some (.int x1422), some (.int x1423)]) (st' := [.int x1422, .ref 1]) (h' := (HX c1424.2 T)) (cs' := 0) (sl' := 0) rfl ?_
    obtain ⟨c1426, hq, h⟩ := ai_bdE h
    refine ev_call (M' := msea_hasCell) (L' := [some (.ref 1), some (.int x1422)]) (rest := []) (rv := some (.int c1426.1)) (h' := (HX c1426.2 T)) rfl (Esea_hasCell_1 x1422 c1424.2 _ _ hq T) ?_
    show ai_ev D1 mf_rests 22 [some (.ref 0), some (.int x1421), some (.int x1422), some (.int x1423)] [.int c1426.1] (HX c1426.2 T) 0 0 _
    rcases ai_ifE h with ⟨hc, h⟩ | ⟨hc, h⟩
    · refine ev_if_eq (t := 34) rfl rfl (fun _ => ?_) (fun c9 => absurd hc c9)
      refine ev_go 2 (pc' := 37) (L' := [some (.ref 0), some (.int x1421), some (.int x1422), some (.int x1423)]) (st' := [.int (-2), .ref 0]) (h' := (HX c1426.2 T)) (cs' := 0) (sl' := 0) rfl ?_
      obtain ⟨c1427, hq, h⟩ := ai_bdE h
      refine ev_call (M' := mf_bad) (L' := [some (.ref 0), some (.int (-2))]) (rest := []) (rv := some (.int c1427.1)) (h' := (HX c1427.2 T)) rfl (Ef_bad_0 (-2) c1426.2 _ _ hq T) ?_
      show ai_ev D1 mf_rests 40 [some (.ref 0), some (.int x1421), some (.int x1422), some (.int x1423)] [.int c1427.1] (HX c1427.2 T) 0 0 _
      obtain ⟨rfl, rfl⟩ := ai_smP h
      exact ev_end rfl
    · refine ev_if_eq (t := 34) rfl rfl (fun c9 => absurd c9 hc) (fun _ => ?_)
      refine ev_go 3 (pc' := 28) (L' := [some (.ref 0), some (.int x1421), some (.int x1422), some (.int x1423)]) (st' := [.int 2, .int 0, .int x1423]) (h' := (HX c1426.2 T)) (cs' := 0) (sl' := 0) rfl ?_
      obtain ⟨c1428, hq, h⟩ := ai_bdE h
      refine ev_call (M' := mf_within) (L' := [some (.int x1423), some (.int 0), some (.int 2)]) (rest := []) (rv := some (.int c1428)) (h' := (HX c1426.2 T)) rfl (Ef_within x1423 0 2 _ hq (HX c1426.2 T)) ?_
      show ai_ev D1 mf_rests 31 [some (.ref 0), some (.int x1421), some (.int x1422), some (.int x1423)] [.int c1428] (HX c1426.2 T) 0 0 _
      rcases ai_ifE h with ⟨hc, h⟩ | ⟨hc, h⟩
      · refine ev_if_ne (t := 41) rfl rfl (fun c9 => absurd hc c9) (fun _ => ?_)
        refine ev_go 2 (pc' := 37) (L' := [some (.ref 0), some (.int x1421), some (.int x1422), some (.int x1423)]) (st' := [.int (-2), .ref 0]) (h' := (HX c1426.2 T)) (cs' := 0) (sl' := 0) rfl ?_
        obtain ⟨c1459, hq, h⟩ := ai_bdE h
        refine ev_call (M' := mf_bad) (L' := [some (.ref 0), some (.int (-2))]) (rest := []) (rv := some (.int c1459.1)) (h' := (HX c1459.2 T)) rfl (Ef_bad_0 (-2) c1426.2 _ _ hq T) ?_
        show ai_ev D1 mf_rests 40 [some (.ref 0), some (.int x1421), some (.int x1422), some (.int x1423)] [.int c1459.1] (HX c1459.2 T) 0 0 _
        obtain ⟨rfl, rfl⟩ := ai_smP h
        exact ev_end rfl
      · refine ev_if_ne (t := 41) rfl rfl (fun _ => ?_) (fun c9 => absurd c9 hc)
        refine ev_go 4 (pc' := 45) (L' := [some (.ref 0), some (.int x1421), some (.int x1422), some (.int x1423)]) (st' := [.int 0, .int x1422, .int x1421, .ref 0]) (h' := (HX c1426.2 T)) (cs' := 0) (sl' := 0) rfl ?_
        obtain ⟨c1458, hq, h⟩ := ai_bdE h
        refine ev_call (M' := mf_letGoNow) (L' := [some (.ref 0), some (.int x1421), some (.int x1422), some (.int 0)]) (rest := []) (rv := none) (h' := (HX c1458 T)) rfl (Ef_letGoNow_0 n x1421 x1422 0 c1426.2 _ hq T) ?_
        show ai_ev D1 mf_rests 48 [some (.ref 0), some (.int x1421), some (.int x1422), some (.int x1423)] [] (HX c1458 T) 0 0 _
        refine ev_go 1 (pc' := 49) (L' := [some (.ref 0), some (.int x1421), some (.int x1422), some (.int x1423)]) (st' := [.int x1423]) (h' := (HX c1458 T)) (cs' := 0) (sl' := 0) rfl ?_
        rcases ai_ifE h with ⟨hc, h⟩ | ⟨hc, h⟩
        · refine ev_if_ne (t := 60) rfl rfl (fun c9 => absurd hc c9) (fun _ => ?_)
          refine ev_go 3 (pc' := 59) (L' := [some (.ref 0), some (.int x1421), some (.int x1422), some (.int x1423)]) (st' := [.int (a_fall_layer c1458)]) (h' := (HX c1458 T)) (cs' := 0) (sl' := 0) rfl ?_
          obtain ⟨rfl, rfl⟩ := ai_smP h
          exact ev_end rfl
        · refine ev_if_ne (t := 60) rfl rfl (fun _ => ?_) (fun c9 => absurd c9 hc)
          refine ev_go 2 (pc' := 62) (L' := [some (.ref 0), some (.int x1421), some (.int x1422), some (.int x1423)]) (st' := [.int 1, .int x1423]) (h' := (HX c1458 T)) (cs' := 0) (sl' := 0) rfl ?_
          rcases ai_ifE h with ⟨hc, h⟩ | ⟨hc, h⟩
          · refine ev_ic_ne (t := 75) rfl rfl (fun c9 => absurd hc c9) (fun _ => ?_)
            refine ev_go 4 (pc' := 82) (L' := [some (.ref 0), some (.int x1421), some (.int x1422), some (.int x1423)]) (st' := [.int (a_fall_down c1458)]) (h' := (HX c1458 T)) (cs' := 0) (sl' := 0) rfl ?_
            obtain ⟨rfl, rfl⟩ := ai_smP h
            exact ev_end rfl
          · refine ev_ic_ne (t := 75) rfl rfl (fun _ => ?_) (fun c9 => absurd c9 hc)
            refine ev_go 3 (pc' := 82) (L' := [some (.ref 0), some (.int x1421), some (.int x1422), some (.int x1423)]) (st' := [.int (a_fall_broken c1458)]) (h' := (HX c1458 T)) (cs' := 0) (sl' := 0) rfl ?_
            obtain ⟨rfl, rfl⟩ := ai_smP h
            exact ev_end rfl
set_option maxHeartbeats 40000000 in
set_option maxRecDepth 100000 in
theorem Ef_takesBallast_0 (x1463 : Int32) (w : WX) (r : Int32) (w' : WX) (h : Ff_takesBallast_0 x1463 w = some (r, w')) (T : ai_H) : ai_ev D1 mf_takesBallast 0 [some (.ref 0), some (.int x1463)] [] (HX w T) 0 0 (some (.int r), HX w' T) := by
  unfold Ff_takesBallast_0 at h
  refine ev_go 4 (pc' := 8) (L' := [some (.ref 0), some (.int x1463)]) (st' := [.int x1463, .ref 7]) (h' := (HX w T)) (cs' := 0) (sl' := 0) rfl ?_
  obtain ⟨c1464, hq, h⟩ := ai_bdE h
  refine ev_call (M' := mthg_has) (L' := [some (.ref 7), some (.int x1463)]) (rest := []) (rv := some (.int c1464.1)) (h' := (HX c1464.2 T)) rfl (Ethg_has_7 x1463 w _ _ hq T) ?_
  show ai_ev D1 mf_takesBallast 11 [some (.ref 0), some (.int x1463)] [.int c1464.1] (HX c1464.2 T) 0 0 _
  rcases ai_ifE h with ⟨hc, h⟩ | ⟨hc, h⟩
  · refine ev_if_eq (t := 38) rfl rfl (fun _ => ?_) (fun c9 => absurd hc c9)
    refine ev_go 1 (pc' := 39) (L' := [some (.ref 0), some (.int x1463)]) (st' := [.int 0]) (h' := (HX c1464.2 T)) (cs' := 0) (sl' := 0) rfl ?_
    obtain ⟨rfl, rfl⟩ := ai_smP h
    exact ev_end rfl
  · refine ev_if_eq (t := 38) rfl rfl (fun c9 => absurd c9 hc) (fun _ => ?_)
    refine ev_go 5 (pc' := 25) (L' := [some (.ref 0), some (.int x1463)]) (st' := [.int x1463, .ref 8]) (h' := (HX c1464.2 T)) (cs' := 0) (sl' := 0) rfl ?_
    obtain ⟨v1465, hq, h⟩ := ai_bdE h
    refine ev_iald rfl rfl hq ?_
    refine ev_go 2 (pc' := 28) (L' := [some (.ref 0), some (.int x1463)]) (st' := [.int 3, .int 1, .int v1465]) (h' := (HX c1464.2 T)) (cs' := 0) (sl' := 0) rfl ?_
    obtain ⟨c1466, hq, h⟩ := ai_bdE h
    refine ev_call (M' := mf_within) (L' := [some (.int v1465), some (.int 1), some (.int 3)]) (rest := []) (rv := some (.int c1466)) (h' := (HX c1464.2 T)) rfl (Ef_within v1465 1 3 _ hq (HX c1464.2 T)) ?_
    show ai_ev D1 mf_takesBallast 31 [some (.ref 0), some (.int x1463)] [.int c1466] (HX c1464.2 T) 0 0 _
    rcases ai_ifE h with ⟨hc, h⟩ | ⟨hc, h⟩
    · refine ev_if_eq (t := 38) rfl rfl (fun _ => ?_) (fun c9 => absurd hc c9)
      refine ev_go 1 (pc' := 39) (L' := [some (.ref 0), some (.int x1463)]) (st' := [.int 0]) (h' := (HX c1464.2 T)) (cs' := 0) (sl' := 0) rfl ?_
      obtain ⟨rfl, rfl⟩ := ai_smP h
      exact ev_end rfl
    · refine ev_if_eq (t := 38) rfl rfl (fun c9 => absurd c9 hc) (fun _ => ?_)
      refine ev_go 2 (pc' := 39) (L' := [some (.ref 0), some (.int x1463)]) (st' := [.int 1]) (h' := (HX c1464.2 T)) (cs' := 0) (sl' := 0) rfl ?_
      obtain ⟨rfl, rfl⟩ := ai_smP h
      exact ev_end rfl
set_option maxHeartbeats 40000000 in
set_option maxRecDepth 100000 in
theorem Ef_letGoWithBallast_0 (n : Nat) (x1481 : Int32) (x1482 : Int32) (x1483 : Int32) (x1484 : Int32) (w : WX) (w' : WX) (h : Ff_letGoWithBallast_0 n x1481 x1482 x1483 x1484 w = some w') (T : ai_H) : ai_ev D1 mf_letGoWithBallast 0 [some (.ref 0), some (.int x1481), some (.int x1482), some (.int x1483), some (.int x1484)] [] (HX w T) 0 0 (none, HX w' T) := by
  unfold Ff_letGoWithBallast_0 at h
  refine ev_go 4 (pc' := 5) (L' := [some (.ref 0), some (.int x1481), some (.int x1482), some (.int x1483), some (.int x1484)]) (st' := [.int x1484, .int x1483, .int x1481, .ref 0]) (h' := (HX w T)) (cs' := 0) (sl' := 0) rfl ?_
  obtain ⟨c1485, hq, h⟩ := ai_bdE h
  refine ev_call (M' := mf_shapeWithBallast) (L' := [some (.ref 0), some (.int x1481), some (.int x1483), some (.int x1484), none]) (rest := []) (rv := none) (h' := (HX c1485 T)) rfl (Ef_shapeWithBallast_0 x1481 x1483 x1484 w _ hq T) ?_
  show ai_ev D1 mf_letGoWithBallast 8 [some (.ref 0), some (.int x1481), some (.int x1482), some (.int x1483), some (.int x1484)] [] (HX c1485 T) 0 0 _
  refine ev_go 7 (pc' := 20) (L' := [some (.ref 0), some (.int x1481), some (.int x1482), some (.int x1483), some (.int x1484)]) (st' := [.int 0, .int x1484, .int x1482, .ref 1, .ref 81]) (h' := (HX c1485 T)) (cs' := 0) (sl' := 0) rfl ?_
  obtain ⟨c1486, hq, h⟩ := ai_bdE h
  refine ev_call (M' := mfall_letGo) (L' := [some (.ref 81), some (.ref 1), some (.int x1482), some (.int x1484), some (.int 0), none, none, none]) (rest := []) (rv := none) (h' := (HX c1486 T)) rfl (Efall_letGo_81_1 n x1482 x1484 0 c1485 _ hq T) ?_
  show ai_ev D1 mf_letGoWithBallast 23 [some (.ref 0), some (.int x1481), some (.int x1482), some (.int x1483), some (.int x1484)] [] (HX c1486 T) 0 0 _
  obtain rfl := Option.some.inj h
  exact ev_end rfl
set_option maxHeartbeats 40000000 in
set_option maxRecDepth 100000 in
theorem EGf_leastBallast_0 : ∀ n : Nat, (∀ (y1476 : Int32) (y1477 : Int32) (y1478 : Int32) (y1479 : Int32) (y1480 : Int32) (w : WX) (r : Int32) (w' : WX), Gf_leastBallast_0 n 0 y1476 y1477 y1478 y1479 y1480 w = some (r, w') → ∀ (T : ai_H), ai_ev D1 mf_leastBallast 3 [some (.ref 0), some (.int y1476), some (.int y1477), some (.int y1478), some (.int y1479), some (.int y1480)] [] (HX w T) 0 0 (some (.int r), HX w' T)) := by
  intro n
  induction n with
  | zero =>
    exact (fun _ _ _ _ _ _ _ _ h => by cases h)
  | succ n ih0 =>
    intro y1476 y1477 y1478 y1479 y1480 w r w' h T
    simp only [Gf_leastBallast_0] at h
    refine ev_go 2 (pc' := 7) (L' := [some (.ref 0), some (.int y1476), some (.int y1477), some (.int y1478), some (.int y1479), some (.int y1480)]) (st' := [.int 99, .int y1480]) (h' := (HX w T)) (cs' := 0) (sl' := 0) rfl ?_
    rcases ai_ifE h with ⟨hc, h⟩ | ⟨hc, h⟩
    · refine ev_ic_gt (t := 40) rfl rfl (fun _ => ?_) (fun c9 => absurd hc c9)
      refine ev_go 1 (pc' := 41) (L' := [some (.ref 0), some (.int y1476), some (.int y1477), some (.int y1478), some (.int y1479), some (.int y1480)]) (st' := [.int (-1)]) (h' := (HX w T)) (cs' := 0) (sl' := 0) rfl ?_
      obtain ⟨rfl, rfl⟩ := ai_smP h
      exact ev_end rfl
    · refine ev_ic_gt (t := 40) rfl rfl (fun c9 => absurd c9 hc) (fun _ => ?_)
      refine ev_go 5 (pc' := 17) (L' := [some (.ref 0), some (.int y1476), some (.int y1477), some (.int y1478), some (.int y1479), some (.int y1480)]) (st' := [.int y1479, .int y1480, .int y1477, .int y1476, .ref 0]) (h' := (HX w T)) (cs' := 0) (sl' := 0) rfl ?_
      obtain ⟨c1487, hq, h⟩ := ai_bdE h
      refine ev_call (M' := mf_letGoWithBallast) (L' := [some (.ref 0), some (.int y1476), some (.int y1477), some (.int y1480), some (.int y1479)]) (rest := []) (rv := none) (h' := (HX c1487 T)) rfl (Ef_letGoWithBallast_0 n y1476 y1477 y1480 y1479 w _ hq T) ?_
      show ai_ev D1 mf_leastBallast 20 [some (.ref 0), some (.int y1476), some (.int y1477), some (.int y1478), some (.int y1479), some (.int y1480)] [] (HX c1487 T) 0 0 _
      refine ev_go 4 (pc' := 28) (L' := [some (.ref 0), some (.int y1476), some (.int y1477), some (.int y1478), some (.int y1479), some (.int y1480)]) (st' := [.int y1478, .int (a_fall_layer c1487)]) (h' := (HX c1487 T)) (cs' := 0) (sl' := 0) rfl ?_
      rcases ai_ifE h with ⟨hc, h⟩ | ⟨hc, h⟩
      · refine ev_ic_ne (t := 34) rfl rfl (fun c9 => absurd hc c9) (fun _ => ?_)
        refine ev_go 1 (pc' := 33) (L' := [some (.ref 0), some (.int y1476), some (.int y1477), some (.int y1478), some (.int y1479), some (.int y1480)]) (st' := [.int y1480]) (h' := (HX c1487 T)) (cs' := 0) (sl' := 0) rfl ?_
        obtain ⟨rfl, rfl⟩ := ai_smP h
        exact ev_end rfl
      · refine ev_ic_ne (t := 34) rfl rfl (fun _ => ?_) (fun c9 => absurd c9 hc)
        refine ev_go 2 (pc' := 3) (L' := [some (.ref 0), some (.int y1476), some (.int y1477), some (.int y1478), some (.int y1479), some (.int (y1480 + 1))]) (st' := []) (h' := (HX c1487 T)) (cs' := 0) (sl' := 0) rfl ?_
        exact ih0 _ _ _ _ _ _ _ _ h T
set_option maxHeartbeats 40000000 in
set_option maxRecDepth 100000 in
theorem Ef_leastBallast_0 (n : Nat) (x1472 : Int32) (x1473 : Int32) (x1474 : Int32) (x1475 : Int32) (w : WX) (r : Int32) (w' : WX) (h : Ff_leastBallast_0 n x1472 x1473 x1474 x1475 w = some (r, w')) (T : ai_H) : ai_ev D1 mf_leastBallast 0 [some (.ref 0), some (.int x1472), some (.int x1473), some (.int x1474), some (.int x1475), none] [] (HX w T) 0 0 (some (.int r), HX w' T) := by
  unfold Ff_leastBallast_0 at h
  have ih0 := EGf_leastBallast_0 n
  refine ev_go 2 (pc' := 3) (L' := [some (.ref 0), some (.int x1472), some (.int x1473), some (.int x1474), some (.int x1475), some (.int 0)]) (st' := []) (h' := (HX w T)) (cs' := 0) (sl' := 0) rfl ?_
  exact ih0 _ _ _ _ _ _ _ _ h T
set_option maxHeartbeats 40000000 in
set_option maxRecDepth 100000 in
theorem Ef_sink_0 (n : Nat) (x1460 : Int32) (x1461 : Int32) (x1462 : Int32) (w : WX) (r : Int32) (w' : WX) (h : Ff_sink_0 n x1460 x1461 x1462 w = some (r, w')) (T : ai_H) : ai_ev D1 mf_sink 0 [some (.ref 0), some (.int x1460), some (.int x1461), some (.int x1462)] [] (HX w T) 0 0 (some (.int r), HX w' T) := by
  unfold Ff_sink_0 at h
  refine ev_go 2 (pc' := 2) (L' := [some (.ref 0), some (.int x1460), some (.int x1461), some (.int x1462)]) (st' := [.int x1460, .ref 0]) (h' := (HX w T)) (cs' := 0) (sl' := 0) rfl ?_
  obtain ⟨c1467, hq, h⟩ := ai_bdE h
  refine ev_call (M' := mf_takesBallast) (L' := [some (.ref 0), some (.int x1460)]) (rest := []) (rv := some (.int c1467.1)) (h' := (HX c1467.2 T)) rfl (Ef_takesBallast_0 x1460 w _ _ hq T) ?_
  show ai_ev D1 mf_sink 5 [some (.ref 0), some (.int x1460), some (.int x1461), some (.int x1462)] [.int c1467.1] (HX c1467.2 T) 0 0 _
  rcases ai_ifE h with ⟨hc, h⟩ | ⟨hc, h⟩
  · refine ev_if_eq (t := 28) rfl rfl (fun _ => ?_) (fun c9 => absurd hc c9)
    refine ev_go 2 (pc' := 31) (L' := [some (.ref 0), some (.int x1460), some (.int x1461), some (.int x1462)]) (st' := [.int (-10), .ref 0]) (h' := (HX c1467.2 T)) (cs' := 0) (sl' := 0) rfl ?_
    obtain ⟨c1468, hq, h⟩ := ai_bdE h
    refine ev_call (M' := mf_bad) (L' := [some (.ref 0), some (.int (-10))]) (rest := []) (rv := some (.int c1468.1)) (h' := (HX c1468.2 T)) rfl (Ef_bad_0 (-10) c1467.2 _ _ hq T) ?_
    show ai_ev D1 mf_sink 34 [some (.ref 0), some (.int x1460), some (.int x1461), some (.int x1462)] [.int c1468.1] (HX c1468.2 T) 0 0 _
    obtain ⟨rfl, rfl⟩ := ai_smP h
    exact ev_end rfl
  · refine ev_if_eq (t := 28) rfl rfl (fun c9 => absurd c9 hc) (fun _ => ?_)
    refine ev_go 3 (pc' := 13) (L' := [some (.ref 0), some (.int x1460), some (.int x1461), some (.int x1462)]) (st' := [.int x1461, .ref 1]) (h' := (HX c1467.2 T)) (cs' := 0) (sl' := 0) rfl ?_
    obtain ⟨c1469, hq, h⟩ := ai_bdE h
    refine ev_call (M' := msea_hasCell) (L' := [some (.ref 1), some (.int x1461)]) (rest := []) (rv := some (.int c1469.1)) (h' := (HX c1469.2 T)) rfl (Esea_hasCell_1 x1461 c1467.2 _ _ hq T) ?_
    show ai_ev D1 mf_sink 16 [some (.ref 0), some (.int x1460), some (.int x1461), some (.int x1462)] [.int c1469.1] (HX c1469.2 T) 0 0 _
    rcases ai_ifE h with ⟨hc, h⟩ | ⟨hc, h⟩
    · refine ev_if_eq (t := 28) rfl rfl (fun _ => ?_) (fun c9 => absurd hc c9)
      refine ev_go 2 (pc' := 31) (L' := [some (.ref 0), some (.int x1460), some (.int x1461), some (.int x1462)]) (st' := [.int (-10), .ref 0]) (h' := (HX c1469.2 T)) (cs' := 0) (sl' := 0) rfl ?_
      obtain ⟨c1470, hq, h⟩ := ai_bdE h
      refine ev_call (M' := mf_bad) (L' := [some (.ref 0), some (.int (-10))]) (rest := []) (rv := some (.int c1470.1)) (h' := (HX c1470.2 T)) rfl (Ef_bad_0 (-10) c1469.2 _ _ hq T) ?_
      show ai_ev D1 mf_sink 34 [some (.ref 0), some (.int x1460), some (.int x1461), some (.int x1462)] [.int c1470.1] (HX c1470.2 T) 0 0 _
      obtain ⟨rfl, rfl⟩ := ai_smP h
      exact ev_end rfl
    · refine ev_if_eq (t := 28) rfl rfl (fun c9 => absurd c9 hc) (fun _ => ?_)
      refine ev_go 3 (pc' := 22) (L' := [some (.ref 0), some (.int x1460), some (.int x1461), some (.int x1462)]) (st' := [.int 4, .int 0, .int x1462]) (h' := (HX c1469.2 T)) (cs' := 0) (sl' := 0) rfl ?_
      obtain ⟨c1471, hq, h⟩ := ai_bdE h
      refine ev_call (M' := mf_within) (L' := [some (.int x1462), some (.int 0), some (.int 4)]) (rest := []) (rv := some (.int c1471)) (h' := (HX c1469.2 T)) rfl (Ef_within x1462 0 4 _ hq (HX c1469.2 T)) ?_
      show ai_ev D1 mf_sink 25 [some (.ref 0), some (.int x1460), some (.int x1461), some (.int x1462)] [.int c1471] (HX c1469.2 T) 0 0 _
      rcases ai_ifE h with ⟨hc, h⟩ | ⟨hc, h⟩
      · refine ev_if_ne (t := 35) rfl rfl (fun c9 => absurd hc c9) (fun _ => ?_)
        refine ev_go 2 (pc' := 31) (L' := [some (.ref 0), some (.int x1460), some (.int x1461), some (.int x1462)]) (st' := [.int (-10), .ref 0]) (h' := (HX c1469.2 T)) (cs' := 0) (sl' := 0) rfl ?_
        obtain ⟨c1489, hq, h⟩ := ai_bdE h
        refine ev_call (M' := mf_bad) (L' := [some (.ref 0), some (.int (-10))]) (rest := []) (rv := some (.int c1489.1)) (h' := (HX c1489.2 T)) rfl (Ef_bad_0 (-10) c1469.2 _ _ hq T) ?_
        show ai_ev D1 mf_sink 34 [some (.ref 0), some (.int x1460), some (.int x1461), some (.int x1462)] [.int c1489.1] (HX c1489.2 T) 0 0 _
        obtain ⟨rfl, rfl⟩ := ai_smP h
        exact ev_end rfl
      · refine ev_if_ne (t := 35) rfl rfl (fun _ => ?_) (fun c9 => absurd c9 hc)
        refine ev_go 7 (pc' := 46) (L' := [some (.ref 0), some (.int x1460), some (.int x1461), some (.int x1462)]) (st' := [.int (a_s1_hour c1469.2), .int x1462, .int x1461, .int x1460, .ref 0]) (h' := (HX c1469.2 T)) (cs' := 0) (sl' := 0) rfl ?_
        obtain ⟨c1488, hq, h⟩ := ai_bdE h
        refine ev_call (M' := mf_leastBallast) (L' := [some (.ref 0), some (.int x1460), some (.int x1461), some (.int x1462), some (.int (a_s1_hour c1469.2)), none]) (rest := []) (rv := some (.int c1488.1)) (h' := (HX c1488.2 T)) rfl (Ef_leastBallast_0 n x1460 x1461 x1462 (a_s1_hour c1469.2) c1469.2 _ _ hq T) ?_
        show ai_ev D1 mf_sink 49 [some (.ref 0), some (.int x1460), some (.int x1461), some (.int x1462)] [.int c1488.1] (HX c1488.2 T) 0 0 _
        obtain ⟨rfl, rfl⟩ := ai_smP h
        exact ev_end rfl
set_option maxHeartbeats 40000000 in
set_option maxRecDepth 100000 in
theorem Ef_holds_0 (n : Nat) (x1490 : Int32) (x1491 : Int32) (w : WX) (r : Int32) (w' : WX) (h : Ff_holds_0 n x1490 x1491 w = some (r, w')) (T : ai_H) : ai_ev D1 mf_holds 0 [some (.ref 0), some (.int x1490), some (.int x1491)] [] (HX w T) 0 0 (some (.int r), HX w' T) := by
  unfold Ff_holds_0 at h
  refine ev_go 2 (pc' := 2) (L' := [some (.ref 0), some (.int x1490), some (.int x1491)]) (st' := [.int x1490, .ref 0]) (h' := (HX w T)) (cs' := 0) (sl' := 0) rfl ?_
  obtain ⟨c1492, hq, h⟩ := ai_bdE h
  refine ev_call (M' := mf_takesBallast) (L' := [some (.ref 0), some (.int x1490)]) (rest := []) (rv := some (.int c1492.1)) (h' := (HX c1492.2 T)) rfl (Ef_takesBallast_0 x1490 w _ _ hq T) ?_
  show ai_ev D1 mf_holds 5 [some (.ref 0), some (.int x1490), some (.int x1491)] [.int c1492.1] (HX c1492.2 T) 0 0 _
  rcases ai_ifE h with ⟨hc, h⟩ | ⟨hc, h⟩
  · refine ev_if_eq (t := 19) rfl rfl (fun _ => ?_) (fun c9 => absurd hc c9)
    refine ev_go 2 (pc' := 22) (L' := [some (.ref 0), some (.int x1490), some (.int x1491)]) (st' := [.int (-10), .ref 0]) (h' := (HX c1492.2 T)) (cs' := 0) (sl' := 0) rfl ?_
    obtain ⟨c1493, hq, h⟩ := ai_bdE h
    refine ev_call (M' := mf_bad) (L' := [some (.ref 0), some (.int (-10))]) (rest := []) (rv := some (.int c1493.1)) (h' := (HX c1493.2 T)) rfl (Ef_bad_0 (-10) c1492.2 _ _ hq T) ?_
    show ai_ev D1 mf_holds 25 [some (.ref 0), some (.int x1490), some (.int x1491)] [.int c1493.1] (HX c1493.2 T) 0 0 _
    obtain ⟨rfl, rfl⟩ := ai_smP h
    exact ev_end rfl
  · refine ev_if_eq (t := 19) rfl rfl (fun c9 => absurd c9 hc) (fun _ => ?_)
    refine ev_go 3 (pc' := 13) (L' := [some (.ref 0), some (.int x1490), some (.int x1491)]) (st' := [.int x1491, .ref 1]) (h' := (HX c1492.2 T)) (cs' := 0) (sl' := 0) rfl ?_
    obtain ⟨c1494, hq, h⟩ := ai_bdE h
    refine ev_call (M' := msea_hasCell) (L' := [some (.ref 1), some (.int x1491)]) (rest := []) (rv := some (.int c1494.1)) (h' := (HX c1494.2 T)) rfl (Esea_hasCell_1 x1491 c1492.2 _ _ hq T) ?_
    show ai_ev D1 mf_holds 16 [some (.ref 0), some (.int x1490), some (.int x1491)] [.int c1494.1] (HX c1494.2 T) 0 0 _
    rcases ai_ifE h with ⟨hc, h⟩ | ⟨hc, h⟩
    · refine ev_if_ne (t := 26) rfl rfl (fun c9 => absurd hc c9) (fun _ => ?_)
      refine ev_go 2 (pc' := 22) (L' := [some (.ref 0), some (.int x1490), some (.int x1491)]) (st' := [.int (-10), .ref 0]) (h' := (HX c1494.2 T)) (cs' := 0) (sl' := 0) rfl ?_
      obtain ⟨c1496, hq, h⟩ := ai_bdE h
      refine ev_call (M' := mf_bad) (L' := [some (.ref 0), some (.int (-10))]) (rest := []) (rv := some (.int c1496.1)) (h' := (HX c1496.2 T)) rfl (Ef_bad_0 (-10) c1494.2 _ _ hq T) ?_
      show ai_ev D1 mf_holds 25 [some (.ref 0), some (.int x1490), some (.int x1491)] [.int c1496.1] (HX c1496.2 T) 0 0 _
      obtain ⟨rfl, rfl⟩ := ai_smP h
      exact ev_end rfl
    · refine ev_if_ne (t := 26) rfl rfl (fun _ => ?_) (fun c9 => absurd c9 hc)
      refine ev_go 7 (pc' := 38) (L' := [some (.ref 0), some (.int x1490), some (.int x1491)]) (st' := [.int (a_s1_hour c1494.2), .int 99, .int x1491, .int x1490, .ref 0]) (h' := (HX c1494.2 T)) (cs' := 0) (sl' := 0) rfl ?_
      obtain ⟨c1495, hq, h⟩ := ai_bdE h
      refine ev_call (M' := mf_letGoWithBallast) (L' := [some (.ref 0), some (.int x1490), some (.int x1491), some (.int 99), some (.int (a_s1_hour c1494.2))]) (rest := []) (rv := none) (h' := (HX c1495 T)) rfl (Ef_letGoWithBallast_0 n x1490 x1491 99 (a_s1_hour c1494.2) c1494.2 _ hq T) ?_
      show ai_ev D1 mf_holds 41 [some (.ref 0), some (.int x1490), some (.int x1491)] [] (HX c1495 T) 0 0 _
      refine ev_go 3 (pc' := 48) (L' := [some (.ref 0), some (.int x1490), some (.int x1491)]) (st' := [.int (a_fall_stopper c1495)]) (h' := (HX c1495 T)) (cs' := 0) (sl' := 0) rfl ?_
      obtain ⟨rfl, rfl⟩ := ai_smP h
      exact ev_end rfl
set_option maxHeartbeats 40000000 in
set_option maxRecDepth 100000 in
theorem EGf_bestHour_0 : ∀ n : Nat, (∀ (y1506 : Int32) (y1507 : Int32) (y1508 : Int32) (y1509 : Int32) (y1510 : Int32) (y1511 : Int32) (w : WX) (r : Int32) (w' : WX), Gf_bestHour_0 n 0 y1506 y1507 y1508 y1509 y1510 y1511 w = some (r, w') → ∀ (T : ai_H) (o7 : Option Value), ai_ev D1 mf_bestHour 45 [some (.ref 0), some (.int y1506), some (.int y1507), some (.int y1508), some (.int y1509), some (.int y1510), some (.int y1511), o7] [] (HX w T) 0 0 (some (.int r), HX w' T)) := by
  intro n
  induction n with
  | zero =>
    exact (fun _ _ _ _ _ _ _ _ _ h => by cases h)
  | succ n ih0 =>
    intro y1506 y1507 y1508 y1509 y1510 y1511 w r w' h T o7
    simp only [Gf_bestHour_0] at h
    refine ev_go 2 (pc' := 49) (L' := [some (.ref 0), some (.int y1506), some (.int y1507), some (.int y1508), some (.int y1509), some (.int y1510), some (.int y1511), o7]) (st' := [.int 6, .int y1511]) (h' := (HX w T)) (cs' := 0) (sl' := 0) rfl ?_
    rcases ai_ifE h with ⟨hc, h⟩ | ⟨hc, h⟩
    · refine ev_ic_ge (t := 98) rfl rfl (fun _ => ?_) (fun c9 => absurd hc c9)
      refine ev_go 1 (pc' := 100) (L' := [some (.ref 0), some (.int y1506), some (.int y1507), some (.int y1508), some (.int y1509), some (.int y1510), some (.int y1511), o7]) (st' := [.int y1509]) (h' := (HX w T)) (cs' := 0) (sl' := 0) rfl ?_
      obtain ⟨rfl, rfl⟩ := ai_smP h
      exact ev_end rfl
    · refine ev_ic_ge (t := 98) rfl rfl (fun c9 => absurd c9 hc) (fun _ => ?_)
      refine ev_go 9 (pc' := 66) (L' := [some (.ref 0), some (.int y1506), some (.int y1507), some (.int y1508), some (.int y1509), some (.int y1510), some (.int y1511), o7]) (st' := [.int ((a_s1_hour w) + y1511), .int y1508, .int y1507, .int y1506, .ref 0]) (h' := (HX w T)) (cs' := 0) (sl' := 0) rfl ?_
      obtain ⟨c1512, hq, h⟩ := ai_bdE h
      refine ev_call (M' := mf_leastBallast) (L' := [some (.ref 0), some (.int y1506), some (.int y1507), some (.int y1508), some (.int ((a_s1_hour w) + y1511)), none]) (rest := []) (rv := some (.int c1512.1)) (h' := (HX c1512.2 T)) rfl (Ef_leastBallast_0 n y1506 y1507 y1508 ((a_s1_hour w) + y1511) w _ _ hq T) ?_
      show ai_ev D1 mf_bestHour 69 [some (.ref 0), some (.int y1506), some (.int y1507), some (.int y1508), some (.int y1509), some (.int y1510), some (.int y1511), o7] [.int c1512.1] (HX c1512.2 T) 0 0 _
      refine ev_go 3 (pc' := 74) (L' := [some (.ref 0), some (.int y1506), some (.int y1507), some (.int y1508), some (.int y1509), some (.int y1510), some (.int y1511), some (.int c1512.1)]) (st' := [.int (-1), .int c1512.1]) (h' := (HX c1512.2 T)) (cs' := 0) (sl' := 0) rfl ?_
      rcases ai_ifE h with ⟨hc, h⟩ | ⟨hc, h⟩
      · refine ev_ic_eq (t := 92) rfl rfl (fun _ => ?_) (fun c9 => absurd hc c9)
        refine ev_go 2 (pc' := 45) (L' := [some (.ref 0), some (.int y1506), some (.int y1507), some (.int y1508), some (.int y1509), some (.int y1510), some (.int (y1511 + 1)), some (.int c1512.1)]) (st' := []) (h' := (HX c1512.2 T)) (cs' := 0) (sl' := 0) rfl ?_
        exact ih0 _ _ _ _ _ _ _ _ _ h T _
      · refine ev_ic_eq (t := 92) rfl rfl (fun c9 => absurd c9 hc) (fun _ => ?_)
        refine ev_go 2 (pc' := 81) (L' := [some (.ref 0), some (.int y1506), some (.int y1507), some (.int y1508), some (.int y1509), some (.int y1510), some (.int y1511), some (.int c1512.1)]) (st' := [.int y1510, .int c1512.1]) (h' := (HX c1512.2 T)) (cs' := 0) (sl' := 0) rfl ?_
        rcases ai_ifE h with ⟨hc, h⟩ | ⟨hc, h⟩
        · refine ev_ic_ge (t := 92) rfl rfl (fun _ => ?_) (fun c9 => absurd hc c9)
          refine ev_go 2 (pc' := 45) (L' := [some (.ref 0), some (.int y1506), some (.int y1507), some (.int y1508), some (.int y1509), some (.int y1510), some (.int (y1511 + 1)), some (.int c1512.1)]) (st' := []) (h' := (HX c1512.2 T)) (cs' := 0) (sl' := 0) rfl ?_
          exact ih0 _ _ _ _ _ _ _ _ _ h T _
        · refine ev_ic_ge (t := 92) rfl rfl (fun c9 => absurd c9 hc) (fun _ => ?_)
          refine ev_go 6 (pc' := 45) (L' := [some (.ref 0), some (.int y1506), some (.int y1507), some (.int y1508), some (.int y1511), some (.int c1512.1), some (.int (y1511 + 1)), some (.int c1512.1)]) (st' := []) (h' := (HX c1512.2 T)) (cs' := 0) (sl' := 0) rfl ?_
          exact ih0 _ _ _ _ _ _ _ _ _ h T _
set_option maxHeartbeats 40000000 in
set_option maxRecDepth 100000 in
theorem Ef_bestHour_0 (n : Nat) (x1497 : Int32) (x1498 : Int32) (x1499 : Int32) (w : WX) (r : Int32) (w' : WX) (h : Ff_bestHour_0 n x1497 x1498 x1499 w = some (r, w')) (T : ai_H) : ai_ev D1 mf_bestHour 0 [some (.ref 0), some (.int x1497), some (.int x1498), some (.int x1499), none, none, none, none] [] (HX w T) 0 0 (some (.int r), HX w' T) := by
  unfold Ff_bestHour_0 at h
  have ih0 := EGf_bestHour_0 n
  refine ev_go 2 (pc' := 2) (L' := [some (.ref 0), some (.int x1497), some (.int x1498), some (.int x1499), none, none, none, none]) (st' := [.int x1497, .ref 0]) (h' := (HX w T)) (cs' := 0) (sl' := 0) rfl ?_
  obtain ⟨c1500, hq, h⟩ := ai_bdE h
  refine ev_call (M' := mf_takesBallast) (L' := [some (.ref 0), some (.int x1497)]) (rest := []) (rv := some (.int c1500.1)) (h' := (HX c1500.2 T)) rfl (Ef_takesBallast_0 x1497 w _ _ hq T) ?_
  show ai_ev D1 mf_bestHour 5 [some (.ref 0), some (.int x1497), some (.int x1498), some (.int x1499), none, none, none, none] [.int c1500.1] (HX c1500.2 T) 0 0 _
  rcases ai_ifE h with ⟨hc, h⟩ | ⟨hc, h⟩
  · refine ev_if_eq (t := 28) rfl rfl (fun _ => ?_) (fun c9 => absurd hc c9)
    refine ev_go 2 (pc' := 31) (L' := [some (.ref 0), some (.int x1497), some (.int x1498), some (.int x1499), none, none, none, none]) (st' := [.int (-10), .ref 0]) (h' := (HX c1500.2 T)) (cs' := 0) (sl' := 0) rfl ?_
    obtain ⟨c1501, hq, h⟩ := ai_bdE h
    refine ev_call (M' := mf_bad) (L' := [some (.ref 0), some (.int (-10))]) (rest := []) (rv := some (.int c1501.1)) (h' := (HX c1501.2 T)) rfl (Ef_bad_0 (-10) c1500.2 _ _ hq T) ?_
    show ai_ev D1 mf_bestHour 34 [some (.ref 0), some (.int x1497), some (.int x1498), some (.int x1499), none, none, none, none] [.int c1501.1] (HX c1501.2 T) 0 0 _
    obtain ⟨rfl, rfl⟩ := ai_smP h
    exact ev_end rfl
  · refine ev_if_eq (t := 28) rfl rfl (fun c9 => absurd c9 hc) (fun _ => ?_)
    refine ev_go 3 (pc' := 13) (L' := [some (.ref 0), some (.int x1497), some (.int x1498), some (.int x1499), none, none, none, none]) (st' := [.int x1498, .ref 1]) (h' := (HX c1500.2 T)) (cs' := 0) (sl' := 0) rfl ?_
    obtain ⟨c1502, hq, h⟩ := ai_bdE h
    refine ev_call (M' := msea_hasCell) (L' := [some (.ref 1), some (.int x1498)]) (rest := []) (rv := some (.int c1502.1)) (h' := (HX c1502.2 T)) rfl (Esea_hasCell_1 x1498 c1500.2 _ _ hq T) ?_
    show ai_ev D1 mf_bestHour 16 [some (.ref 0), some (.int x1497), some (.int x1498), some (.int x1499), none, none, none, none] [.int c1502.1] (HX c1502.2 T) 0 0 _
    rcases ai_ifE h with ⟨hc, h⟩ | ⟨hc, h⟩
    · refine ev_if_eq (t := 28) rfl rfl (fun _ => ?_) (fun c9 => absurd hc c9)
      refine ev_go 2 (pc' := 31) (L' := [some (.ref 0), some (.int x1497), some (.int x1498), some (.int x1499), none, none, none, none]) (st' := [.int (-10), .ref 0]) (h' := (HX c1502.2 T)) (cs' := 0) (sl' := 0) rfl ?_
      obtain ⟨c1503, hq, h⟩ := ai_bdE h
      refine ev_call (M' := mf_bad) (L' := [some (.ref 0), some (.int (-10))]) (rest := []) (rv := some (.int c1503.1)) (h' := (HX c1503.2 T)) rfl (Ef_bad_0 (-10) c1502.2 _ _ hq T) ?_
      show ai_ev D1 mf_bestHour 34 [some (.ref 0), some (.int x1497), some (.int x1498), some (.int x1499), none, none, none, none] [.int c1503.1] (HX c1503.2 T) 0 0 _
      obtain ⟨rfl, rfl⟩ := ai_smP h
      exact ev_end rfl
    · refine ev_if_eq (t := 28) rfl rfl (fun c9 => absurd c9 hc) (fun _ => ?_)
      refine ev_go 3 (pc' := 22) (L' := [some (.ref 0), some (.int x1497), some (.int x1498), some (.int x1499), none, none, none, none]) (st' := [.int 4, .int 0, .int x1499]) (h' := (HX c1502.2 T)) (cs' := 0) (sl' := 0) rfl ?_
      obtain ⟨c1504, hq, h⟩ := ai_bdE h
      refine ev_call (M' := mf_within) (L' := [some (.int x1499), some (.int 0), some (.int 4)]) (rest := []) (rv := some (.int c1504)) (h' := (HX c1502.2 T)) rfl (Ef_within x1499 0 4 _ hq (HX c1502.2 T)) ?_
      show ai_ev D1 mf_bestHour 25 [some (.ref 0), some (.int x1497), some (.int x1498), some (.int x1499), none, none, none, none] [.int c1504] (HX c1502.2 T) 0 0 _
      rcases ai_ifE h with ⟨hc, h⟩ | ⟨hc, h⟩
      · refine ev_if_ne (t := 35) rfl rfl (fun c9 => absurd hc c9) (fun _ => ?_)
        refine ev_go 2 (pc' := 31) (L' := [some (.ref 0), some (.int x1497), some (.int x1498), some (.int x1499), none, none, none, none]) (st' := [.int (-10), .ref 0]) (h' := (HX c1502.2 T)) (cs' := 0) (sl' := 0) rfl ?_
        obtain ⟨c1505, hq, h⟩ := ai_bdE h
        refine ev_call (M' := mf_bad) (L' := [some (.ref 0), some (.int (-10))]) (rest := []) (rv := some (.int c1505.1)) (h' := (HX c1505.2 T)) rfl (Ef_bad_0 (-10) c1502.2 _ _ hq T) ?_
        show ai_ev D1 mf_bestHour 34 [some (.ref 0), some (.int x1497), some (.int x1498), some (.int x1499), none, none, none, none] [.int c1505.1] (HX c1505.2 T) 0 0 _
        obtain ⟨rfl, rfl⟩ := ai_smP h
        exact ev_end rfl
      · refine ev_if_ne (t := 35) rfl rfl (fun _ => ?_) (fun c9 => absurd c9 hc)
        refine ev_go 6 (pc' := 45) (L' := [some (.ref 0), some (.int x1497), some (.int x1498), some (.int x1499), some (.int (-1)), some (.int 100), some (.int 0), none]) (st' := []) (h' := (HX c1502.2 T)) (cs' := 0) (sl' := 0) rfl ?_
        exact ih0 _ _ _ _ _ _ _ _ _ h T _
