set_option maxHeartbeats 40000000 in
set_option maxRecDepth 100000 in
theorem Esea_putDensity_20 (x1234 : Int32) (x1235 : Int32) (w : WX) (r : Int32) (w' : WX) (h : Fsea_putDensity_20 x1234 x1235 w = some (r, w')) (T : ai_H) : ai_ev D1 msea_putDensity 0 [some (.ref 20), some (.int x1234), some (.int x1235), none, none, none] [] (HX w T) 0 0 (some (.int r), HX w' T) := by
  unfold Fsea_putDensity_20 at h
  refine ev_go 1 (pc' := 1) (L' := [some (.ref 20), some (.int x1234), some (.int x1235), none, none, none]) (st' := [.int x1234]) (h' := (HX w T)) (cs' := 0) (sl' := 0) rfl ?_
  obtain ⟨c1236, hq, h⟩ := ai_bdE h
  refine ev_call (M' := mf_isLayer) (L' := [some (.int x1234)]) (rest := []) (rv := some (.int c1236)) (h' := (HX w T)) rfl (Ef_isLayer x1234 _ hq (HX w T)) ?_
  show ai_ev D1 msea_putDensity 4 [some (.ref 20), some (.int x1234), some (.int x1235), none, none, none] [.int c1236] (HX w T) 0 0 _
  rcases ai_ifE h with ⟨hc, h⟩ | ⟨hc, h⟩
  · refine ev_if_eq (t := 17) rfl rfl (fun _ => ?_) (fun c9 => absurd hc c9)
    refine ev_go 1 (pc' := 19) (L' := [some (.ref 20), some (.int x1234), some (.int x1235), none, none, none]) (st' := [.int (-2)]) (h' := (HX w T)) (cs' := 0) (sl' := 0) rfl ?_
    obtain ⟨rfl, rfl⟩ := ai_smP h
    exact ev_end rfl
  · refine ev_if_eq (t := 17) rfl rfl (fun c9 => absurd c9 hc) (fun _ => ?_)
    refine ev_go 3 (pc' := 11) (L' := [some (.ref 20), some (.int x1234), some (.int x1235), none, none, none]) (st' := [.int 99, .int 1, .int x1235]) (h' := (HX w T)) (cs' := 0) (sl' := 0) rfl ?_
    obtain ⟨c1237, hq, h⟩ := ai_bdE h
    refine ev_call (M' := mf_within) (L' := [some (.int x1235), some (.int 1), some (.int 99)]) (rest := []) (rv := some (.int c1237)) (h' := (HX w T)) rfl (Ef_within x1235 1 99 _ hq (HX w T)) ?_
    show ai_ev D1 msea_putDensity 14 [some (.ref 20), some (.int x1234), some (.int x1235), none, none, none] [.int c1237] (HX w T) 0 0 _
    rcases ai_ifE h with ⟨hc, h⟩ | ⟨hc, h⟩
    · refine ev_if_ne (t := 20) rfl rfl (fun c9 => absurd hc c9) (fun _ => ?_)
      refine ev_go 1 (pc' := 19) (L' := [some (.ref 20), some (.int x1234), some (.int x1235), none, none, none]) (st' := [.int (-2)]) (h' := (HX w T)) (cs' := 0) (sl' := 0) rfl ?_
      obtain ⟨rfl, rfl⟩ := ai_smP h
      exact ev_end rfl
    · refine ev_if_ne (t := 20) rfl rfl (fun _ => ?_) (fun c9 => absurd c9 hc)
      refine ev_go 1 (pc' := 21) (L' := [some (.ref 20), some (.int x1234), some (.int x1235), none, none, none]) (st' := [.int x1234]) (h' := (HX w T)) (cs' := 0) (sl' := 0) rfl ?_
      rcases ai_ifE h with ⟨hc, h⟩ | ⟨hc, h⟩
      · refine ev_if_eq (t := 36) rfl rfl (fun _ => ?_) (fun c9 => absurd hc c9)
        refine ev_go 5 (pc' := 44) (L' := [some (.ref 20), some (.int x1234), some (.int x1235), some (.int 1), none, none]) (st' := [.int 3, .int x1234]) (h' := (HX w T)) (cs' := 0) (sl' := 0) rfl ?_
        rcases ai_ifE h with ⟨hc, h⟩ | ⟨hc, h⟩
        · refine ev_ic_eq (t := 59) rfl rfl (fun _ => ?_) (fun c9 => absurd hc c9)
          refine ev_go 10 (pc' := 83) (L' := [some (.ref 20), some (.int x1234), some (.int x1235), some (.int 1), some (.int 1), none]) (st' := [.int x1234, .ref 21]) (h' := (HX w T)) (cs' := 0) (sl' := 0) rfl ?_
          obtain ⟨v1238, hq, h⟩ := ai_bdE h
          refine ev_iald rfl rfl hq ?_
          refine ev_go 5 (pc' := 92) (L' := [some (.ref 20), some (.int x1234), some (.int x1235), some (.int 1), some (.int 1), some (.int v1238)]) (st' := [.int x1235, .int x1234, .ref 21]) (h' := (HX w T)) (cs' := 0) (sl' := 0) rfl ?_
          obtain ⟨q1239, hq, h⟩ := ai_bdE h
          refine ev_iast rfl rfl hq ?_
          rw [HXs_21]
          refine ev_go 1 (pc' := 95) (L' := [some (.ref 20), some (.int x1234), some (.int x1235), some (.int 1), some (.int 1), some (.int v1238)]) (st' := [.int v1238]) (h' := (HX (u_s2_densities w q1239) T)) (cs' := 0) (sl' := 0) rfl ?_
          obtain ⟨rfl, rfl⟩ := ai_smP h
          exact ev_end rfl
        · refine ev_ic_eq (t := 59) rfl rfl (fun c9 => absurd c9 hc) (fun _ => ?_)
          refine ev_go 5 (pc' := 54) (L' := [some (.ref 20), some (.int x1234), some (.int x1235), some (.int 1), none, none]) (st' := [.int (x1234 + 1), .ref 21]) (h' := (HX w T)) (cs' := 0) (sl' := 0) rfl ?_
          obtain ⟨v1240, hq, h⟩ := ai_bdE h
          refine ev_iald rfl rfl hq ?_
          refine ev_go 1 (pc' := 56) (L' := [some (.ref 20), some (.int x1234), some (.int x1235), some (.int 1), none, none]) (st' := [.int x1235, .int v1240]) (h' := (HX w T)) (cs' := 0) (sl' := 0) rfl ?_
          rcases ai_ifE h with ⟨hc, h⟩ | ⟨hc, h⟩
          · refine ev_ic_le (t := 63) rfl rfl (fun _ => ?_) (fun c9 => absurd hc c9)
            refine ev_go 7 (pc' := 77) (L' := [some (.ref 20), some (.int x1234), some (.int x1235), some (.int 1), some (.int 0), none]) (st' := [.int (-3)]) (h' := (HX w T)) (cs' := 0) (sl' := 0) rfl ?_
            obtain ⟨rfl, rfl⟩ := ai_smP h
            exact ev_end rfl
          · refine ev_ic_le (t := 63) rfl rfl (fun c9 => absurd c9 hc) (fun _ => ?_)
            refine ev_go 10 (pc' := 83) (L' := [some (.ref 20), some (.int x1234), some (.int x1235), some (.int 1), some (.int 1), none]) (st' := [.int x1234, .ref 21]) (h' := (HX w T)) (cs' := 0) (sl' := 0) rfl ?_
            obtain ⟨v1241, hq, h⟩ := ai_bdE h
            refine ev_iald rfl rfl hq ?_
            refine ev_go 5 (pc' := 92) (L' := [some (.ref 20), some (.int x1234), some (.int x1235), some (.int 1), some (.int 1), some (.int v1241)]) (st' := [.int x1235, .int x1234, .ref 21]) (h' := (HX w T)) (cs' := 0) (sl' := 0) rfl ?_
            obtain ⟨q1242, hq, h⟩ := ai_bdE h
            refine ev_iast rfl rfl hq ?_
            rw [HXs_21]
            refine ev_go 1 (pc' := 95) (L' := [some (.ref 20), some (.int x1234), some (.int x1235), some (.int 1), some (.int 1), some (.int v1241)]) (st' := [.int v1241]) (h' := (HX (u_s2_densities w q1242) T)) (cs' := 0) (sl' := 0) rfl ?_
            obtain ⟨rfl, rfl⟩ := ai_smP h
            exact ev_end rfl
      · refine ev_if_eq (t := 36) rfl rfl (fun c9 => absurd c9 hc) (fun _ => ?_)
        refine ev_go 5 (pc' := 31) (L' := [some (.ref 20), some (.int x1234), some (.int x1235), none, none, none]) (st' := [.int (x1234 - 1), .ref 21]) (h' := (HX w T)) (cs' := 0) (sl' := 0) rfl ?_
        obtain ⟨v1243, hq, h⟩ := ai_bdE h
        refine ev_iald rfl rfl hq ?_
        refine ev_go 1 (pc' := 33) (L' := [some (.ref 20), some (.int x1234), some (.int x1235), none, none, none]) (st' := [.int x1235, .int v1243]) (h' := (HX w T)) (cs' := 0) (sl' := 0) rfl ?_
        rcases ai_ifE h with ⟨hc, h⟩ | ⟨hc, h⟩
        · refine ev_ic_ge (t := 40) rfl rfl (fun _ => ?_) (fun c9 => absurd hc c9)
          refine ev_go 4 (pc' := 44) (L' := [some (.ref 20), some (.int x1234), some (.int x1235), some (.int 0), none, none]) (st' := [.int 3, .int x1234]) (h' := (HX w T)) (cs' := 0) (sl' := 0) rfl ?_
          rcases ai_ifE h with ⟨hc, h⟩ | ⟨hc, h⟩
          · refine ev_ic_eq (t := 59) rfl rfl (fun _ => ?_) (fun c9 => absurd hc c9)
            refine ev_go 6 (pc' := 77) (L' := [some (.ref 20), some (.int x1234), some (.int x1235), some (.int 0), some (.int 1), none]) (st' := [.int (-3)]) (h' := (HX w T)) (cs' := 0) (sl' := 0) rfl ?_
            obtain ⟨rfl, rfl⟩ := ai_smP h
            exact ev_end rfl
          · refine ev_ic_eq (t := 59) rfl rfl (fun c9 => absurd c9 hc) (fun _ => ?_)
            refine ev_go 5 (pc' := 54) (L' := [some (.ref 20), some (.int x1234), some (.int x1235), some (.int 0), none, none]) (st' := [.int (x1234 + 1), .ref 21]) (h' := (HX w T)) (cs' := 0) (sl' := 0) rfl ?_
            obtain ⟨v1244, hq, h⟩ := ai_bdE h
            refine ev_iald rfl rfl hq ?_
            refine ev_go 1 (pc' := 56) (L' := [some (.ref 20), some (.int x1234), some (.int x1235), some (.int 0), none, none]) (st' := [.int x1235, .int v1244]) (h' := (HX w T)) (cs' := 0) (sl' := 0) rfl ?_
            rcases ai_ifE h with ⟨hc, h⟩ | ⟨hc, h⟩
            · refine ev_ic_le (t := 63) rfl rfl (fun _ => ?_) (fun c9 => absurd hc c9)
              refine ev_go 5 (pc' := 77) (L' := [some (.ref 20), some (.int x1234), some (.int x1235), some (.int 0), some (.int 0), none]) (st' := [.int (-3)]) (h' := (HX w T)) (cs' := 0) (sl' := 0) rfl ?_
              obtain ⟨rfl, rfl⟩ := ai_smP h
              exact ev_end rfl
            · refine ev_ic_le (t := 63) rfl rfl (fun c9 => absurd c9 hc) (fun _ => ?_)
              refine ev_go 6 (pc' := 77) (L' := [some (.ref 20), some (.int x1234), some (.int x1235), some (.int 0), some (.int 1), none]) (st' := [.int (-3)]) (h' := (HX w T)) (cs' := 0) (sl' := 0) rfl ?_
              obtain ⟨rfl, rfl⟩ := ai_smP h
              exact ev_end rfl
        · refine ev_ic_ge (t := 40) rfl rfl (fun c9 => absurd c9 hc) (fun _ => ?_)
          refine ev_go 5 (pc' := 44) (L' := [some (.ref 20), some (.int x1234), some (.int x1235), some (.int 1), none, none]) (st' := [.int 3, .int x1234]) (h' := (HX w T)) (cs' := 0) (sl' := 0) rfl ?_
          rcases ai_ifE h with ⟨hc, h⟩ | ⟨hc, h⟩
          · refine ev_ic_eq (t := 59) rfl rfl (fun _ => ?_) (fun c9 => absurd hc c9)
            refine ev_go 10 (pc' := 83) (L' := [some (.ref 20), some (.int x1234), some (.int x1235), some (.int 1), some (.int 1), none]) (st' := [.int x1234, .ref 21]) (h' := (HX w T)) (cs' := 0) (sl' := 0) rfl ?_
            obtain ⟨v1245, hq, h⟩ := ai_bdE h
            refine ev_iald rfl rfl hq ?_
            refine ev_go 5 (pc' := 92) (L' := [some (.ref 20), some (.int x1234), some (.int x1235), some (.int 1), some (.int 1), some (.int v1245)]) (st' := [.int x1235, .int x1234, .ref 21]) (h' := (HX w T)) (cs' := 0) (sl' := 0) rfl ?_
            obtain ⟨q1246, hq, h⟩ := ai_bdE h
            refine ev_iast rfl rfl hq ?_
            rw [HXs_21]
            refine ev_go 1 (pc' := 95) (L' := [some (.ref 20), some (.int x1234), some (.int x1235), some (.int 1), some (.int 1), some (.int v1245)]) (st' := [.int v1245]) (h' := (HX (u_s2_densities w q1246) T)) (cs' := 0) (sl' := 0) rfl ?_
            obtain ⟨rfl, rfl⟩ := ai_smP h
            exact ev_end rfl
          · refine ev_ic_eq (t := 59) rfl rfl (fun c9 => absurd c9 hc) (fun _ => ?_)
            refine ev_go 5 (pc' := 54) (L' := [some (.ref 20), some (.int x1234), some (.int x1235), some (.int 1), none, none]) (st' := [.int (x1234 + 1), .ref 21]) (h' := (HX w T)) (cs' := 0) (sl' := 0) rfl ?_
            obtain ⟨v1247, hq, h⟩ := ai_bdE h
            refine ev_iald rfl rfl hq ?_
            refine ev_go 1 (pc' := 56) (L' := [some (.ref 20), some (.int x1234), some (.int x1235), some (.int 1), none, none]) (st' := [.int x1235, .int v1247]) (h' := (HX w T)) (cs' := 0) (sl' := 0) rfl ?_
            rcases ai_ifE h with ⟨hc, h⟩ | ⟨hc, h⟩
            · refine ev_ic_le (t := 63) rfl rfl (fun _ => ?_) (fun c9 => absurd hc c9)
              refine ev_go 7 (pc' := 77) (L' := [some (.ref 20), some (.int x1234), some (.int x1235), some (.int 1), some (.int 0), none]) (st' := [.int (-3)]) (h' := (HX w T)) (cs' := 0) (sl' := 0) rfl ?_
              obtain ⟨rfl, rfl⟩ := ai_smP h
              exact ev_end rfl
            · refine ev_ic_le (t := 63) rfl rfl (fun c9 => absurd c9 hc) (fun _ => ?_)
              refine ev_go 10 (pc' := 83) (L' := [some (.ref 20), some (.int x1234), some (.int x1235), some (.int 1), some (.int 1), none]) (st' := [.int x1234, .ref 21]) (h' := (HX w T)) (cs' := 0) (sl' := 0) rfl ?_
              obtain ⟨v1248, hq, h⟩ := ai_bdE h
              refine ev_iald rfl rfl hq ?_
              refine ev_go 5 (pc' := 92) (L' := [some (.ref 20), some (.int x1234), some (.int x1235), some (.int 1), some (.int 1), some (.int v1248)]) (st' := [.int x1235, .int x1234, .ref 21]) (h' := (HX w T)) (cs' := 0) (sl' := 0) rfl ?_
              obtain ⟨q1249, hq, h⟩ := ai_bdE h
              refine ev_iast rfl rfl hq ?_
              rw [HXs_21]
              refine ev_go 1 (pc' := 95) (L' := [some (.ref 20), some (.int x1234), some (.int x1235), some (.int 1), some (.int 1), some (.int v1248)]) (st' := [.int v1248]) (h' := (HX (u_s2_densities w q1249) T)) (cs' := 0) (sl' := 0) rfl ?_
              obtain ⟨rfl, rfl⟩ := ai_smP h
              exact ev_end rfl
set_option maxHeartbeats 40000000 in
set_option maxRecDepth 100000 in
theorem Esea_hasCell_20 (x1258 : Int32) (w : WX) (r : Int32) (w' : WX) (h : Fsea_hasCell_20 x1258 w = some (r, w')) (T : ai_H) : ai_ev D1 msea_hasCell 0 [some (.ref 20), some (.int x1258)] [] (HX w T) 0 0 (some (.int r), HX w' T) := by
  unfold Fsea_hasCell_20 at h
  refine ev_go 6 (pc' := 8) (L' := [some (.ref 20), some (.int x1258)]) (st' := [.int ((a_s2_cells w) - 1), .int 0, .int x1258]) (h' := (HX w T)) (cs' := 0) (sl' := 0) rfl ?_
  obtain ⟨c1259, hq, h⟩ := ai_bdE h
  refine ev_call (M' := mf_within) (L' := [some (.int x1258), some (.int 0), some (.int ((a_s2_cells w) - 1))]) (rest := []) (rv := some (.int c1259)) (h' := (HX w T)) rfl (Ef_within x1258 0 ((a_s2_cells w) - 1) _ hq (HX w T)) ?_
  show ai_ev D1 msea_hasCell 11 [some (.ref 20), some (.int x1258)] [.int c1259] (HX w T) 0 0 _
  obtain ⟨hv, h⟩ := ai_ifS h
  obtain ⟨rfl, rfl⟩ := ai_smP h
  exact ev_zend rfl rfl rfl hv
set_option maxHeartbeats 40000000 in
set_option maxRecDepth 100000 in
theorem Esea_putThick_20 (x1254 : Int32) (x1255 : Int32) (x1256 : Int32) (w : WX) (r : Int32) (w' : WX) (h : Fsea_putThick_20 x1254 x1255 x1256 w = some (r, w')) (T : ai_H) : ai_ev D1 msea_putThick 0 [some (.ref 20), some (.int x1254), some (.int x1255), some (.int x1256), none, none] [] (HX w T) 0 0 (some (.int r), HX w' T) := by
  unfold Fsea_putThick_20 at h
  refine ev_go 1 (pc' := 1) (L' := [some (.ref 20), some (.int x1254), some (.int x1255), some (.int x1256), none, none]) (st' := [.int x1254]) (h' := (HX w T)) (cs' := 0) (sl' := 0) rfl ?_
  obtain ⟨c1257, hq, h⟩ := ai_bdE h
  refine ev_call (M' := mf_isLayer) (L' := [some (.int x1254)]) (rest := []) (rv := some (.int c1257)) (h' := (HX w T)) rfl (Ef_isLayer x1254 _ hq (HX w T)) ?_
  show ai_ev D1 msea_putThick 4 [some (.ref 20), some (.int x1254), some (.int x1255), some (.int x1256), none, none] [.int c1257] (HX w T) 0 0 _
  rcases ai_ifE h with ⟨hc, h⟩ | ⟨hc, h⟩
  · refine ev_if_eq (t := 25) rfl rfl (fun _ => ?_) (fun c9 => absurd hc c9)
    refine ev_go 1 (pc' := 27) (L' := [some (.ref 20), some (.int x1254), some (.int x1255), some (.int x1256), none, none]) (st' := [.int (-2)]) (h' := (HX w T)) (cs' := 0) (sl' := 0) rfl ?_
    obtain ⟨rfl, rfl⟩ := ai_smP h
    exact ev_end rfl
  · refine ev_if_eq (t := 25) rfl rfl (fun c9 => absurd c9 hc) (fun _ => ?_)
    refine ev_go 2 (pc' := 9) (L' := [some (.ref 20), some (.int x1254), some (.int x1255), some (.int x1256), none, none]) (st' := [.int x1255, .ref 20]) (h' := (HX w T)) (cs' := 0) (sl' := 0) rfl ?_
    obtain ⟨c1260, hq, h⟩ := ai_bdE h
    refine ev_call (M' := msea_hasCell) (L' := [some (.ref 20), some (.int x1255)]) (rest := []) (rv := some (.int c1260.1)) (h' := (HX c1260.2 T)) rfl (Esea_hasCell_20 x1255 w _ _ hq T) ?_
    show ai_ev D1 msea_putThick 12 [some (.ref 20), some (.int x1254), some (.int x1255), some (.int x1256), none, none] [.int c1260.1] (HX c1260.2 T) 0 0 _
    rcases ai_ifE h with ⟨hc, h⟩ | ⟨hc, h⟩
    · refine ev_if_eq (t := 25) rfl rfl (fun _ => ?_) (fun c9 => absurd hc c9)
      refine ev_go 1 (pc' := 27) (L' := [some (.ref 20), some (.int x1254), some (.int x1255), some (.int x1256), none, none]) (st' := [.int (-2)]) (h' := (HX c1260.2 T)) (cs' := 0) (sl' := 0) rfl ?_
      obtain ⟨rfl, rfl⟩ := ai_smP h
      exact ev_end rfl
    · refine ev_if_eq (t := 25) rfl rfl (fun c9 => absurd c9 hc) (fun _ => ?_)
      refine ev_go 3 (pc' := 19) (L' := [some (.ref 20), some (.int x1254), some (.int x1255), some (.int x1256), none, none]) (st' := [.int 9, .int 0, .int x1256]) (h' := (HX c1260.2 T)) (cs' := 0) (sl' := 0) rfl ?_
      obtain ⟨c1261, hq, h⟩ := ai_bdE h
      refine ev_call (M' := mf_within) (L' := [some (.int x1256), some (.int 0), some (.int 9)]) (rest := []) (rv := some (.int c1261)) (h' := (HX c1260.2 T)) rfl (Ef_within x1256 0 9 _ hq (HX c1260.2 T)) ?_
      show ai_ev D1 msea_putThick 22 [some (.ref 20), some (.int x1254), some (.int x1255), some (.int x1256), none, none] [.int c1261] (HX c1260.2 T) 0 0 _
      rcases ai_ifE h with ⟨hc, h⟩ | ⟨hc, h⟩
      · refine ev_if_ne (t := 28) rfl rfl (fun c9 => absurd hc c9) (fun _ => ?_)
        refine ev_go 1 (pc' := 27) (L' := [some (.ref 20), some (.int x1254), some (.int x1255), some (.int x1256), none, none]) (st' := [.int (-2)]) (h' := (HX c1260.2 T)) (cs' := 0) (sl' := 0) rfl ?_
        obtain ⟨rfl, rfl⟩ := ai_smP h
        exact ev_end rfl
      · refine ev_if_ne (t := 28) rfl rfl (fun _ => ?_) (fun c9 => absurd c9 hc)
        refine ev_go 9 (pc' := 42) (L' := [some (.ref 20), some (.int x1254), some (.int x1255), some (.int x1256), some (.int ((x1254 * 6) + x1255)), none]) (st' := [.int ((x1254 * 6) + x1255), .ref 24]) (h' := (HX c1260.2 T)) (cs' := 0) (sl' := 0) rfl ?_
        obtain ⟨v1262, hq, h⟩ := ai_bdE h
        refine ev_iald rfl rfl hq ?_
        refine ev_go 5 (pc' := 52) (L' := [some (.ref 20), some (.int x1254), some (.int x1255), some (.int x1256), some (.int ((x1254 * 6) + x1255)), some (.int v1262)]) (st' := [.int x1256, .int ((x1254 * 6) + x1255), .ref 24]) (h' := (HX c1260.2 T)) (cs' := 0) (sl' := 0) rfl ?_
        obtain ⟨q1263, hq, h⟩ := ai_bdE h
        refine ev_iast rfl rfl hq ?_
        rw [HXs_24]
        refine ev_go 1 (pc' := 55) (L' := [some (.ref 20), some (.int x1254), some (.int x1255), some (.int x1256), some (.int ((x1254 * 6) + x1255)), some (.int v1262)]) (st' := [.int v1262]) (h' := (HX (u_s2_thicks c1260.2 q1263) T)) (cs' := 0) (sl' := 0) rfl ?_
        obtain ⟨rfl, rfl⟩ := ai_smP h
        exact ev_end rfl
set_option maxHeartbeats 40000000 in
set_option maxRecDepth 100000 in
theorem Esea_putSkin_20 (x1267 : Int32) (x1268 : Int32) (w : WX) (r : Int32) (w' : WX) (h : Fsea_putSkin_20 x1267 x1268 w = some (r, w')) (T : ai_H) : ai_ev D1 msea_putSkin 0 [some (.ref 20), some (.int x1267), some (.int x1268), none] [] (HX w T) 0 0 (some (.int r), HX w' T) := by
  unfold Fsea_putSkin_20 at h
  refine ev_go 3 (pc' := 3) (L' := [some (.ref 20), some (.int x1267), some (.int x1268), none]) (st' := [.int 2, .int 0, .int x1267]) (h' := (HX w T)) (cs' := 0) (sl' := 0) rfl ?_
  obtain ⟨c1269, hq, h⟩ := ai_bdE h
  refine ev_call (M' := mf_within) (L' := [some (.int x1267), some (.int 0), some (.int 2)]) (rest := []) (rv := some (.int c1269)) (h' := (HX w T)) rfl (Ef_within x1267 0 2 _ hq (HX w T)) ?_
  show ai_ev D1 msea_putSkin 6 [some (.ref 20), some (.int x1267), some (.int x1268), none] [.int c1269] (HX w T) 0 0 _
  rcases ai_ifE h with ⟨hc, h⟩ | ⟨hc, h⟩
  · refine ev_if_eq (t := 19) rfl rfl (fun _ => ?_) (fun c9 => absurd hc c9)
    refine ev_go 1 (pc' := 21) (L' := [some (.ref 20), some (.int x1267), some (.int x1268), none]) (st' := [.int (-2)]) (h' := (HX w T)) (cs' := 0) (sl' := 0) rfl ?_
    obtain ⟨rfl, rfl⟩ := ai_smP h
    exact ev_end rfl
  · refine ev_if_eq (t := 19) rfl rfl (fun c9 => absurd c9 hc) (fun _ => ?_)
    refine ev_go 3 (pc' := 13) (L' := [some (.ref 20), some (.int x1267), some (.int x1268), none]) (st' := [.int 99, .int 0, .int x1268]) (h' := (HX w T)) (cs' := 0) (sl' := 0) rfl ?_
    obtain ⟨c1270, hq, h⟩ := ai_bdE h
    refine ev_call (M' := mf_within) (L' := [some (.int x1268), some (.int 0), some (.int 99)]) (rest := []) (rv := some (.int c1270)) (h' := (HX w T)) rfl (Ef_within x1268 0 99 _ hq (HX w T)) ?_
    show ai_ev D1 msea_putSkin 16 [some (.ref 20), some (.int x1267), some (.int x1268), none] [.int c1270] (HX w T) 0 0 _
    rcases ai_ifE h with ⟨hc, h⟩ | ⟨hc, h⟩
    · refine ev_if_ne (t := 22) rfl rfl (fun c9 => absurd hc c9) (fun _ => ?_)
      refine ev_go 1 (pc' := 21) (L' := [some (.ref 20), some (.int x1267), some (.int x1268), none]) (st' := [.int (-2)]) (h' := (HX w T)) (cs' := 0) (sl' := 0) rfl ?_
      obtain ⟨rfl, rfl⟩ := ai_smP h
      exact ev_end rfl
    · refine ev_if_ne (t := 22) rfl rfl (fun _ => ?_) (fun c9 => absurd c9 hc)
      refine ev_go 3 (pc' := 27) (L' := [some (.ref 20), some (.int x1267), some (.int x1268), none]) (st' := [.int x1267, .ref 25]) (h' := (HX w T)) (cs' := 0) (sl' := 0) rfl ?_
      obtain ⟨v1271, hq, h⟩ := ai_bdE h
      refine ev_iald rfl rfl hq ?_
      refine ev_go 5 (pc' := 35) (L' := [some (.ref 20), some (.int x1267), some (.int x1268), some (.int v1271)]) (st' := [.int x1268, .int x1267, .ref 25]) (h' := (HX w T)) (cs' := 0) (sl' := 0) rfl ?_
      obtain ⟨q1272, hq, h⟩ := ai_bdE h
      refine ev_iast rfl rfl hq ?_
      rw [HXs_25]
      refine ev_go 1 (pc' := 37) (L' := [some (.ref 20), some (.int x1267), some (.int x1268), some (.int v1271)]) (st' := [.int v1271]) (h' := (HX (u_s2_skins w q1272) T)) (cs' := 0) (sl' := 0) rfl ?_
      obtain ⟨rfl, rfl⟩ := ai_smP h
      exact ev_end rfl
set_option maxHeartbeats 40000000 in
set_option maxRecDepth 100000 in
theorem Ethg_add_26 (x1277 : Int32) (x1278 : Int32) (x1279 : Int32) (w : WX) (r : Int32) (w' : WX) (h : Fthg_add_26 x1277 x1278 x1279 w = some (r, w')) (T : ai_H) : ai_ev D1 mthg_add 0 [some (.ref 26), some (.int x1277), some (.int x1278), some (.int x1279)] [] (HX w T) 0 0 (some (.int r), HX w' T) := by
  unfold Fthg_add_26 at h
  refine ev_go 3 (pc' := 3) (L' := [some (.ref 26), some (.int x1277), some (.int x1278), some (.int x1279)]) (st' := [.int 5, .int 0, .int x1277]) (h' := (HX w T)) (cs' := 0) (sl' := 0) rfl ?_
  obtain ⟨c1280, hq, h⟩ := ai_bdE h
  refine ev_call (M' := mf_within) (L' := [some (.int x1277), some (.int 0), some (.int 5)]) (rest := []) (rv := some (.int c1280)) (h' := (HX w T)) rfl (Ef_within x1277 0 5 _ hq (HX w T)) ?_
  show ai_ev D1 mthg_add 6 [some (.ref 26), some (.int x1277), some (.int x1278), some (.int x1279)] [.int c1280] (HX w T) 0 0 _
  rcases ai_ifE h with ⟨hc, h⟩ | ⟨hc, h⟩
  · refine ev_if_eq (t := 29) rfl rfl (fun _ => ?_) (fun c9 => absurd hc c9)
    refine ev_go 1 (pc' := 31) (L' := [some (.ref 26), some (.int x1277), some (.int x1278), some (.int x1279)]) (st' := [.int (-2)]) (h' := (HX w T)) (cs' := 0) (sl' := 0) rfl ?_
    obtain ⟨rfl, rfl⟩ := ai_smP h
    exact ev_end rfl
  · refine ev_if_eq (t := 29) rfl rfl (fun c9 => absurd c9 hc) (fun _ => ?_)
    refine ev_go 3 (pc' := 13) (L' := [some (.ref 26), some (.int x1277), some (.int x1278), some (.int x1279)]) (st' := [.int 99, .int 1, .int x1278]) (h' := (HX w T)) (cs' := 0) (sl' := 0) rfl ?_
    obtain ⟨c1281, hq, h⟩ := ai_bdE h
    refine ev_call (M' := mf_within) (L' := [some (.int x1278), some (.int 1), some (.int 99)]) (rest := []) (rv := some (.int c1281)) (h' := (HX w T)) rfl (Ef_within x1278 1 99 _ hq (HX w T)) ?_
    show ai_ev D1 mthg_add 16 [some (.ref 26), some (.int x1277), some (.int x1278), some (.int x1279)] [.int c1281] (HX w T) 0 0 _
    rcases ai_ifE h with ⟨hc, h⟩ | ⟨hc, h⟩
    · refine ev_if_eq (t := 29) rfl rfl (fun _ => ?_) (fun c9 => absurd hc c9)
      refine ev_go 1 (pc' := 31) (L' := [some (.ref 26), some (.int x1277), some (.int x1278), some (.int x1279)]) (st' := [.int (-2)]) (h' := (HX w T)) (cs' := 0) (sl' := 0) rfl ?_
      obtain ⟨rfl, rfl⟩ := ai_smP h
      exact ev_end rfl
    · refine ev_if_eq (t := 29) rfl rfl (fun c9 => absurd c9 hc) (fun _ => ?_)
      refine ev_go 3 (pc' := 23) (L' := [some (.ref 26), some (.int x1277), some (.int x1278), some (.int x1279)]) (st' := [.int 9, .int 1, .int x1279]) (h' := (HX w T)) (cs' := 0) (sl' := 0) rfl ?_
      obtain ⟨c1282, hq, h⟩ := ai_bdE h
      refine ev_call (M' := mf_within) (L' := [some (.int x1279), some (.int 1), some (.int 9)]) (rest := []) (rv := some (.int c1282)) (h' := (HX w T)) rfl (Ef_within x1279 1 9 _ hq (HX w T)) ?_
      show ai_ev D1 mthg_add 26 [some (.ref 26), some (.int x1277), some (.int x1278), some (.int x1279)] [.int c1282] (HX w T) 0 0 _
      rcases ai_ifE h with ⟨hc, h⟩ | ⟨hc, h⟩
      · refine ev_if_ne (t := 32) rfl rfl (fun c9 => absurd hc c9) (fun _ => ?_)
        refine ev_go 1 (pc' := 31) (L' := [some (.ref 26), some (.int x1277), some (.int x1278), some (.int x1279)]) (st' := [.int (-2)]) (h' := (HX w T)) (cs' := 0) (sl' := 0) rfl ?_
        obtain ⟨rfl, rfl⟩ := ai_smP h
        exact ev_end rfl
      · refine ev_if_ne (t := 32) rfl rfl (fun _ => ?_) (fun c9 => absurd c9 hc)
        refine ev_go 3 (pc' := 38) (L' := [some (.ref 26), some (.int x1277), some (.int x1278), some (.int x1279)]) (st' := [.int 6, .int (a_s2things_count w)]) (h' := (HX w T)) (cs' := 0) (sl' := 0) rfl ?_
        rcases ai_ifE h with ⟨hc, h⟩ | ⟨hc, h⟩
        · refine ev_ic_lt (t := 44) rfl rfl (fun _ => ?_) (fun c9 => absurd hc c9)
          refine ev_go 5 (pc' := 53) (L' := [some (.ref 26), some (.int x1277), some (.int x1278), some (.int x1279)]) (st' := [.int x1277, .int (a_s2things_count w), .ref 27]) (h' := (HX w T)) (cs' := 0) (sl' := 0) rfl ?_
          obtain ⟨q1283, hq, h⟩ := ai_bdE h
          refine ev_iast rfl rfl hq ?_
          rw [HXs_27]
          refine ev_go 5 (pc' := 63) (L' := [some (.ref 26), some (.int x1277), some (.int x1278), some (.int x1279)]) (st' := [.int x1278, .int (a_s2things_count w), .ref 28]) (h' := (HX (u_s2things_kinds w q1283) T)) (cs' := 0) (sl' := 0) rfl ?_
          obtain ⟨q1284, hq, h⟩ := ai_bdE h
          refine ev_iast rfl rfl hq ?_
          rw [HXs_28]
          refine ev_go 5 (pc' := 73) (L' := [some (.ref 26), some (.int x1277), some (.int x1278), some (.int x1279)]) (st' := [.int x1279, .int (a_s2things_count w), .ref 29]) (h' := (HX (u_s2things_weights (u_s2things_kinds w q1283) q1284) T)) (cs' := 0) (sl' := 0) rfl ?_
          obtain ⟨q1285, hq, h⟩ := ai_bdE h
          refine ev_iast rfl rfl hq ?_
          rw [HXs_29]
          refine ev_go 5 (pc' := 83) (L' := [some (.ref 26), some (.int x1277), some (.int x1278), some (.int x1279)]) (st' := [.int 0, .int (a_s2things_count w), .ref 30]) (h' := (HX (u_s2things_volumes (u_s2things_weights (u_s2things_kinds w q1283) q1284) q1285) T)) (cs' := 0) (sl' := 0) rfl ?_
          obtain ⟨q1286, hq, h⟩ := ai_bdE h
          refine ev_iast rfl rfl hq ?_
          rw [HXs_30]
          refine ev_go 6 (pc' := 92) (L' := [some (.ref 26), some (.int x1277), some (.int x1278), some (.int x1279)]) (st' := [.int ((a_s2things_count w) + 1), .ref 26, .int (a_s2things_count w)]) (h' := (HX (u_s2things_ballasts (u_s2things_volumes (u_s2things_weights (u_s2things_kinds w q1283) q1284) q1285) q1286) T)) (cs' := 0) (sl' := 0) rfl ?_
          refine ev_step rfl rfl rfl (PFX_5_9_26 rfl) ?_
          obtain ⟨rfl, rfl⟩ := ai_smP h
          exact ev_end rfl
        · refine ev_ic_lt (t := 44) rfl rfl (fun c9 => absurd c9 hc) (fun _ => ?_)
          refine ev_go 1 (pc' := 43) (L' := [some (.ref 26), some (.int x1277), some (.int x1278), some (.int x1279)]) (st' := [.int (-4)]) (h' := (HX w T)) (cs' := 0) (sl' := 0) rfl ?_
          obtain ⟨rfl, rfl⟩ := ai_smP h
          exact ev_end rfl
set_option maxHeartbeats 40000000 in
set_option maxRecDepth 100000 in
theorem Esea_hasPlace_20 (x1294 : Int32) (w : WX) (r : Int32) (w' : WX) (h : Fsea_hasPlace_20 x1294 w = some (r, w')) (T : ai_H) : ai_ev D1 msea_hasPlace 0 [some (.ref 20), some (.int x1294)] [] (HX w T) 0 0 (some (.int r), HX w' T) := by
  unfold Fsea_hasPlace_20 at h
  refine ev_go 1 (pc' := 1) (L' := [some (.ref 20), some (.int x1294)]) (st' := [.int x1294]) (h' := (HX w T)) (cs' := 0) (sl' := 0) rfl ?_
  rcases ai_ifE h with ⟨hc, h⟩ | ⟨hc, h⟩
  · refine ev_if_lt (t := 29) rfl rfl (fun _ => ?_) (fun c9 => absurd hc c9)
    refine ev_go 1 (pc' := 30) (L' := [some (.ref 20), some (.int x1294)]) (st' := [.int 0]) (h' := (HX w T)) (cs' := 0) (sl' := 0) rfl ?_
    obtain ⟨rfl, rfl⟩ := ai_smP h
    exact ev_end rfl
  · refine ev_if_lt (t := 29) rfl rfl (fun c9 => absurd c9 hc) (fun _ => ?_)
    refine ev_go 4 (pc' := 9) (L' := [some (.ref 20), some (.int x1294)]) (st' := [.int (x1294 / 10), .ref 20]) (h' := (HX w T)) (cs' := 0) (sl' := 0) rfl ?_
    obtain ⟨c1295, hq, h⟩ := ai_bdE h
    refine ev_call (M' := msea_hasCell) (L' := [some (.ref 20), some (.int (x1294 / 10))]) (rest := []) (rv := some (.int c1295.1)) (h' := (HX c1295.2 T)) rfl (Esea_hasCell_20 (x1294 / 10) w _ _ hq T) ?_
    show ai_ev D1 msea_hasPlace 12 [some (.ref 20), some (.int x1294)] [.int c1295.1] (HX c1295.2 T) 0 0 _
    rcases ai_ifE h with ⟨hc, h⟩ | ⟨hc, h⟩
    · refine ev_if_eq (t := 29) rfl rfl (fun _ => ?_) (fun c9 => absurd hc c9)
      refine ev_go 1 (pc' := 30) (L' := [some (.ref 20), some (.int x1294)]) (st' := [.int 0]) (h' := (HX c1295.2 T)) (cs' := 0) (sl' := 0) rfl ?_
      obtain ⟨rfl, rfl⟩ := ai_smP h
      exact ev_end rfl
    · refine ev_if_eq (t := 29) rfl rfl (fun c9 => absurd c9 hc) (fun _ => ?_)
      refine ev_go 3 (pc' := 19) (L' := [some (.ref 20), some (.int x1294)]) (st' := [.int (x1294 - x1294 / 10 * 10)]) (h' := (HX c1295.2 T)) (cs' := 0) (sl' := 0) rfl ?_
      obtain ⟨c1296, hq, h⟩ := ai_bdE h
      refine ev_call (M' := mf_isLayer) (L' := [some (.int (x1294 - x1294 / 10 * 10))]) (rest := []) (rv := some (.int c1296)) (h' := (HX c1295.2 T)) rfl (Ef_isLayer (x1294 - x1294 / 10 * 10) _ hq (HX c1295.2 T)) ?_
      show ai_ev D1 msea_hasPlace 22 [some (.ref 20), some (.int x1294)] [.int c1296] (HX c1295.2 T) 0 0 _
      rcases ai_ifE h with ⟨hc, h⟩ | ⟨hc, h⟩
      · refine ev_if_eq (t := 29) rfl rfl (fun _ => ?_) (fun c9 => absurd hc c9)
        refine ev_go 1 (pc' := 30) (L' := [some (.ref 20), some (.int x1294)]) (st' := [.int 0]) (h' := (HX c1295.2 T)) (cs' := 0) (sl' := 0) rfl ?_
        obtain ⟨rfl, rfl⟩ := ai_smP h
        exact ev_end rfl
      · refine ev_if_eq (t := 29) rfl rfl (fun c9 => absurd c9 hc) (fun _ => ?_)
        refine ev_go 2 (pc' := 30) (L' := [some (.ref 20), some (.int x1294)]) (st' := [.int 1]) (h' := (HX c1295.2 T)) (cs' := 0) (sl' := 0) rfl ?_
        obtain ⟨rfl, rfl⟩ := ai_smP h
        exact ev_end rfl
set_option maxHeartbeats 40000000 in
set_option maxRecDepth 100000 in
theorem Elift_add_31 (x1300 : Int32) (x1301 : Int32) (x1302 : Int32) (w : WX) (r : Int32) (w' : WX) (h : Flift_add_31 x1300 x1301 x1302 w = some (r, w')) (T : ai_H) : ai_ev D1 mlift_add 0 [some (.ref 31), some (.int x1300), some (.int x1301), some (.int x1302)] [] (HX w T) 0 0 (some (.int r), HX w' T) := by
  unfold Flift_add_31 at h
  refine ev_go 3 (pc' := 6) (L' := [some (.ref 31), some (.int x1300), some (.int x1301), some (.int x1302)]) (st' := [.int 10, .int (a_s2lifts_count w)]) (h' := (HX w T)) (cs' := 0) (sl' := 0) rfl ?_
  rcases ai_ifE h with ⟨hc, h⟩ | ⟨hc, h⟩
  · refine ev_ic_lt (t := 12) rfl rfl (fun _ => ?_) (fun c9 => absurd hc c9)
    refine ev_go 5 (pc' := 21) (L' := [some (.ref 31), some (.int x1300), some (.int x1301), some (.int x1302)]) (st' := [.int x1300, .int (a_s2lifts_count w), .ref 32]) (h' := (HX w T)) (cs' := 0) (sl' := 0) rfl ?_
    obtain ⟨q1303, hq, h⟩ := ai_bdE h
    refine ev_iast rfl rfl hq ?_
    rw [HXs_32]
    refine ev_go 5 (pc' := 31) (L' := [some (.ref 31), some (.int x1300), some (.int x1301), some (.int x1302)]) (st' := [.int x1301, .int (a_s2lifts_count w), .ref 33]) (h' := (HX (u_s2lifts_froms w q1303) T)) (cs' := 0) (sl' := 0) rfl ?_
    obtain ⟨q1304, hq, h⟩ := ai_bdE h
    refine ev_iast rfl rfl hq ?_
    rw [HXs_33]
    refine ev_go 5 (pc' := 41) (L' := [some (.ref 31), some (.int x1300), some (.int x1301), some (.int x1302)]) (st' := [.int x1302, .int (a_s2lifts_count w), .ref 34]) (h' := (HX (u_s2lifts_tos (u_s2lifts_froms w q1303) q1304) T)) (cs' := 0) (sl' := 0) rfl ?_
    obtain ⟨q1305, hq, h⟩ := ai_bdE h
    refine ev_iast rfl rfl hq ?_
    rw [HXs_34]
    refine ev_go 6 (pc' := 50) (L' := [some (.ref 31), some (.int x1300), some (.int x1301), some (.int x1302)]) (st' := [.int ((a_s2lifts_count w) + 1), .ref 31, .int (a_s2lifts_count w)]) (h' := (HX (u_s2lifts_times (u_s2lifts_tos (u_s2lifts_froms w q1303) q1304) q1305) T)) (cs' := 0) (sl' := 0) rfl ?_
    refine ev_step rfl rfl rfl (PFX_1_9_31 rfl) ?_
    obtain ⟨rfl, rfl⟩ := ai_smP h
    exact ev_end rfl
  · refine ev_ic_lt (t := 12) rfl rfl (fun c9 => absurd c9 hc) (fun _ => ?_)
    refine ev_go 1 (pc' := 11) (L' := [some (.ref 31), some (.int x1300), some (.int x1301), some (.int x1302)]) (st' := [.int (-4)]) (h' := (HX w T)) (cs' := 0) (sl' := 0) rfl ?_
    obtain ⟨rfl, rfl⟩ := ai_smP h
    exact ev_end rfl
set_option maxHeartbeats 40000000 in
set_option maxRecDepth 100000 in
theorem Esea_addLift_20 (x1291 : Int32) (x1292 : Int32) (x1293 : Int32) (w : WX) (r : Int32) (w' : WX) (h : Fsea_addLift_20 x1291 x1292 x1293 w = some (r, w')) (T : ai_H) : ai_ev D1 msea_addLift 0 [some (.ref 20), some (.int x1291), some (.int x1292), some (.int x1293)] [] (HX w T) 0 0 (some (.int r), HX w' T) := by
  unfold Fsea_addLift_20 at h
  refine ev_go 2 (pc' := 2) (L' := [some (.ref 20), some (.int x1291), some (.int x1292), some (.int x1293)]) (st' := [.int x1291, .ref 20]) (h' := (HX w T)) (cs' := 0) (sl' := 0) rfl ?_
  obtain ⟨c1297, hq, h⟩ := ai_bdE h
  refine ev_call (M' := msea_hasPlace) (L' := [some (.ref 20), some (.int x1291)]) (rest := []) (rv := some (.int c1297.1)) (h' := (HX c1297.2 T)) rfl (Esea_hasPlace_20 x1291 w _ _ hq T) ?_
  show ai_ev D1 msea_addLift 5 [some (.ref 20), some (.int x1291), some (.int x1292), some (.int x1293)] [.int c1297.1] (HX c1297.2 T) 0 0 _
  rcases ai_ifE h with ⟨hc, h⟩ | ⟨hc, h⟩
  · refine ev_if_eq (t := 31) rfl rfl (fun _ => ?_) (fun c9 => absurd hc c9)
    refine ev_go 1 (pc' := 33) (L' := [some (.ref 20), some (.int x1291), some (.int x1292), some (.int x1293)]) (st' := [.int (-2)]) (h' := (HX c1297.2 T)) (cs' := 0) (sl' := 0) rfl ?_
    obtain ⟨rfl, rfl⟩ := ai_smP h
    exact ev_end rfl
  · refine ev_if_eq (t := 31) rfl rfl (fun c9 => absurd c9 hc) (fun _ => ?_)
    refine ev_go 2 (pc' := 10) (L' := [some (.ref 20), some (.int x1291), some (.int x1292), some (.int x1293)]) (st' := [.int x1292, .ref 20]) (h' := (HX c1297.2 T)) (cs' := 0) (sl' := 0) rfl ?_
    obtain ⟨c1298, hq, h⟩ := ai_bdE h
    refine ev_call (M' := msea_hasPlace) (L' := [some (.ref 20), some (.int x1292)]) (rest := []) (rv := some (.int c1298.1)) (h' := (HX c1298.2 T)) rfl (Esea_hasPlace_20 x1292 c1297.2 _ _ hq T) ?_
    show ai_ev D1 msea_addLift 13 [some (.ref 20), some (.int x1291), some (.int x1292), some (.int x1293)] [.int c1298.1] (HX c1298.2 T) 0 0 _
    rcases ai_ifE h with ⟨hc, h⟩ | ⟨hc, h⟩
    · refine ev_if_eq (t := 31) rfl rfl (fun _ => ?_) (fun c9 => absurd hc c9)
      refine ev_go 1 (pc' := 33) (L' := [some (.ref 20), some (.int x1291), some (.int x1292), some (.int x1293)]) (st' := [.int (-2)]) (h' := (HX c1298.2 T)) (cs' := 0) (sl' := 0) rfl ?_
      obtain ⟨rfl, rfl⟩ := ai_smP h
      exact ev_end rfl
    · refine ev_if_eq (t := 31) rfl rfl (fun c9 => absurd c9 hc) (fun _ => ?_)
      refine ev_go 2 (pc' := 18) (L' := [some (.ref 20), some (.int x1291), some (.int x1292), some (.int x1293)]) (st' := [.int x1292, .int x1291]) (h' := (HX c1298.2 T)) (cs' := 0) (sl' := 0) rfl ?_
      rcases ai_ifE h with ⟨hc, h⟩ | ⟨hc, h⟩
      · refine ev_ic_eq (t := 31) rfl rfl (fun _ => ?_) (fun c9 => absurd hc c9)
        refine ev_go 1 (pc' := 33) (L' := [some (.ref 20), some (.int x1291), some (.int x1292), some (.int x1293)]) (st' := [.int (-2)]) (h' := (HX c1298.2 T)) (cs' := 0) (sl' := 0) rfl ?_
        obtain ⟨rfl, rfl⟩ := ai_smP h
        exact ev_end rfl
      · refine ev_ic_eq (t := 31) rfl rfl (fun c9 => absurd c9 hc) (fun _ => ?_)
        refine ev_go 3 (pc' := 25) (L' := [some (.ref 20), some (.int x1291), some (.int x1292), some (.int x1293)]) (st' := [.int 9, .int 1, .int x1293]) (h' := (HX c1298.2 T)) (cs' := 0) (sl' := 0) rfl ?_
        obtain ⟨c1299, hq, h⟩ := ai_bdE h
        refine ev_call (M' := mf_within) (L' := [some (.int x1293), some (.int 1), some (.int 9)]) (rest := []) (rv := some (.int c1299)) (h' := (HX c1298.2 T)) rfl (Ef_within x1293 1 9 _ hq (HX c1298.2 T)) ?_
        show ai_ev D1 msea_addLift 28 [some (.ref 20), some (.int x1291), some (.int x1292), some (.int x1293)] [.int c1299] (HX c1298.2 T) 0 0 _
        rcases ai_ifE h with ⟨hc, h⟩ | ⟨hc, h⟩
        · refine ev_if_ne (t := 34) rfl rfl (fun c9 => absurd hc c9) (fun _ => ?_)
          refine ev_go 1 (pc' := 33) (L' := [some (.ref 20), some (.int x1291), some (.int x1292), some (.int x1293)]) (st' := [.int (-2)]) (h' := (HX c1298.2 T)) (cs' := 0) (sl' := 0) rfl ?_
          obtain ⟨rfl, rfl⟩ := ai_smP h
          exact ev_end rfl
        · refine ev_if_ne (t := 34) rfl rfl (fun _ => ?_) (fun c9 => absurd c9 hc)
          refine ev_go 5 (pc' := 41) (L' := [some (.ref 20), some (.int x1291), some (.int x1292), some (.int x1293)]) (st' := [.int x1293, .int x1292, .int x1291, .ref 31]) (h' := (HX c1298.2 T)) (cs' := 0) (sl' := 0) rfl ?_
          obtain ⟨c1306, hq, h⟩ := ai_bdE h
          refine ev_call (M' := mlift_add) (L' := [some (.ref 31), some (.int x1291), some (.int x1292), some (.int x1293)]) (rest := []) (rv := some (.int c1306.1)) (h' := (HX c1306.2 T)) rfl (Elift_add_31 x1291 x1292 x1293 c1298.2 _ _ hq T) ?_
          show ai_ev D1 msea_addLift 44 [some (.ref 20), some (.int x1291), some (.int x1292), some (.int x1293)] [.int c1306.1] (HX c1306.2 T) 0 0 _
          obtain ⟨rfl, rfl⟩ := ai_smP h
          exact ev_end rfl
set_option maxHeartbeats 40000000 in
set_option maxRecDepth 100000 in
theorem EGsea_addTown_20 : ∀ n : Nat, (∀ (y1311 : Int32) (y1312 : Int32) (w : WX) (r : Int32) (w' : WX), Gsea_addTown_20 n 0 y1311 y1312 w = some (r, w') → ∀ (T : ai_H), ai_ev D1 msea_addTown 13 [some (.ref 20), some (.int y1311), some (.int y1312)] [] (HX w T) 0 0 (some (.int r), HX w' T)) := by
  intro n
  induction n with
  | zero =>
    exact (fun _ _ _ _ _ h => by cases h)
  | succ n ih0 =>
    intro y1311 y1312 w r w' h T
    simp only [Gsea_addTown_20] at h
    refine ev_go 3 (pc' := 18) (L' := [some (.ref 20), some (.int y1311), some (.int y1312)]) (st' := [.int (a_s2_towns w), .int y1312]) (h' := (HX w T)) (cs' := 0) (sl' := 0) rfl ?_
    rcases ai_ifE h with ⟨hc, h⟩ | ⟨hc, h⟩
    · refine ev_ic_ge (t := 40) rfl rfl (fun _ => ?_) (fun c9 => absurd hc c9)
      refine ev_go 3 (pc' := 46) (L' := [some (.ref 20), some (.int y1311), some (.int y1312)]) (st' := [.int 6, .int (a_s2_towns w)]) (h' := (HX w T)) (cs' := 0) (sl' := 0) rfl ?_
      rcases ai_ifE h with ⟨hc, h⟩ | ⟨hc, h⟩
      · refine ev_ic_lt (t := 52) rfl rfl (fun _ => ?_) (fun c9 => absurd hc c9)
        refine ev_go 5 (pc' := 61) (L' := [some (.ref 20), some (.int y1311), some (.int y1312)]) (st' := [.int y1311, .int (a_s2_towns w), .ref 35]) (h' := (HX w T)) (cs' := 0) (sl' := 0) rfl ?_
        obtain ⟨q1313, hq, h⟩ := ai_bdE h
        refine ev_iast rfl rfl hq ?_
        rw [HXs_35]
        refine ev_go 6 (pc' := 70) (L' := [some (.ref 20), some (.int y1311), some (.int y1312)]) (st' := [.int ((a_s2_towns w) + 1), .ref 20, .int (a_s2_towns w)]) (h' := (HX (u_s2_townPlaces w q1313) T)) (cs' := 0) (sl' := 0) rfl ?_
        refine ev_step rfl rfl rfl (PFX_2_51_20 rfl) ?_
        obtain ⟨rfl, rfl⟩ := ai_smP h
        exact ev_end rfl
      · refine ev_ic_lt (t := 52) rfl rfl (fun c9 => absurd c9 hc) (fun _ => ?_)
        refine ev_go 1 (pc' := 51) (L' := [some (.ref 20), some (.int y1311), some (.int y1312)]) (st' := [.int (-4)]) (h' := (HX w T)) (cs' := 0) (sl' := 0) rfl ?_
        obtain ⟨rfl, rfl⟩ := ai_smP h
        exact ev_end rfl
    · refine ev_ic_ge (t := 40) rfl rfl (fun c9 => absurd c9 hc) (fun _ => ?_)
      refine ev_go 3 (pc' := 26) (L' := [some (.ref 20), some (.int y1311), some (.int y1312)]) (st' := [.int y1312, .ref 35]) (h' := (HX w T)) (cs' := 0) (sl' := 0) rfl ?_
      obtain ⟨v1314, hq, h⟩ := ai_bdE h
      refine ev_iald rfl rfl hq ?_
      refine ev_go 1 (pc' := 28) (L' := [some (.ref 20), some (.int y1311), some (.int y1312)]) (st' := [.int y1311, .int v1314]) (h' := (HX w T)) (cs' := 0) (sl' := 0) rfl ?_
      rcases ai_ifE h with ⟨hc, h⟩ | ⟨hc, h⟩
      · refine ev_ic_ne (t := 34) rfl rfl (fun c9 => absurd hc c9) (fun _ => ?_)
        refine ev_go 1 (pc' := 33) (L' := [some (.ref 20), some (.int y1311), some (.int y1312)]) (st' := [.int (-3)]) (h' := (HX w T)) (cs' := 0) (sl' := 0) rfl ?_
        obtain ⟨rfl, rfl⟩ := ai_smP h
        exact ev_end rfl
      · refine ev_ic_ne (t := 34) rfl rfl (fun _ => ?_) (fun c9 => absurd c9 hc)
        refine ev_go 2 (pc' := 13) (L' := [some (.ref 20), some (.int y1311), some (.int (y1312 + 1))]) (st' := []) (h' := (HX w T)) (cs' := 0) (sl' := 0) rfl ?_
        exact ih0 _ _ _ _ _ h T
set_option maxHeartbeats 40000000 in
set_option maxRecDepth 100000 in
theorem Esea_addTown_20 (n : Nat) (x1309 : Int32) (w : WX) (r : Int32) (w' : WX) (h : Fsea_addTown_20 n x1309 w = some (r, w')) (T : ai_H) : ai_ev D1 msea_addTown 0 [some (.ref 20), some (.int x1309), none] [] (HX w T) 0 0 (some (.int r), HX w' T) := by
  unfold Fsea_addTown_20 at h
  have ih0 := EGsea_addTown_20 n
  refine ev_go 2 (pc' := 2) (L' := [some (.ref 20), some (.int x1309), none]) (st' := [.int x1309, .ref 20]) (h' := (HX w T)) (cs' := 0) (sl' := 0) rfl ?_
  obtain ⟨c1310, hq, h⟩ := ai_bdE h
  refine ev_call (M' := msea_hasPlace) (L' := [some (.ref 20), some (.int x1309)]) (rest := []) (rv := some (.int c1310.1)) (h' := (HX c1310.2 T)) rfl (Esea_hasPlace_20 x1309 w _ _ hq T) ?_
  show ai_ev D1 msea_addTown 5 [some (.ref 20), some (.int x1309), none] [.int c1310.1] (HX c1310.2 T) 0 0 _
  rcases ai_ifE h with ⟨hc, h⟩ | ⟨hc, h⟩
  · refine ev_if_ne (t := 11) rfl rfl (fun c9 => absurd hc c9) (fun _ => ?_)
    refine ev_go 1 (pc' := 10) (L' := [some (.ref 20), some (.int x1309), none]) (st' := [.int (-2)]) (h' := (HX c1310.2 T)) (cs' := 0) (sl' := 0) rfl ?_
    obtain ⟨rfl, rfl⟩ := ai_smP h
    exact ev_end rfl
  · refine ev_if_ne (t := 11) rfl rfl (fun _ => ?_) (fun c9 => absurd c9 hc)
    refine ev_go 2 (pc' := 13) (L' := [some (.ref 20), some (.int x1309), some (.int 0)]) (st' := []) (h' := (HX c1310.2 T)) (cs' := 0) (sl' := 0) rfl ?_
    exact ih0 _ _ _ _ _ h T
set_option maxHeartbeats 40000000 in
set_option maxRecDepth 100000 in
theorem Esea_putDam_20 (x1317 : Int32) (x1318 : Int32) (w : WX) (r : Int32) (w' : WX) (h : Fsea_putDam_20 x1317 x1318 w = some (r, w')) (T : ai_H) : ai_ev D1 msea_putDam 0 [some (.ref 20), some (.int x1317), some (.int x1318)] [] (HX w T) 0 0 (some (.int r), HX w' T) := by
  unfold Fsea_putDam_20 at h
  refine ev_go 6 (pc' := 8) (L' := [some (.ref 20), some (.int x1317), some (.int x1318)]) (st' := [.int ((a_s2_cells w) - 2), .int 0, .int x1317]) (h' := (HX w T)) (cs' := 0) (sl' := 0) rfl ?_
  obtain ⟨c1319, hq, h⟩ := ai_bdE h
  refine ev_call (M' := mf_within) (L' := [some (.int x1317), some (.int 0), some (.int ((a_s2_cells w) - 2))]) (rest := []) (rv := some (.int c1319)) (h' := (HX w T)) rfl (Ef_within x1317 0 ((a_s2_cells w) - 2) _ hq (HX w T)) ?_
  show ai_ev D1 msea_putDam 11 [some (.ref 20), some (.int x1317), some (.int x1318)] [.int c1319] (HX w T) 0 0 _
  rcases ai_ifE h with ⟨hc, h⟩ | ⟨hc, h⟩
  · refine ev_if_ne (t := 17) rfl rfl (fun c9 => absurd hc c9) (fun _ => ?_)
    refine ev_go 1 (pc' := 16) (L' := [some (.ref 20), some (.int x1317), some (.int x1318)]) (st' := [.int (-2)]) (h' := (HX w T)) (cs' := 0) (sl' := 0) rfl ?_
    obtain ⟨rfl, rfl⟩ := ai_smP h
    exact ev_end rfl
  · refine ev_if_ne (t := 17) rfl rfl (fun _ => ?_) (fun c9 => absurd c9 hc)
    refine ev_go 7 (pc' := 26) (L' := [some (.ref 20), some (.int x1317), some (.int x1318)]) (st' := [.int x1318, .int (((a_s2_dams w) >>> (x1317 &&& 31)) &&& 1)]) (h' := (HX w T)) (cs' := 0) (sl' := 0) rfl ?_
    rcases ai_ifE h with ⟨hc, h⟩ | ⟨hc, h⟩
    · refine ev_if_eq (t := 33) rfl rfl (fun _ => ?_) (fun c9 => absurd hc c9)
      refine ev_go 1 (pc' := 34) (L' := [some (.ref 20), some (.int x1317), some (.int x1318)]) (st' := [.int 0, .int (((a_s2_dams w) >>> (x1317 &&& 31)) &&& 1)]) (h' := (HX w T)) (cs' := 0) (sl' := 0) rfl ?_
      rcases ai_ifE h with ⟨hc, h⟩ | ⟨hc, h⟩
      · refine ev_ic_ne (t := 40) rfl rfl (fun c9 => absurd hc c9) (fun _ => ?_)
        refine ev_go 1 (pc' := 39) (L' := [some (.ref 20), some (.int x1317), some (.int x1318)]) (st' := [.int (-3)]) (h' := (HX w T)) (cs' := 0) (sl' := 0) rfl ?_
        obtain ⟨rfl, rfl⟩ := ai_smP h
        exact ev_end rfl
      · refine ev_ic_ne (t := 40) rfl rfl (fun _ => ?_) (fun c9 => absurd c9 hc)
        refine ev_go 7 (pc' := 49) (L' := [some (.ref 20), some (.int x1317), some (.int x1318)]) (st' := [.int ((a_s2_dams w) ^^^ (1 <<< (x1317 &&& 31))), .ref 20]) (h' := (HX w T)) (cs' := 0) (sl' := 0) rfl ?_
        refine ev_step rfl rfl rfl (PFX_2_18_20 rfl) ?_
        refine ev_go 1 (pc' := 53) (L' := [some (.ref 20), some (.int x1317), some (.int x1318)]) (st' := [.int 1]) (h' := (HX (u_s2_dams w ((a_s2_dams w) ^^^ (1 <<< (x1317 &&& 31)))) T)) (cs' := 0) (sl' := 0) rfl ?_
        obtain ⟨rfl, rfl⟩ := ai_smP h
        exact ev_end rfl
    · refine ev_if_eq (t := 33) rfl rfl (fun c9 => absurd c9 hc) (fun _ => ?_)
      refine ev_go 2 (pc' := 34) (L' := [some (.ref 20), some (.int x1317), some (.int x1318)]) (st' := [.int 1, .int (((a_s2_dams w) >>> (x1317 &&& 31)) &&& 1)]) (h' := (HX w T)) (cs' := 0) (sl' := 0) rfl ?_
      rcases ai_ifE h with ⟨hc, h⟩ | ⟨hc, h⟩
      · refine ev_ic_ne (t := 40) rfl rfl (fun c9 => absurd hc c9) (fun _ => ?_)
        refine ev_go 1 (pc' := 39) (L' := [some (.ref 20), some (.int x1317), some (.int x1318)]) (st' := [.int (-3)]) (h' := (HX w T)) (cs' := 0) (sl' := 0) rfl ?_
        obtain ⟨rfl, rfl⟩ := ai_smP h
        exact ev_end rfl
      · refine ev_ic_ne (t := 40) rfl rfl (fun _ => ?_) (fun c9 => absurd c9 hc)
        refine ev_go 7 (pc' := 49) (L' := [some (.ref 20), some (.int x1317), some (.int x1318)]) (st' := [.int ((a_s2_dams w) ^^^ (1 <<< (x1317 &&& 31))), .ref 20]) (h' := (HX w T)) (cs' := 0) (sl' := 0) rfl ?_
        refine ev_step rfl rfl rfl (PFX_2_18_20 rfl) ?_
        refine ev_go 1 (pc' := 53) (L' := [some (.ref 20), some (.int x1317), some (.int x1318)]) (st' := [.int 1]) (h' := (HX (u_s2_dams w ((a_s2_dams w) ^^^ (1 <<< (x1317 &&& 31)))) T)) (cs' := 0) (sl' := 0) rfl ?_
        obtain ⟨rfl, rfl⟩ := ai_smP h
        exact ev_end rfl
set_option maxHeartbeats 40000000 in
set_option maxRecDepth 100000 in
theorem Etxt_tellItem_78_20 (n : Nat) (x1202 : Int32) (w : WX) (r : Int32) (w' : WX) (h : Ftxt_tellItem_78_20 n x1202 w = some (r, w')) (T : ai_H) : ai_ev D1 mtxt_tellItem 0 [some (.ref 78), some (.ref 20), some (.int x1202)] [] (HX w T) 0 0 (some (.int r), HX w' T) := by
  unfold Ftxt_tellItem_78_20 at h
  refine ev_go 1 (pc' := 1) (L' := [some (.ref 78), some (.ref 20), some (.int x1202)]) (st' := [.int x1202]) (h' := (HX w T)) (cs' := 0) (sl' := 0) rfl ?_
  rcases ai_ifE h with ⟨hc, h⟩ | ⟨hs0, h⟩
  · refine ev_swi (k := 0) (t := 44) rfl hc (by decide) (by decide) rfl rfl ?_
    refine ev_go 4 (pc' := 50) (L' := [some (.ref 78), some (.ref 20), some (.int x1202)]) (st' := [.int 0, .ref 80, .ref 20]) (h' := (HX w T)) (cs' := 0) (sl' := 0) rfl ?_
    obtain ⟨v1203, hq, h⟩ := ai_bdE h
    refine ev_iald rfl rfl hq ?_
    obtain ⟨c1231, hq, h⟩ := ai_bdE h
    refine ev_call (M' := msea_startAnew) (L' := [some (.ref 20), some (.int v1203), none]) (rest := []) (rv := some (.int c1231.1)) (h' := (HX c1231.2 T)) rfl (Esea_startAnew_20 n v1203 w _ _ hq T) ?_
    show ai_ev D1 mtxt_tellItem 54 [some (.ref 78), some (.ref 20), some (.int x1202)] [.int c1231.1] (HX c1231.2 T) 0 0 _
    obtain ⟨rfl, rfl⟩ := ai_smP h
    exact ev_end rfl
  rcases ai_ifE h with ⟨hc, h⟩ | ⟨hs1, h⟩
  · refine ev_swi (k := 1) (t := 55) rfl hc (by decide) (by decide) rfl rfl ?_
    refine ev_go 4 (pc' := 61) (L' := [some (.ref 78), some (.ref 20), some (.int x1202)]) (st' := [.int 0, .ref 80, .ref 20]) (h' := (HX w T)) (cs' := 0) (sl' := 0) rfl ?_
    obtain ⟨v1232, hq, h⟩ := ai_bdE h
    refine ev_iald rfl rfl hq ?_
    refine ev_go 3 (pc' := 67) (L' := [some (.ref 78), some (.ref 20), some (.int x1202)]) (st' := [.int 1, .ref 80, .int v1232, .ref 20]) (h' := (HX w T)) (cs' := 0) (sl' := 0) rfl ?_
    obtain ⟨v1233, hq, h⟩ := ai_bdE h
    refine ev_iald rfl rfl hq ?_
    obtain ⟨c1250, hq, h⟩ := ai_bdE h
    refine ev_call (M' := msea_putDensity) (L' := [some (.ref 20), some (.int v1232), some (.int v1233), none, none, none]) (rest := []) (rv := some (.int c1250.1)) (h' := (HX c1250.2 T)) rfl (Esea_putDensity_20 v1232 v1233 w _ _ hq T) ?_
    show ai_ev D1 mtxt_tellItem 71 [some (.ref 78), some (.ref 20), some (.int x1202)] [.int c1250.1] (HX c1250.2 T) 0 0 _
    obtain ⟨rfl, rfl⟩ := ai_smP h
    exact ev_end rfl
  rcases ai_ifE h with ⟨hc, h⟩ | ⟨hs2, h⟩
  · refine ev_swi (k := 2) (t := 72) rfl hc (by decide) (by decide) rfl rfl ?_
    refine ev_go 4 (pc' := 78) (L' := [some (.ref 78), some (.ref 20), some (.int x1202)]) (st' := [.int 0, .ref 80, .ref 20]) (h' := (HX w T)) (cs' := 0) (sl' := 0) rfl ?_
    obtain ⟨v1251, hq, h⟩ := ai_bdE h
    refine ev_iald rfl rfl hq ?_
    refine ev_go 3 (pc' := 84) (L' := [some (.ref 78), some (.ref 20), some (.int x1202)]) (st' := [.int 1, .ref 80, .int v1251, .ref 20]) (h' := (HX w T)) (cs' := 0) (sl' := 0) rfl ?_
    obtain ⟨v1252, hq, h⟩ := ai_bdE h
    refine ev_iald rfl rfl hq ?_
    refine ev_go 3 (pc' := 90) (L' := [some (.ref 78), some (.ref 20), some (.int x1202)]) (st' := [.int 2, .ref 80, .int v1252, .int v1251, .ref 20]) (h' := (HX w T)) (cs' := 0) (sl' := 0) rfl ?_
    obtain ⟨v1253, hq, h⟩ := ai_bdE h
    refine ev_iald rfl rfl hq ?_
    obtain ⟨c1264, hq, h⟩ := ai_bdE h
    refine ev_call (M' := msea_putThick) (L' := [some (.ref 20), some (.int v1251), some (.int v1252), some (.int v1253), none, none]) (rest := []) (rv := some (.int c1264.1)) (h' := (HX c1264.2 T)) rfl (Esea_putThick_20 v1251 v1252 v1253 w _ _ hq T) ?_
    show ai_ev D1 mtxt_tellItem 94 [some (.ref 78), some (.ref 20), some (.int x1202)] [.int c1264.1] (HX c1264.2 T) 0 0 _
    obtain ⟨rfl, rfl⟩ := ai_smP h
    exact ev_end rfl
  rcases ai_ifE h with ⟨hc, h⟩ | ⟨hs3, h⟩
  · refine ev_swi (k := 3) (t := 95) rfl hc (by decide) (by decide) rfl rfl ?_
    refine ev_go 4 (pc' := 101) (L' := [some (.ref 78), some (.ref 20), some (.int x1202)]) (st' := [.int 0, .ref 80, .ref 20]) (h' := (HX w T)) (cs' := 0) (sl' := 0) rfl ?_
    obtain ⟨v1265, hq, h⟩ := ai_bdE h
    refine ev_iald rfl rfl hq ?_
    refine ev_go 3 (pc' := 107) (L' := [some (.ref 78), some (.ref 20), some (.int x1202)]) (st' := [.int 1, .ref 80, .int v1265, .ref 20]) (h' := (HX w T)) (cs' := 0) (sl' := 0) rfl ?_
    obtain ⟨v1266, hq, h⟩ := ai_bdE h
    refine ev_iald rfl rfl hq ?_
    obtain ⟨c1273, hq, h⟩ := ai_bdE h
    refine ev_call (M' := msea_putSkin) (L' := [some (.ref 20), some (.int v1265), some (.int v1266), none]) (rest := []) (rv := some (.int c1273.1)) (h' := (HX c1273.2 T)) rfl (Esea_putSkin_20 v1265 v1266 w _ _ hq T) ?_
    show ai_ev D1 mtxt_tellItem 111 [some (.ref 78), some (.ref 20), some (.int x1202)] [.int c1273.1] (HX c1273.2 T) 0 0 _
    obtain ⟨rfl, rfl⟩ := ai_smP h
    exact ev_end rfl
  rcases ai_ifE h with ⟨hc, h⟩ | ⟨hs4, h⟩
  · refine ev_swi (k := 4) (t := 112) rfl hc (by decide) (by decide) rfl rfl ?_
    refine ev_go 5 (pc' := 121) (L' := [some (.ref 78), some (.ref 20), some (.int x1202)]) (st' := [.int 0, .ref 80, .ref 26]) (h' := (HX w T)) (cs' := 0) (sl' := 0) rfl ?_
    obtain ⟨v1274, hq, h⟩ := ai_bdE h
    refine ev_iald rfl rfl hq ?_
    refine ev_go 3 (pc' := 127) (L' := [some (.ref 78), some (.ref 20), some (.int x1202)]) (st' := [.int 1, .ref 80, .int v1274, .ref 26]) (h' := (HX w T)) (cs' := 0) (sl' := 0) rfl ?_
    obtain ⟨v1275, hq, h⟩ := ai_bdE h
    refine ev_iald rfl rfl hq ?_
    refine ev_go 3 (pc' := 133) (L' := [some (.ref 78), some (.ref 20), some (.int x1202)]) (st' := [.int 2, .ref 80, .int v1275, .int v1274, .ref 26]) (h' := (HX w T)) (cs' := 0) (sl' := 0) rfl ?_
    obtain ⟨v1276, hq, h⟩ := ai_bdE h
    refine ev_iald rfl rfl hq ?_
    obtain ⟨c1287, hq, h⟩ := ai_bdE h
    refine ev_call (M' := mthg_add) (L' := [some (.ref 26), some (.int v1274), some (.int v1275), some (.int v1276)]) (rest := []) (rv := some (.int c1287.1)) (h' := (HX c1287.2 T)) rfl (Ethg_add_26 v1274 v1275 v1276 w _ _ hq T) ?_
    show ai_ev D1 mtxt_tellItem 137 [some (.ref 78), some (.ref 20), some (.int x1202)] [.int c1287.1] (HX c1287.2 T) 0 0 _
    obtain ⟨rfl, rfl⟩ := ai_smP h
    exact ev_end rfl
  rcases ai_ifE h with ⟨hc, h⟩ | ⟨hs5, h⟩
  · refine ev_swi (k := 5) (t := 138) rfl hc (by decide) (by decide) rfl rfl ?_
    refine ev_go 4 (pc' := 144) (L' := [some (.ref 78), some (.ref 20), some (.int x1202)]) (st' := [.int 0, .ref 80, .ref 20]) (h' := (HX w T)) (cs' := 0) (sl' := 0) rfl ?_
    obtain ⟨v1288, hq, h⟩ := ai_bdE h
    refine ev_iald rfl rfl hq ?_
    refine ev_go 3 (pc' := 150) (L' := [some (.ref 78), some (.ref 20), some (.int x1202)]) (st' := [.int 1, .ref 80, .int v1288, .ref 20]) (h' := (HX w T)) (cs' := 0) (sl' := 0) rfl ?_
    obtain ⟨v1289, hq, h⟩ := ai_bdE h
    refine ev_iald rfl rfl hq ?_
    refine ev_go 3 (pc' := 156) (L' := [some (.ref 78), some (.ref 20), some (.int x1202)]) (st' := [.int 2, .ref 80, .int v1289, .int v1288, .ref 20]) (h' := (HX w T)) (cs' := 0) (sl' := 0) rfl ?_
    obtain ⟨v1290, hq, h⟩ := ai_bdE h
    refine ev_iald rfl rfl hq ?_
    obtain ⟨c1307, hq, h⟩ := ai_bdE h
    refine ev_call (M' := msea_addLift) (L' := [some (.ref 20), some (.int v1288), some (.int v1289), some (.int v1290)]) (rest := []) (rv := some (.int c1307.1)) (h' := (HX c1307.2 T)) rfl (Esea_addLift_20 v1288 v1289 v1290 w _ _ hq T) ?_
    show ai_ev D1 mtxt_tellItem 160 [some (.ref 78), some (.ref 20), some (.int x1202)] [.int c1307.1] (HX c1307.2 T) 0 0 _
    obtain ⟨rfl, rfl⟩ := ai_smP h
    exact ev_end rfl
  rcases ai_ifE h with ⟨hc, h⟩ | ⟨hs6, h⟩
  · refine ev_swi (k := 6) (t := 161) rfl hc (by decide) (by decide) rfl rfl ?_
    refine ev_go 4 (pc' := 167) (L' := [some (.ref 78), some (.ref 20), some (.int x1202)]) (st' := [.int 0, .ref 80, .ref 20]) (h' := (HX w T)) (cs' := 0) (sl' := 0) rfl ?_
    obtain ⟨v1308, hq, h⟩ := ai_bdE h
    refine ev_iald rfl rfl hq ?_
    obtain ⟨c1315, hq, h⟩ := ai_bdE h
    refine ev_call (M' := msea_addTown) (L' := [some (.ref 20), some (.int v1308), none]) (rest := []) (rv := some (.int c1315.1)) (h' := (HX c1315.2 T)) rfl (Esea_addTown_20 n v1308 w _ _ hq T) ?_
    show ai_ev D1 mtxt_tellItem 171 [some (.ref 78), some (.ref 20), some (.int x1202)] [.int c1315.1] (HX c1315.2 T) 0 0 _
    obtain ⟨rfl, rfl⟩ := ai_smP h
    exact ev_end rfl
  refine ev_swo (t := 172) (lo := 0) (n := 7) rfl (sw_out 0 7 (fun k hk => by match k, hk with | 0, _ => exact hs0 | 1, _ => exact hs1 | 2, _ => exact hs2 | 3, _ => exact hs3 | 4, _ => exact hs4 | 5, _ => exact hs5 | 6, _ => exact hs6 | k + 7, hk => exact absurd hk (by omega))) ⟨rfl, by decide⟩ rfl ?_
  refine ev_go 4 (pc' := 178) (L' := [some (.ref 78), some (.ref 20), some (.int x1202)]) (st' := [.int 0, .ref 80, .ref 20]) (h' := (HX w T)) (cs' := 0) (sl' := 0) rfl ?_
  obtain ⟨v1316, hq, h⟩ := ai_bdE h
  refine ev_iald rfl rfl hq ?_
  refine ev_go 1 (pc' := 180) (L' := [some (.ref 78), some (.ref 20), some (.int x1202)]) (st' := [.int 1, .int v1316, .ref 20]) (h' := (HX w T)) (cs' := 0) (sl' := 0) rfl ?_
  obtain ⟨c1320, hq, h⟩ := ai_bdE h
  refine ev_call (M' := msea_putDam) (L' := [some (.ref 20), some (.int v1316), some (.int 1)]) (rest := []) (rv := some (.int c1320.1)) (h' := (HX c1320.2 T)) rfl (Esea_putDam_20 v1316 1 w _ _ hq T) ?_
  show ai_ev D1 mtxt_tellItem 183 [some (.ref 78), some (.ref 20), some (.int x1202)] [.int c1320.1] (HX c1320.2 T) 0 0 _
  obtain ⟨rfl, rfl⟩ := ai_smP h
  exact ev_end rfl
set_option maxHeartbeats 40000000 in
set_option maxRecDepth 100000 in
theorem EGtxt_tell_78_20 : ∀ n : Nat, (∀ (y1173 : Int32) (w : WX) (r : Int32) (w' : WX), Gtxt_tell_78_20 n 0 y1173 w = some (r, w') → ∀ (T : ai_H) (o3 o4 o5 : Option Value), ai_ev D1 mtxt_tell 37 [some (.ref 78), some (.ref 20), some (.int y1173), o3, o4, o5] [] (HX w T) 0 0 (some (.int r), HX w' T)) := by
  intro n
  induction n with
  | zero =>
    exact (fun _ _ _ _ h => by cases h)
  | succ n ih0 =>
    intro y1173 w r w' h T o3 o4 o5
    simp only [Gtxt_tell_78_20] at h
    refine ev_go 2 (pc' := 41) (L' := [some (.ref 78), some (.ref 20), some (.int y1173), o3, o4, o5]) (st' := [.int 150, .int y1173]) (h' := (HX w T)) (cs' := 0) (sl' := 0) rfl ?_
    rcases ai_ifE h with ⟨hc, h⟩ | ⟨hc, h⟩
    · refine ev_ic_ge (t := 205) rfl rfl (fun _ => ?_) (fun c9 => absurd hc c9)
      refine ev_go 1 (pc' := 206) (L' := [some (.ref 78), some (.ref 20), some (.int y1173), o3, o4, o5]) (st' := [.int (-1)]) (h' := (HX w T)) (cs' := 0) (sl' := 0) rfl ?_
      obtain ⟨rfl, rfl⟩ := ai_smP h
      exact ev_end rfl
    · refine ev_ic_ge (t := 205) rfl rfl (fun c9 => absurd c9 hc) (fun _ => ?_)
      refine ev_go 4 (pc' := 52) (L' := [some (.ref 78), some (.ref 20), some (.int y1173), o3, o4, o5]) (st' := [.int (a_text_length w), .int (a_text_at w)]) (h' := (HX w T)) (cs' := 0) (sl' := 0) rfl ?_
      rcases ai_ifE h with ⟨hc, h⟩ | ⟨hc, h⟩
      · refine ev_ic_ge (t := 205) rfl rfl (fun _ => ?_) (fun c9 => absurd hc c9)
        refine ev_go 1 (pc' := 206) (L' := [some (.ref 78), some (.ref 20), some (.int y1173), o3, o4, o5]) (st' := [.int (-1)]) (h' := (HX w T)) (cs' := 0) (sl' := 0) rfl ?_
        obtain ⟨rfl, rfl⟩ := ai_smP h
        exact ev_end rfl
      · refine ev_ic_ge (t := 205) rfl rfl (fun c9 => absurd c9 hc) (fun _ => ?_)
        refine ev_go 4 (pc' := 61) (L' := [some (.ref 78), some (.ref 20), some (.int y1173), some (.int (a_text_at w)), o4, o5]) (st' := [.ref 78]) (h' := (HX w T)) (cs' := 0) (sl' := 0) rfl ?_
        obtain ⟨c1179, hq, h⟩ := ai_bdE h
        refine ev_call (M' := mtxt_takeWord) (L' := [some (.ref 78), none, none]) (rest := []) (rv := some (.int c1179.1)) (h' := (HX c1179.2 T)) rfl (Etxt_takeWord_78 n w _ _ hq T) ?_
        show ai_ev D1 mtxt_tell 64 [some (.ref 78), some (.ref 20), some (.int y1173), some (.int (a_text_at w)), o4, o5] [.int c1179.1] (HX c1179.2 T) 0 0 _
        refine ev_go 3 (pc' := 69) (L' := [some (.ref 78), some (.ref 20), some (.int y1173), some (.int (a_text_at w)), some (.int c1179.1), o5]) (st' := [.int (-1), .int c1179.1]) (h' := (HX c1179.2 T)) (cs' := 0) (sl' := 0) rfl ?_
        rcases ai_ifE h with ⟨hc, h⟩ | ⟨hc, h⟩
        · refine ev_ic_eq (t := 97) rfl rfl (fun _ => ?_) (fun c9 => absurd hc c9)
          refine ev_go 1 (pc' := 98) (L' := [some (.ref 78), some (.ref 20), some (.int y1173), some (.int (a_text_at w)), some (.int c1179.1), o5]) (st' := [.int (a_text_at w)]) (h' := (HX c1179.2 T)) (cs' := 0) (sl' := 0) rfl ?_
          obtain ⟨rfl, rfl⟩ := ai_smP h
          exact ev_end rfl
        · refine ev_ic_eq (t := 97) rfl rfl (fun c9 => absurd c9 hc) (fun _ => ?_)
          refine ev_go 1 (pc' := 74) (L' := [some (.ref 78), some (.ref 20), some (.int y1173), some (.int (a_text_at w)), some (.int c1179.1), o5]) (st' := [.int c1179.1]) (h' := (HX c1179.2 T)) (cs' := 0) (sl' := 0) rfl ?_
          rcases ai_ifE h with ⟨hc, h⟩ | ⟨hc, h⟩
          · refine ev_if_ne (t := 81) rfl rfl (fun c9 => absurd hc c9) (fun _ => ?_)
            refine ev_go 4 (pc' := 86) (L' := [some (.ref 78), some (.ref 20), some (.int y1173), some (.int (a_text_at w)), some (.int c1179.1), o5]) (st' := [.int (a_text_items c1179.2), .int 1]) (h' := (HX c1179.2 T)) (cs' := 0) (sl' := 0) rfl ?_
            rcases ai_ifE h with ⟨hc, h⟩ | ⟨hc, h⟩
            · refine ev_if_ne (t := 93) rfl rfl (fun c9 => absurd hc c9) (fun _ => ?_)
              refine ev_go 5 (pc' := 102) (L' := [some (.ref 78), some (.ref 20), some (.int y1173), some (.int (a_text_at w)), some (.int c1179.1), o5]) (st' := [.int c1179.1, .ref 78]) (h' := (HX c1179.2 T)) (cs' := 0) (sl' := 0) rfl ?_
              obtain ⟨c1324, hq, h⟩ := ai_bdE h
              refine ev_call (M' := mtxt_numbersBehind) (L' := [some (.int c1179.1)]) (rest := [.ref 78]) (rv := some (.int c1324)) (h' := (HX c1179.2 T)) rfl (Etxt_numbersBehind c1179.1 _ hq (HX c1179.2 T)) ?_
              show ai_ev D1 mtxt_tell 105 [some (.ref 78), some (.ref 20), some (.int y1173), some (.int (a_text_at w)), some (.int c1179.1), o5] [.int c1324, .ref 78] (HX c1179.2 T) 0 0 _
              obtain ⟨c1325, hq, h⟩ := ai_bdE h
              refine ev_call (M' := mtxt_takeNumbers) (L' := [some (.ref 78), some (.int c1324), none]) (rest := []) (rv := some (.int c1325.1)) (h' := (HX c1325.2 T)) rfl (Etxt_takeNumbers_78 n c1324 c1179.2 _ _ hq T) ?_
              show ai_ev D1 mtxt_tell 108 [some (.ref 78), some (.ref 20), some (.int y1173), some (.int (a_text_at w)), some (.int c1179.1), o5] [.int c1325.1] (HX c1325.2 T) 0 0 _
              refine ev_go 3 (pc' := 113) (L' := [some (.ref 78), some (.ref 20), some (.int y1173), some (.int (a_text_at w)), some (.int c1179.1), some (.int c1325.1)]) (st' := [.int (-1), .int c1325.1]) (h' := (HX c1325.2 T)) (cs' := 0) (sl' := 0) rfl ?_
              rcases ai_ifE h with ⟨hc, h⟩ | ⟨hc, h⟩
              · refine ev_ic_eq (t := 119) rfl rfl (fun _ => ?_) (fun c9 => absurd hc c9)
                refine ev_go 4 (pc' := 127) (L' := [some (.ref 78), some (.ref 20), some (.int y1173), some (.int (a_text_at w)), some (.int c1179.1), some (.int c1325.1)]) (st' := [.int (a_text_length c1325.2), .int (a_text_at c1325.2)]) (h' := (HX c1325.2 T)) (cs' := 0) (sl' := 0) rfl ?_
                rcases ai_ifE h with ⟨hc, h⟩ | ⟨hc, h⟩
                · refine ev_ic_ge (t := 144) rfl rfl (fun _ => ?_) (fun c9 => absurd hc c9)
                  refine ev_go 2 (pc' := 148) (L' := [some (.ref 78), some (.ref 20), some (.int y1173), some (.int (a_text_at w)), some (.int c1179.1), some (.int c1325.1)]) (st' := [.int (a_text_at c1325.2)]) (h' := (HX c1325.2 T)) (cs' := 0) (sl' := 0) rfl ?_
                  obtain ⟨rfl, rfl⟩ := ai_smP h
                  exact ev_end rfl
                · refine ev_ic_ge (t := 144) rfl rfl (fun c9 => absurd c9 hc) (fun _ => ?_)
                  refine ev_go 4 (pc' := 138) (L' := [some (.ref 78), some (.ref 20), some (.int y1173), some (.int (a_text_at w)), some (.int c1179.1), some (.int c1325.1)]) (st' := [.int (a_text_at c1325.2), .ref 79]) (h' := (HX c1325.2 T)) (cs' := 0) (sl' := 0) rfl ?_
                  obtain ⟨v1326, hq, h⟩ := ai_bdE h
                  refine ev_iald rfl rfl hq ?_
                  refine ev_go 1 (pc' := 141) (L' := [some (.ref 78), some (.ref 20), some (.int y1173), some (.int (a_text_at w)), some (.int c1179.1), some (.int c1325.1)]) (st' := [.int 59, .int v1326]) (h' := (HX c1325.2 T)) (cs' := 0) (sl' := 0) rfl ?_
                  rcases ai_ifE h with ⟨hc, h⟩ | ⟨hc, h⟩
                  · refine ev_ic_eq (t := 149) rfl rfl (fun _ => ?_) (fun c9 => absurd hc c9)
                    refine ev_go 5 (pc' := 156) (L' := [some (.ref 78), some (.ref 20), some (.int y1173), some (.int (a_text_at w)), some (.int c1179.1), some (.int c1325.1)]) (st' := [.int ((a_text_at c1325.2) + 1), .ref 78]) (h' := (HX c1325.2 T)) (cs' := 0) (sl' := 0) rfl ?_
                    refine ev_step rfl rfl rfl (PFX_4_28_78 rfl) ?_
                    refine ev_go 3 (pc' := 164) (L' := [some (.ref 78), some (.ref 20), some (.int y1173), some (.int (a_text_at w)), some (.int c1179.1), some (.int c1325.1)]) (st' := [.int (-1), .int (a_text_refusedItem c1325.2)]) (h' := (HX (u_text_at c1325.2 ((a_text_at c1325.2) + 1)) T)) (cs' := 0) (sl' := 0) rfl ?_
                    rcases ai_ifE h with ⟨hc, h⟩ | ⟨hc, h⟩
                    · refine ev_ic_ne (t := 185) rfl rfl (fun c9 => absurd hc c9) (fun _ => ?_)
                      refine ev_go 3 (pc' := 171) (L' := [some (.ref 78), some (.ref 20), some (.int y1173), some (.int (a_text_at w)), some (.int c1179.1), some (.int c1325.1)]) (st' := [.int c1179.1, .ref 20, .ref 78]) (h' := (HX (u_text_at c1325.2 ((a_text_at c1325.2) + 1)) T)) (cs' := 0) (sl' := 0) rfl ?_
                      obtain ⟨c1328, hq, h⟩ := ai_bdE h
                      refine ev_call (M' := mtxt_tellItem) (L' := [some (.ref 78), some (.ref 20), some (.int c1179.1)]) (rest := []) (rv := some (.int c1328.1)) (h' := (HX c1328.2 T)) rfl (Etxt_tellItem_78_20 n c1179.1 (u_text_at c1325.2 ((a_text_at c1325.2) + 1)) _ _ hq T) ?_
                      show ai_ev D1 mtxt_tell 174 [some (.ref 78), some (.ref 20), some (.int y1173), some (.int (a_text_at w)), some (.int c1179.1), some (.int c1325.1)] [.int c1328.1] (HX c1328.2 T) 0 0 _
                      rcases ai_ifE h with ⟨hc, h⟩ | ⟨hc, h⟩
                      · refine ev_if_ge (t := 185) rfl rfl (fun _ => ?_) (fun c9 => absurd hc c9)
                        refine ev_go 5 (pc' := 192) (L' := [some (.ref 78), some (.ref 20), some (.int y1173), some (.int (a_text_at w)), some (.int c1179.1), some (.int c1325.1)]) (st' := [.int ((a_text_items c1328.2) + 1), .ref 78]) (h' := (HX c1328.2 T)) (cs' := 0) (sl' := 0) rfl ?_
                        refine ev_step rfl rfl rfl (PFX_4_15_78 rfl) ?_
                        refine ev_go 1 (pc' := 196) (L' := [some (.ref 78), some (.ref 20), some (.int y1173), some (.int (a_text_at w)), some (.int c1179.1), some (.int c1325.1)]) (st' := [.ref 78]) (h' := (HX (u_text_items c1328.2 ((a_text_items c1328.2) + 1)) T)) (cs' := 0) (sl' := 0) rfl ?_
                        obtain ⟨c1329, hq, h⟩ := ai_bdE h
                        refine ev_call (M' := mtxt_skipBlanks) (L' := [some (.ref 78)]) (rest := []) (rv := none) (h' := (HX c1329 T)) rfl (Etxt_skipBlanks_78 n (u_text_items c1328.2 ((a_text_items c1328.2) + 1)) _ hq T) ?_
                        show ai_ev D1 mtxt_tell 199 [some (.ref 78), some (.ref 20), some (.int y1173), some (.int (a_text_at w)), some (.int c1179.1), some (.int c1325.1)] [] (HX c1329 T) 0 0 _
                        refine ev_go 2 (pc' := 37) (L' := [some (.ref 78), some (.ref 20), some (.int (y1173 + 1)), some (.int (a_text_at w)), some (.int c1179.1), some (.int c1325.1)]) (st' := []) (h' := (HX c1329 T)) (cs' := 0) (sl' := 0) rfl ?_
                        exact ih0 _ _ _ _ h T _ _ _
                      · refine ev_if_ge (t := 185) rfl rfl (fun c9 => absurd c9 hc) (fun _ => ?_)
                        refine ev_go 3 (pc' := 182) (L' := [some (.ref 78), some (.ref 20), some (.int y1173), some (.int (a_text_at w)), some (.int c1179.1), some (.int c1325.1)]) (st' := [.int (a_text_items c1328.2), .ref 78]) (h' := (HX c1328.2 T)) (cs' := 0) (sl' := 0) rfl ?_
                        refine ev_step rfl rfl rfl (PFX_4_18_78 rfl) ?_
                        refine ev_go 5 (pc' := 192) (L' := [some (.ref 78), some (.ref 20), some (.int y1173), some (.int (a_text_at w)), some (.int c1179.1), some (.int c1325.1)]) (st' := [.int ((a_text_items c1328.2) + 1), .ref 78]) (h' := (HX (u_text_refusedItem c1328.2 (a_text_items c1328.2)) T)) (cs' := 0) (sl' := 0) rfl ?_
                        refine ev_step rfl rfl rfl (PFX_4_15_78 rfl) ?_
                        refine ev_go 1 (pc' := 196) (L' := [some (.ref 78), some (.ref 20), some (.int y1173), some (.int (a_text_at w)), some (.int c1179.1), some (.int c1325.1)]) (st' := [.ref 78]) (h' := (HX (u_text_items (u_text_refusedItem c1328.2 (a_text_items c1328.2)) ((a_text_items c1328.2) + 1)) T)) (cs' := 0) (sl' := 0) rfl ?_
                        obtain ⟨c1330, hq, h⟩ := ai_bdE h
                        refine ev_call (M' := mtxt_skipBlanks) (L' := [some (.ref 78)]) (rest := []) (rv := none) (h' := (HX c1330 T)) rfl (Etxt_skipBlanks_78 n (u_text_items (u_text_refusedItem c1328.2 (a_text_items c1328.2)) ((a_text_items c1328.2) + 1)) _ hq T) ?_
                        show ai_ev D1 mtxt_tell 199 [some (.ref 78), some (.ref 20), some (.int y1173), some (.int (a_text_at w)), some (.int c1179.1), some (.int c1325.1)] [] (HX c1330 T) 0 0 _
                        refine ev_go 2 (pc' := 37) (L' := [some (.ref 78), some (.ref 20), some (.int (y1173 + 1)), some (.int (a_text_at w)), some (.int c1179.1), some (.int c1325.1)]) (st' := []) (h' := (HX c1330 T)) (cs' := 0) (sl' := 0) rfl ?_
                        exact ih0 _ _ _ _ h T _ _ _
                    · refine ev_ic_ne (t := 185) rfl rfl (fun _ => ?_) (fun c9 => absurd c9 hc)
                      refine ev_go 5 (pc' := 192) (L' := [some (.ref 78), some (.ref 20), some (.int y1173), some (.int (a_text_at w)), some (.int c1179.1), some (.int c1325.1)]) (st' := [.int ((a_text_items c1325.2) + 1), .ref 78]) (h' := (HX (u_text_at c1325.2 ((a_text_at c1325.2) + 1)) T)) (cs' := 0) (sl' := 0) rfl ?_
                      refine ev_step rfl rfl rfl (PFX_4_15_78 rfl) ?_
                      refine ev_go 1 (pc' := 196) (L' := [some (.ref 78), some (.ref 20), some (.int y1173), some (.int (a_text_at w)), some (.int c1179.1), some (.int c1325.1)]) (st' := [.ref 78]) (h' := (HX (u_text_items (u_text_at c1325.2 ((a_text_at c1325.2) + 1)) ((a_text_items c1325.2) + 1)) T)) (cs' := 0) (sl' := 0) rfl ?_
                      obtain ⟨c1327, hq, h⟩ := ai_bdE h
                      refine ev_call (M' := mtxt_skipBlanks) (L' := [some (.ref 78)]) (rest := []) (rv := none) (h' := (HX c1327 T)) rfl (Etxt_skipBlanks_78 n (u_text_items (u_text_at c1325.2 ((a_text_at c1325.2) + 1)) ((a_text_items c1325.2) + 1)) _ hq T) ?_
                      show ai_ev D1 mtxt_tell 199 [some (.ref 78), some (.ref 20), some (.int y1173), some (.int (a_text_at w)), some (.int c1179.1), some (.int c1325.1)] [] (HX c1327 T) 0 0 _
                      refine ev_go 2 (pc' := 37) (L' := [some (.ref 78), some (.ref 20), some (.int (y1173 + 1)), some (.int (a_text_at w)), some (.int c1179.1), some (.int c1325.1)]) (st' := []) (h' := (HX c1327 T)) (cs' := 0) (sl' := 0) rfl ?_
                      exact ih0 _ _ _ _ h T _ _ _
                  · refine ev_ic_eq (t := 149) rfl rfl (fun c9 => absurd c9 hc) (fun _ => ?_)
                    refine ev_go 2 (pc' := 148) (L' := [some (.ref 78), some (.ref 20), some (.int y1173), some (.int (a_text_at w)), some (.int c1179.1), some (.int c1325.1)]) (st' := [.int (a_text_at c1325.2)]) (h' := (HX c1325.2 T)) (cs' := 0) (sl' := 0) rfl ?_
                    obtain ⟨rfl, rfl⟩ := ai_smP h
                    exact ev_end rfl
              · refine ev_ic_eq (t := 119) rfl rfl (fun c9 => absurd c9 hc) (fun _ => ?_)
                refine ev_go 1 (pc' := 118) (L' := [some (.ref 78), some (.ref 20), some (.int y1173), some (.int (a_text_at w)), some (.int c1179.1), some (.int c1325.1)]) (st' := [.int c1325.1]) (h' := (HX c1325.2 T)) (cs' := 0) (sl' := 0) rfl ?_
                obtain ⟨rfl, rfl⟩ := ai_smP h
                exact ev_end rfl
            · refine ev_if_ne (t := 93) rfl rfl (fun _ => ?_) (fun c9 => absurd c9 hc)
              refine ev_go 3 (pc' := 98) (L' := [some (.ref 78), some (.ref 20), some (.int y1173), some (.int (a_text_at w)), some (.int c1179.1), o5]) (st' := [.int (a_text_at w)]) (h' := (HX c1179.2 T)) (cs' := 0) (sl' := 0) rfl ?_
              obtain ⟨rfl, rfl⟩ := ai_smP h
              exact ev_end rfl
          · refine ev_if_ne (t := 81) rfl rfl (fun _ => ?_) (fun c9 => absurd c9 hc)
            refine ev_go 3 (pc' := 86) (L' := [some (.ref 78), some (.ref 20), some (.int y1173), some (.int (a_text_at w)), some (.int c1179.1), o5]) (st' := [.int (a_text_items c1179.2), .int 0]) (h' := (HX c1179.2 T)) (cs' := 0) (sl' := 0) rfl ?_
            rcases ai_ifE h with ⟨hc, h⟩ | ⟨hc, h⟩
            · refine ev_if_ne (t := 93) rfl rfl (fun c9 => absurd hc c9) (fun _ => ?_)
              refine ev_go 4 (pc' := 98) (L' := [some (.ref 78), some (.ref 20), some (.int y1173), some (.int (a_text_at w)), some (.int c1179.1), o5]) (st' := [.int (a_text_at w)]) (h' := (HX c1179.2 T)) (cs' := 0) (sl' := 0) rfl ?_
              obtain ⟨rfl, rfl⟩ := ai_smP h
              exact ev_end rfl
            · refine ev_if_ne (t := 93) rfl rfl (fun _ => ?_) (fun c9 => absurd c9 hc)
              refine ev_go 4 (pc' := 102) (L' := [some (.ref 78), some (.ref 20), some (.int y1173), some (.int (a_text_at w)), some (.int c1179.1), o5]) (st' := [.int c1179.1, .ref 78]) (h' := (HX c1179.2 T)) (cs' := 0) (sl' := 0) rfl ?_
              obtain ⟨c1181, hq, h⟩ := ai_bdE h
              refine ev_call (M' := mtxt_numbersBehind) (L' := [some (.int c1179.1)]) (rest := [.ref 78]) (rv := some (.int c1181)) (h' := (HX c1179.2 T)) rfl (Etxt_numbersBehind c1179.1 _ hq (HX c1179.2 T)) ?_
              show ai_ev D1 mtxt_tell 105 [some (.ref 78), some (.ref 20), some (.int y1173), some (.int (a_text_at w)), some (.int c1179.1), o5] [.int c1181, .ref 78] (HX c1179.2 T) 0 0 _
              obtain ⟨c1199, hq, h⟩ := ai_bdE h
              refine ev_call (M' := mtxt_takeNumbers) (L' := [some (.ref 78), some (.int c1181), none]) (rest := []) (rv := some (.int c1199.1)) (h' := (HX c1199.2 T)) rfl (Etxt_takeNumbers_78 n c1181 c1179.2 _ _ hq T) ?_
              show ai_ev D1 mtxt_tell 108 [some (.ref 78), some (.ref 20), some (.int y1173), some (.int (a_text_at w)), some (.int c1179.1), o5] [.int c1199.1] (HX c1199.2 T) 0 0 _
              refine ev_go 3 (pc' := 113) (L' := [some (.ref 78), some (.ref 20), some (.int y1173), some (.int (a_text_at w)), some (.int c1179.1), some (.int c1199.1)]) (st' := [.int (-1), .int c1199.1]) (h' := (HX c1199.2 T)) (cs' := 0) (sl' := 0) rfl ?_
              rcases ai_ifE h with ⟨hc, h⟩ | ⟨hc, h⟩
              · refine ev_ic_eq (t := 119) rfl rfl (fun _ => ?_) (fun c9 => absurd hc c9)
                refine ev_go 4 (pc' := 127) (L' := [some (.ref 78), some (.ref 20), some (.int y1173), some (.int (a_text_at w)), some (.int c1179.1), some (.int c1199.1)]) (st' := [.int (a_text_length c1199.2), .int (a_text_at c1199.2)]) (h' := (HX c1199.2 T)) (cs' := 0) (sl' := 0) rfl ?_
                rcases ai_ifE h with ⟨hc, h⟩ | ⟨hc, h⟩
                · refine ev_ic_ge (t := 144) rfl rfl (fun _ => ?_) (fun c9 => absurd hc c9)
                  refine ev_go 2 (pc' := 148) (L' := [some (.ref 78), some (.ref 20), some (.int y1173), some (.int (a_text_at w)), some (.int c1179.1), some (.int c1199.1)]) (st' := [.int (a_text_at c1199.2)]) (h' := (HX c1199.2 T)) (cs' := 0) (sl' := 0) rfl ?_
                  obtain ⟨rfl, rfl⟩ := ai_smP h
                  exact ev_end rfl
                · refine ev_ic_ge (t := 144) rfl rfl (fun c9 => absurd c9 hc) (fun _ => ?_)
                  refine ev_go 4 (pc' := 138) (L' := [some (.ref 78), some (.ref 20), some (.int y1173), some (.int (a_text_at w)), some (.int c1179.1), some (.int c1199.1)]) (st' := [.int (a_text_at c1199.2), .ref 79]) (h' := (HX c1199.2 T)) (cs' := 0) (sl' := 0) rfl ?_
                  obtain ⟨v1200, hq, h⟩ := ai_bdE h
                  refine ev_iald rfl rfl hq ?_
                  refine ev_go 1 (pc' := 141) (L' := [some (.ref 78), some (.ref 20), some (.int y1173), some (.int (a_text_at w)), some (.int c1179.1), some (.int c1199.1)]) (st' := [.int 59, .int v1200]) (h' := (HX c1199.2 T)) (cs' := 0) (sl' := 0) rfl ?_
                  rcases ai_ifE h with ⟨hc, h⟩ | ⟨hc, h⟩
                  · refine ev_ic_eq (t := 149) rfl rfl (fun _ => ?_) (fun c9 => absurd hc c9)
                    refine ev_go 5 (pc' := 156) (L' := [some (.ref 78), some (.ref 20), some (.int y1173), some (.int (a_text_at w)), some (.int c1179.1), some (.int c1199.1)]) (st' := [.int ((a_text_at c1199.2) + 1), .ref 78]) (h' := (HX c1199.2 T)) (cs' := 0) (sl' := 0) rfl ?_
                    refine ev_step rfl rfl rfl (PFX_4_28_78 rfl) ?_
                    refine ev_go 3 (pc' := 164) (L' := [some (.ref 78), some (.ref 20), some (.int y1173), some (.int (a_text_at w)), some (.int c1179.1), some (.int c1199.1)]) (st' := [.int (-1), .int (a_text_refusedItem c1199.2)]) (h' := (HX (u_text_at c1199.2 ((a_text_at c1199.2) + 1)) T)) (cs' := 0) (sl' := 0) rfl ?_
                    rcases ai_ifE h with ⟨hc, h⟩ | ⟨hc, h⟩
                    · refine ev_ic_ne (t := 185) rfl rfl (fun c9 => absurd hc c9) (fun _ => ?_)
                      refine ev_go 3 (pc' := 171) (L' := [some (.ref 78), some (.ref 20), some (.int y1173), some (.int (a_text_at w)), some (.int c1179.1), some (.int c1199.1)]) (st' := [.int c1179.1, .ref 20, .ref 78]) (h' := (HX (u_text_at c1199.2 ((a_text_at c1199.2) + 1)) T)) (cs' := 0) (sl' := 0) rfl ?_
                      obtain ⟨c1321, hq, h⟩ := ai_bdE h
                      refine ev_call (M' := mtxt_tellItem) (L' := [some (.ref 78), some (.ref 20), some (.int c1179.1)]) (rest := []) (rv := some (.int c1321.1)) (h' := (HX c1321.2 T)) rfl (Etxt_tellItem_78_20 n c1179.1 (u_text_at c1199.2 ((a_text_at c1199.2) + 1)) _ _ hq T) ?_
                      show ai_ev D1 mtxt_tell 174 [some (.ref 78), some (.ref 20), some (.int y1173), some (.int (a_text_at w)), some (.int c1179.1), some (.int c1199.1)] [.int c1321.1] (HX c1321.2 T) 0 0 _
                      rcases ai_ifE h with ⟨hc, h⟩ | ⟨hc, h⟩
                      · refine ev_if_ge (t := 185) rfl rfl (fun _ => ?_) (fun c9 => absurd hc c9)
                        refine ev_go 5 (pc' := 192) (L' := [some (.ref 78), some (.ref 20), some (.int y1173), some (.int (a_text_at w)), some (.int c1179.1), some (.int c1199.1)]) (st' := [.int ((a_text_items c1321.2) + 1), .ref 78]) (h' := (HX c1321.2 T)) (cs' := 0) (sl' := 0) rfl ?_
                        refine ev_step rfl rfl rfl (PFX_4_15_78 rfl) ?_
                        refine ev_go 1 (pc' := 196) (L' := [some (.ref 78), some (.ref 20), some (.int y1173), some (.int (a_text_at w)), some (.int c1179.1), some (.int c1199.1)]) (st' := [.ref 78]) (h' := (HX (u_text_items c1321.2 ((a_text_items c1321.2) + 1)) T)) (cs' := 0) (sl' := 0) rfl ?_
                        obtain ⟨c1322, hq, h⟩ := ai_bdE h
                        refine ev_call (M' := mtxt_skipBlanks) (L' := [some (.ref 78)]) (rest := []) (rv := none) (h' := (HX c1322 T)) rfl (Etxt_skipBlanks_78 n (u_text_items c1321.2 ((a_text_items c1321.2) + 1)) _ hq T) ?_
                        show ai_ev D1 mtxt_tell 199 [some (.ref 78), some (.ref 20), some (.int y1173), some (.int (a_text_at w)), some (.int c1179.1), some (.int c1199.1)] [] (HX c1322 T) 0 0 _
                        refine ev_go 2 (pc' := 37) (L' := [some (.ref 78), some (.ref 20), some (.int (y1173 + 1)), some (.int (a_text_at w)), some (.int c1179.1), some (.int c1199.1)]) (st' := []) (h' := (HX c1322 T)) (cs' := 0) (sl' := 0) rfl ?_
                        exact ih0 _ _ _ _ h T _ _ _
                      · refine ev_if_ge (t := 185) rfl rfl (fun c9 => absurd c9 hc) (fun _ => ?_)
                        refine ev_go 3 (pc' := 182) (L' := [some (.ref 78), some (.ref 20), some (.int y1173), some (.int (a_text_at w)), some (.int c1179.1), some (.int c1199.1)]) (st' := [.int (a_text_items c1321.2), .ref 78]) (h' := (HX c1321.2 T)) (cs' := 0) (sl' := 0) rfl ?_
                        refine ev_step rfl rfl rfl (PFX_4_18_78 rfl) ?_
                        refine ev_go 5 (pc' := 192) (L' := [some (.ref 78), some (.ref 20), some (.int y1173), some (.int (a_text_at w)), some (.int c1179.1), some (.int c1199.1)]) (st' := [.int ((a_text_items c1321.2) + 1), .ref 78]) (h' := (HX (u_text_refusedItem c1321.2 (a_text_items c1321.2)) T)) (cs' := 0) (sl' := 0) rfl ?_
                        refine ev_step rfl rfl rfl (PFX_4_15_78 rfl) ?_
                        refine ev_go 1 (pc' := 196) (L' := [some (.ref 78), some (.ref 20), some (.int y1173), some (.int (a_text_at w)), some (.int c1179.1), some (.int c1199.1)]) (st' := [.ref 78]) (h' := (HX (u_text_items (u_text_refusedItem c1321.2 (a_text_items c1321.2)) ((a_text_items c1321.2) + 1)) T)) (cs' := 0) (sl' := 0) rfl ?_
                        obtain ⟨c1323, hq, h⟩ := ai_bdE h
                        refine ev_call (M' := mtxt_skipBlanks) (L' := [some (.ref 78)]) (rest := []) (rv := none) (h' := (HX c1323 T)) rfl (Etxt_skipBlanks_78 n (u_text_items (u_text_refusedItem c1321.2 (a_text_items c1321.2)) ((a_text_items c1321.2) + 1)) _ hq T) ?_
                        show ai_ev D1 mtxt_tell 199 [some (.ref 78), some (.ref 20), some (.int y1173), some (.int (a_text_at w)), some (.int c1179.1), some (.int c1199.1)] [] (HX c1323 T) 0 0 _
                        refine ev_go 2 (pc' := 37) (L' := [some (.ref 78), some (.ref 20), some (.int (y1173 + 1)), some (.int (a_text_at w)), some (.int c1179.1), some (.int c1199.1)]) (st' := []) (h' := (HX c1323 T)) (cs' := 0) (sl' := 0) rfl ?_
                        exact ih0 _ _ _ _ h T _ _ _
                    · refine ev_ic_ne (t := 185) rfl rfl (fun _ => ?_) (fun c9 => absurd c9 hc)
                      refine ev_go 5 (pc' := 192) (L' := [some (.ref 78), some (.ref 20), some (.int y1173), some (.int (a_text_at w)), some (.int c1179.1), some (.int c1199.1)]) (st' := [.int ((a_text_items c1199.2) + 1), .ref 78]) (h' := (HX (u_text_at c1199.2 ((a_text_at c1199.2) + 1)) T)) (cs' := 0) (sl' := 0) rfl ?_
                      refine ev_step rfl rfl rfl (PFX_4_15_78 rfl) ?_
                      refine ev_go 1 (pc' := 196) (L' := [some (.ref 78), some (.ref 20), some (.int y1173), some (.int (a_text_at w)), some (.int c1179.1), some (.int c1199.1)]) (st' := [.ref 78]) (h' := (HX (u_text_items (u_text_at c1199.2 ((a_text_at c1199.2) + 1)) ((a_text_items c1199.2) + 1)) T)) (cs' := 0) (sl' := 0) rfl ?_
                      obtain ⟨c1201, hq, h⟩ := ai_bdE h
                      refine ev_call (M' := mtxt_skipBlanks) (L' := [some (.ref 78)]) (rest := []) (rv := none) (h' := (HX c1201 T)) rfl (Etxt_skipBlanks_78 n (u_text_items (u_text_at c1199.2 ((a_text_at c1199.2) + 1)) ((a_text_items c1199.2) + 1)) _ hq T) ?_
                      show ai_ev D1 mtxt_tell 199 [some (.ref 78), some (.ref 20), some (.int y1173), some (.int (a_text_at w)), some (.int c1179.1), some (.int c1199.1)] [] (HX c1201 T) 0 0 _
                      refine ev_go 2 (pc' := 37) (L' := [some (.ref 78), some (.ref 20), some (.int (y1173 + 1)), some (.int (a_text_at w)), some (.int c1179.1), some (.int c1199.1)]) (st' := []) (h' := (HX c1201 T)) (cs' := 0) (sl' := 0) rfl ?_
                      exact ih0 _ _ _ _ h T _ _ _
                  · refine ev_ic_eq (t := 149) rfl rfl (fun c9 => absurd c9 hc) (fun _ => ?_)
                    refine ev_go 2 (pc' := 148) (L' := [some (.ref 78), some (.ref 20), some (.int y1173), some (.int (a_text_at w)), some (.int c1179.1), some (.int c1199.1)]) (st' := [.int (a_text_at c1199.2)]) (h' := (HX c1199.2 T)) (cs' := 0) (sl' := 0) rfl ?_
                    obtain ⟨rfl, rfl⟩ := ai_smP h
                    exact ev_end rfl
              · refine ev_ic_eq (t := 119) rfl rfl (fun c9 => absurd c9 hc) (fun _ => ?_)
                refine ev_go 1 (pc' := 118) (L' := [some (.ref 78), some (.ref 20), some (.int y1173), some (.int (a_text_at w)), some (.int c1179.1), some (.int c1199.1)]) (st' := [.int c1199.1]) (h' := (HX c1199.2 T)) (cs' := 0) (sl' := 0) rfl ?_
                obtain ⟨rfl, rfl⟩ := ai_smP h
                exact ev_end rfl
set_option maxHeartbeats 40000000 in
set_option maxRecDepth 100000 in
theorem Etxt_tell_78_20 (n : Nat) (w : WX) (r : Int32) (w' : WX) (h : Ftxt_tell_78_20 n w = some (r, w')) (T : ai_H) : ai_ev D1 mtxt_tell 0 [some (.ref 78), some (.ref 20), none, none, none, none] [] (HX w T) 0 0 (some (.int r), HX w' T) := by
  unfold Ftxt_tell_78_20 at h
  have ih0 := EGtxt_tell_78_20 n
  refine ev_go 2 (pc' := 2) (L' := [some (.ref 78), some (.ref 20), none, none, none, none]) (st' := [.int 0, .ref 78]) (h' := (HX w T)) (cs' := 0) (sl' := 0) rfl ?_
  refine ev_step rfl rfl rfl (PFX_4_28_78 rfl) ?_
  refine ev_go 2 (pc' := 7) (L' := [some (.ref 78), some (.ref 20), none, none, none, none]) (st' := [.int 0, .ref 78]) (h' := (HX (u_text_at w 0) T)) (cs' := 0) (sl' := 0) rfl ?_
  refine ev_step rfl rfl rfl (PFX_4_15_78 rfl) ?_
  refine ev_go 2 (pc' := 12) (L' := [some (.ref 78), some (.ref 20), none, none, none, none]) (st' := [.int (-1), .ref 78]) (h' := (HX (u_text_items (u_text_at w 0) 0) T)) (cs' := 0) (sl' := 0) rfl ?_
  refine ev_step rfl rfl rfl (PFX_4_18_78 rfl) ?_
  refine ev_go 1 (pc' := 16) (L' := [some (.ref 78), some (.ref 20), none, none, none, none]) (st' := [.ref 78]) (h' := (HX (u_text_refusedItem (u_text_items (u_text_at w 0) 0) (-1)) T)) (cs' := 0) (sl' := 0) rfl ?_
  obtain ⟨c1172, hq, h⟩ := ai_bdE h
  refine ev_call (M' := mtxt_skipBlanks) (L' := [some (.ref 78)]) (rest := []) (rv := none) (h' := (HX c1172 T)) rfl (Etxt_skipBlanks_78 n (u_text_refusedItem (u_text_items (u_text_at w 0) 0) (-1)) _ hq T) ?_
  show ai_ev D1 mtxt_tell 19 [some (.ref 78), some (.ref 20), none, none, none, none] [] (HX c1172 T) 0 0 _
  refine ev_go 4 (pc' := 27) (L' := [some (.ref 78), some (.ref 20), none, none, none, none]) (st' := [.int (a_text_length c1172), .int (a_text_at c1172)]) (h' := (HX c1172 T)) (cs' := 0) (sl' := 0) rfl ?_
  rcases ai_ifE h with ⟨hc, h⟩ | ⟨hc, h⟩
  · refine ev_ic_lt (t := 35) rfl rfl (fun _ => ?_) (fun c9 => absurd hc c9)
    refine ev_go 2 (pc' := 37) (L' := [some (.ref 78), some (.ref 20), some (.int 0), none, none, none]) (st' := []) (h' := (HX c1172 T)) (cs' := 0) (sl' := 0) rfl ?_
    exact ih0 _ _ _ _ h T _ _ _
  · refine ev_ic_lt (t := 35) rfl rfl (fun c9 => absurd c9 hc) (fun _ => ?_)
    refine ev_go 2 (pc' := 34) (L' := [some (.ref 78), some (.ref 20), none, none, none, none]) (st' := [.int (a_text_length c1172)]) (h' := (HX c1172 T)) (cs' := 0) (sl' := 0) rfl ?_
    obtain ⟨rfl, rfl⟩ := ai_smP h
    exact ev_end rfl
