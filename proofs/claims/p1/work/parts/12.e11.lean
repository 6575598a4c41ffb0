set_option maxHeartbeats 40000000 in
set_option maxRecDepth 100000 in
theorem Ef_drop_0 (x1150 : Int32) (x1151 : Int32) (w : WX) (r : Int32) (w' : WX) (h : Ff_drop_0 x1150 x1151 w = some (r, w')) (T : ai_H) : ai_ev D1 mf_drop 0 [some (.ref 0), some (.int x1150), some (.int x1151)] [] (HX w T) 0 0 (some (.int r), HX w' T) := by
  unfold Ff_drop_0 at h
  refine ev_go 5 (pc' := 7) (L' := [some (.ref 0), some (.int x1150), some (.int x1151)]) (st' := [.int x1151, .int x1150, .ref 1, .ref 0]) (h' := (HX w T)) (cs' := 0) (sl' := 0) rfl ?_
  obtain ⟨c1158, hq, h⟩ := ai_bdE h
  refine ev_call (M' := msea_addDrop) (L' := [some (.ref 1), some (.int x1150), some (.int x1151)]) (rest := [.ref 0]) (rv := some (.int c1158.1)) (h' := (HX c1158.2 T)) rfl (Esea_addDrop_1 x1150 x1151 w _ _ hq T) ?_
  show ai_ev D1 mf_drop 10 [some (.ref 0), some (.int x1150), some (.int x1151)] [.int c1158.1, .ref 0] (HX c1158.2 T) 0 0 _
  obtain ⟨c1159, hq, h⟩ := ai_bdE h
  refine ev_call (M' := mf_counted) (L' := [some (.ref 0), some (.int c1158.1)]) (rest := []) (rv := some (.int c1159.1)) (h' := (HX c1159.2 T)) rfl (Ef_counted_0 c1158.1 c1158.2 _ _ hq T) ?_
  show ai_ev D1 mf_drop 13 [some (.ref 0), some (.int x1150), some (.int x1151)] [.int c1159.1] (HX c1159.2 T) 0 0 _
  obtain ⟨rfl, rfl⟩ := ai_smP h
  exact ev_end rfl
set_option maxHeartbeats 40000000 in
set_option maxRecDepth 100000 in
theorem Esea_empty_1 (x1161 : Int32) (w : WX) (r : Int32) (w' : WX) (h : Fsea_empty_1 x1161 w = some (r, w')) (T : ai_H) : ai_ev D1 msea_empty 0 [some (.ref 1), some (.int x1161), none] [] (HX w T) 0 0 (some (.int r), HX w' T) := by
  unfold Fsea_empty_1 at h
  refine ev_go 3 (pc' := 3) (L' := [some (.ref 1), some (.int x1161), none]) (st' := [.int 3, .int 0, .int x1161]) (h' := (HX w T)) (cs' := 0) (sl' := 0) rfl ?_
  obtain ⟨c1162, hq, h⟩ := ai_bdE h
  refine ev_call (M' := mf_within) (L' := [some (.int x1161), some (.int 0), some (.int 3)]) (rest := []) (rv := some (.int c1162)) (h' := (HX w T)) rfl (Ef_within x1161 0 3 _ hq (HX w T)) ?_
  show ai_ev D1 msea_empty 6 [some (.ref 1), some (.int x1161), none] [.int c1162] (HX w T) 0 0 _
  rcases ai_ifE h with ⟨hc, h⟩ | ⟨hc, h⟩
  · refine ev_if_ne (t := 12) rfl rfl (fun c9 => absurd hc c9) (fun _ => ?_)
    refine ev_go 1 (pc' := 11) (L' := [some (.ref 1), some (.int x1161), none]) (st' := [.int (-2)]) (h' := (HX w T)) (cs' := 0) (sl' := 0) rfl ?_
    obtain ⟨rfl, rfl⟩ := ai_smP h
    exact ev_end rfl
  · refine ev_if_ne (t := 12) rfl rfl (fun _ => ?_) (fun c9 => absurd c9 hc)
    refine ev_go 1 (pc' := 13) (L' := [some (.ref 1), some (.int x1161), none]) (st' := [.int x1161]) (h' := (HX w T)) (cs' := 0) (sl' := 0) rfl ?_
    rcases ai_ifE h with ⟨hc, h⟩ | ⟨hc, h⟩
    · refine ev_if_ne (t := 35) rfl rfl (fun c9 => absurd hc c9) (fun _ => ?_)
      refine ev_go 10 (pc' := 88) (L' := [some (.ref 1), some (.int x1161), some (.int (a_s1things_count w))]) (st' := [.int (a_s1things_count w)]) (h' := (HX (u_s1things_count w 0) T)) (cs' := 0) (sl' := 0) rfl ?_
      obtain ⟨rfl, rfl⟩ := ai_smP h
      exact ev_end rfl
    · refine ev_if_ne (t := 35) rfl rfl (fun _ => ?_) (fun c9 => absurd c9 hc)
      refine ev_go 2 (pc' := 37) (L' := [some (.ref 1), some (.int x1161), none]) (st' := [.int 1, .int x1161]) (h' := (HX w T)) (cs' := 0) (sl' := 0) rfl ?_
      rcases ai_ifE h with ⟨hc, h⟩ | ⟨hc, h⟩
      · refine ev_ic_ne (t := 59) rfl rfl (fun c9 => absurd hc c9) (fun _ => ?_)
        refine ev_go 10 (pc' := 88) (L' := [some (.ref 1), some (.int x1161), some (.int (a_s1lifts_count w))]) (st' := [.int (a_s1lifts_count w)]) (h' := (HX (u_s1lifts_count w 0) T)) (cs' := 0) (sl' := 0) rfl ?_
        obtain ⟨rfl, rfl⟩ := ai_smP h
        exact ev_end rfl
      · refine ev_ic_ne (t := 59) rfl rfl (fun _ => ?_) (fun c9 => absurd c9 hc)
        refine ev_go 2 (pc' := 61) (L' := [some (.ref 1), some (.int x1161), none]) (st' := [.int 2, .int x1161]) (h' := (HX w T)) (cs' := 0) (sl' := 0) rfl ?_
        rcases ai_ifE h with ⟨hc, h⟩ | ⟨hc, h⟩
        · refine ev_ic_ne (t := 77) rfl rfl (fun c9 => absurd hc c9) (fun _ => ?_)
          refine ev_go 8 (pc' := 88) (L' := [some (.ref 1), some (.int x1161), some (.int (a_s1_towns w))]) (st' := [.int (a_s1_towns w)]) (h' := (HX (u_s1_towns w 0) T)) (cs' := 0) (sl' := 0) rfl ?_
          obtain ⟨rfl, rfl⟩ := ai_smP h
          exact ev_end rfl
        · refine ev_ic_ne (t := 77) rfl rfl (fun _ => ?_) (fun c9 => absurd c9 hc)
          refine ev_go 7 (pc' := 88) (L' := [some (.ref 1), some (.int x1161), some (.int (a_s1_drops w))]) (st' := [.int (a_s1_drops w)]) (h' := (HX (u_s1_drops w 0) T)) (cs' := 0) (sl' := 0) rfl ?_
          obtain ⟨rfl, rfl⟩ := ai_smP h
          exact ev_end rfl
set_option maxHeartbeats 40000000 in
set_option maxRecDepth 100000 in
theorem Ef_clean_0 (x1160 : Int32) (w : WX) (r : Int32) (w' : WX) (h : Ff_clean_0 x1160 w = some (r, w')) (T : ai_H) : ai_ev D1 mf_clean 0 [some (.ref 0), some (.int x1160)] [] (HX w T) 0 0 (some (.int r), HX w' T) := by
  unfold Ff_clean_0 at h
  refine ev_go 4 (pc' := 6) (L' := [some (.ref 0), some (.int x1160)]) (st' := [.int x1160, .ref 1, .ref 0]) (h' := (HX w T)) (cs' := 0) (sl' := 0) rfl ?_
  obtain ⟨c1163, hq, h⟩ := ai_bdE h
  refine ev_call (M' := msea_empty) (L' := [some (.ref 1), some (.int x1160), none]) (rest := [.ref 0]) (rv := some (.int c1163.1)) (h' := (HX c1163.2 T)) rfl (Esea_empty_1 x1160 w _ _ hq T) ?_
  show ai_ev D1 mf_clean 9 [some (.ref 0), some (.int x1160)] [.int c1163.1, .ref 0] (HX c1163.2 T) 0 0 _
  obtain ⟨c1164, hq, h⟩ := ai_bdE h
  refine ev_call (M' := mf_counted) (L' := [some (.ref 0), some (.int c1163.1)]) (rest := []) (rv := some (.int c1164.1)) (h' := (HX c1164.2 T)) rfl (Ef_counted_0 c1163.1 c1163.2 _ _ hq T) ?_
  show ai_ev D1 mf_clean 12 [some (.ref 0), some (.int x1160)] [.int c1164.1] (HX c1164.2 T) 0 0 _
  obtain ⟨rfl, rfl⟩ := ai_smP h
  exact ev_end rfl
set_option maxHeartbeats 40000000 in
set_option maxRecDepth 100000 in
theorem Etxt_add_78 (x1166 : Int32) (w : WX) (r : Int32) (w' : WX) (h : Ftxt_add_78 x1166 w = some (r, w')) (T : ai_H) : ai_ev D1 mtxt_add 0 [some (.ref 78), some (.int x1166)] [] (HX w T) 0 0 (some (.int r), HX w' T) := by
  unfold Ftxt_add_78 at h
  refine ev_go 3 (pc' := 4) (L' := [some (.ref 78), some (.int x1166)]) (st' := [.int 127, .int 0, .int x1166]) (h' := (HX w T)) (cs' := 0) (sl' := 0) rfl ?_
  obtain ⟨c1167, hq, h⟩ := ai_bdE h
  refine ev_call (M' := mf_within) (L' := [some (.int x1166), some (.int 0), some (.int 127)]) (rest := []) (rv := some (.int c1167)) (h' := (HX w T)) rfl (Ef_within x1166 0 127 _ hq (HX w T)) ?_
  show ai_ev D1 mtxt_add 7 [some (.ref 78), some (.int x1166)] [.int c1167] (HX w T) 0 0 _
  rcases ai_ifE h with ⟨hc, h⟩ | ⟨hc, h⟩
  · refine ev_if_ne (t := 13) rfl rfl (fun c9 => absurd hc c9) (fun _ => ?_)
    refine ev_go 1 (pc' := 12) (L' := [some (.ref 78), some (.int x1166)]) (st' := [.int (-2)]) (h' := (HX w T)) (cs' := 0) (sl' := 0) rfl ?_
    obtain ⟨rfl, rfl⟩ := ai_smP h
    exact ev_end rfl
  · refine ev_if_ne (t := 13) rfl rfl (fun _ => ?_) (fun c9 => absurd c9 hc)
    refine ev_go 3 (pc' := 20) (L' := [some (.ref 78), some (.int x1166)]) (st' := [.int 150, .int (a_text_length w)]) (h' := (HX w T)) (cs' := 0) (sl' := 0) rfl ?_
    rcases ai_ifE h with ⟨hc, h⟩ | ⟨hc, h⟩
    · refine ev_ic_lt (t := 26) rfl rfl (fun _ => ?_) (fun c9 => absurd hc c9)
      refine ev_go 5 (pc' := 35) (L' := [some (.ref 78), some (.int x1166)]) (st' := [.int x1166, .int (a_text_length w), .ref 79]) (h' := (HX w T)) (cs' := 0) (sl' := 0) rfl ?_
      obtain ⟨q1168, hq, h⟩ := ai_bdE h
      refine ev_iast rfl rfl hq ?_
      show ai_ev D1 mtxt_add 36 [some (.ref 78), some (.int x1166)] [] (HX (u_text_bytes w q1168) T) 0 0 _
      refine ev_go 8 (pc' := 50) (L' := [some (.ref 78), some (.int x1166)]) (st' := [.int ((a_text_length w) + 1)]) (h' := (HX (u_text_length (u_text_bytes w q1168) ((a_text_length w) + 1)) T)) (cs' := 0) (sl' := 0) rfl ?_
      obtain ⟨rfl, rfl⟩ := ai_smP h
      exact ev_end rfl
    · refine ev_ic_lt (t := 26) rfl rfl (fun c9 => absurd c9 hc) (fun _ => ?_)
      refine ev_go 1 (pc' := 25) (L' := [some (.ref 78), some (.int x1166)]) (st' := [.int (-4)]) (h' := (HX w T)) (cs' := 0) (sl' := 0) rfl ?_
      obtain ⟨rfl, rfl⟩ := ai_smP h
      exact ev_end rfl
set_option maxHeartbeats 40000000 in
set_option maxRecDepth 100000 in
theorem Ef_type_0 (x1165 : Int32) (w : WX) (r : Int32) (w' : WX) (h : Ff_type_0 x1165 w = some (r, w')) (T : ai_H) : ai_ev D1 mf_type 0 [some (.ref 0), some (.int x1165)] [] (HX w T) 0 0 (some (.int r), HX w' T) := by
  unfold Ff_type_0 at h
  refine ev_go 4 (pc' := 6) (L' := [some (.ref 0), some (.int x1165)]) (st' := [.int x1165, .ref 78, .ref 0]) (h' := (HX w T)) (cs' := 0) (sl' := 0) rfl ?_
  obtain ⟨c1169, hq, h⟩ := ai_bdE h
  refine ev_call (M' := mtxt_add) (L' := [some (.ref 78), some (.int x1165)]) (rest := [.ref 0]) (rv := some (.int c1169.1)) (h' := (HX c1169.2 T)) rfl (Etxt_add_78 x1165 w _ _ hq T) ?_
  show ai_ev D1 mf_type 9 [some (.ref 0), some (.int x1165)] [.int c1169.1, .ref 0] (HX c1169.2 T) 0 0 _
  obtain ⟨c1170, hq, h⟩ := ai_bdE h
  refine ev_call (M' := mf_counted) (L' := [some (.ref 0), some (.int c1169.1)]) (rest := []) (rv := some (.int c1170.1)) (h' := (HX c1170.2 T)) rfl (Ef_counted_0 c1169.1 c1169.2 _ _ hq T) ?_
  show ai_ev D1 mf_type 12 [some (.ref 0), some (.int x1165)] [.int c1170.1] (HX c1170.2 T) 0 0 _
  obtain ⟨rfl, rfl⟩ := ai_smP h
  exact ev_end rfl
set_option maxHeartbeats 40000000 in
set_option maxRecDepth 100000 in
theorem Ef_clear_0 (w : WX) (r : Int32) (w' : WX) (h : Ff_clear_0 w = some (r, w')) (T : ai_H) : ai_ev D1 mf_clear 0 [some (.ref 0), none] [] (HX w T) 0 0 (some (.int r), HX w' T) := by
  unfold Ff_clear_0 at h
  refine ev_go 9 (pc' := 17) (L' := [some (.ref 0), some (.int (a_text_length w))]) (st' := [.int (a_text_length w)]) (h' := (HX (u_text_length w 0) T)) (cs' := 0) (sl' := 0) rfl ?_
  obtain ⟨rfl, rfl⟩ := ai_smP h
  exact ev_end rfl
set_option maxHeartbeats 40000000 in
set_option maxRecDepth 100000 in
theorem EGtxt_skipBlanks_78 : ∀ n : Nat, (∀ (w : WX) (w' : WX), Gtxt_skipBlanks_78 n 0  w = some w' → ∀ (T : ai_H), ai_ev D1 mtxt_skipBlanks 0 [some (.ref 78)] [] (HX w T) 0 0 (none, HX w' T)) := by
  intro n
  induction n with
  | zero =>
    exact (fun _ _ h => by cases h)
  | succ n ih0 =>
    intro w w' h T
    simp only [Gtxt_skipBlanks_78] at h
    refine ev_go 4 (pc' := 8) (L' := [some (.ref 78)]) (st' := [.int (a_text_length w), .int (a_text_at w)]) (h' := (HX w T)) (cs' := 0) (sl' := 0) rfl ?_
    rcases ai_ifE h with ⟨hc, h⟩ | ⟨hc, h⟩
    · refine ev_ic_ge (t := 38) rfl rfl (fun _ => ?_) (fun c9 => absurd hc c9)
      obtain rfl := Option.some.inj h
      exact ev_end rfl
    · refine ev_ic_ge (t := 38) rfl rfl (fun c9 => absurd c9 hc) (fun _ => ?_)
      refine ev_go 4 (pc' := 19) (L' := [some (.ref 78)]) (st' := [.int (a_text_at w), .ref 79]) (h' := (HX w T)) (cs' := 0) (sl' := 0) rfl ?_
      obtain ⟨v1171, hq, h⟩ := ai_bdE h
      refine ev_iald rfl rfl hq ?_
      refine ev_go 1 (pc' := 22) (L' := [some (.ref 78)]) (st' := [.int 32, .int v1171]) (h' := (HX w T)) (cs' := 0) (sl' := 0) rfl ?_
      rcases ai_ifE h with ⟨hc, h⟩ | ⟨hc, h⟩
      · refine ev_ic_ne (t := 38) rfl rfl (fun c9 => absurd hc c9) (fun _ => ?_)
        refine ev_go 7 (pc' := 0) (L' := [some (.ref 78)]) (st' := []) (h' := (HX (u_text_at w ((a_text_at w) + 1)) T)) (cs' := 0) (sl' := 0) rfl ?_
        exact ih0 _ _ h T
      · refine ev_ic_ne (t := 38) rfl rfl (fun _ => ?_) (fun c9 => absurd c9 hc)
        obtain rfl := Option.some.inj h
        exact ev_end rfl
set_option maxHeartbeats 40000000 in
set_option maxRecDepth 100000 in
theorem Etxt_skipBlanks_78 (n : Nat) (w : WX) (w' : WX) (h : Ftxt_skipBlanks_78 n w = some w') (T : ai_H) : ai_ev D1 mtxt_skipBlanks 0 [some (.ref 78)] [] (HX w T) 0 0 (none, HX w' T) := by
  unfold Ftxt_skipBlanks_78 at h
  have ih0 := EGtxt_skipBlanks_78 n
  exact ih0 _ _ h T
set_option maxHeartbeats 40000000 in
set_option maxRecDepth 100000 in
theorem Esea_goOn_1 (x1180 : Int32) (w : WX) (r : Int32) (w' : WX) (h : Fsea_goOn_1 x1180 w = some (r, w')) (T : ai_H) : ai_ev D1 msea_goOn 0 [some (.ref 1), some (.int x1180)] [] (HX w T) 0 0 (some (.int r), HX w' T) := by
  unfold Fsea_goOn_1 at h
  refine ev_go 3 (pc' := 4) (L' := [some (.ref 1), some (.int x1180)]) (st' := [.int 99, .int 1, .int x1180]) (h' := (HX w T)) (cs' := 0) (sl' := 0) rfl ?_
  obtain ⟨c1181, hq, h⟩ := ai_bdE h
  refine ev_call (M' := mf_within) (L' := [some (.int x1180), some (.int 1), some (.int 99)]) (rest := []) (rv := some (.int c1181)) (h' := (HX w T)) rfl (Ef_within x1180 1 99 _ hq (HX w T)) ?_
  show ai_ev D1 msea_goOn 7 [some (.ref 1), some (.int x1180)] [.int c1181] (HX w T) 0 0 _
  rcases ai_ifE h with ⟨hc, h⟩ | ⟨hc, h⟩
  · refine ev_if_ne (t := 13) rfl rfl (fun c9 => absurd hc c9) (fun _ => ?_)
    refine ev_go 1 (pc' := 12) (L' := [some (.ref 1), some (.int x1180)]) (st' := [.int (-2)]) (h' := (HX w T)) (cs' := 0) (sl' := 0) rfl ?_
    obtain ⟨rfl, rfl⟩ := ai_smP h
    exact ev_end rfl
  · refine ev_if_ne (t := 13) rfl rfl (fun _ => ?_) (fun c9 => absurd c9 hc)
    refine ev_go 5 (pc' := 22) (L' := [some (.ref 1), some (.int x1180)]) (st' := [.int 999, .int ((a_s1_hour w) + x1180)]) (h' := (HX w T)) (cs' := 0) (sl' := 0) rfl ?_
    rcases ai_ifE h with ⟨hc, h⟩ | ⟨hc, h⟩
    · refine ev_ic_le (t := 28) rfl rfl (fun _ => ?_) (fun c9 => absurd hc c9)
      refine ev_go 3 (pc' := 34) (L' := [some (.ref 1), some (.int x1180)]) (st' := [.int 10, .int (a_s1_undos w)]) (h' := (HX w T)) (cs' := 0) (sl' := 0) rfl ?_
      rcases ai_ifE h with ⟨hc, h⟩ | ⟨hc, h⟩
      · refine ev_ic_lt (t := 58) rfl rfl (fun _ => ?_) (fun c9 => absurd hc c9)
        refine ev_go 6 (pc' := 70) (L' := [some (.ref 1), some (.int x1180)]) (st' := [.int (a_s1_hour w), .int (a_s1_undos w), .ref 19]) (h' := (HX w T)) (cs' := 0) (sl' := 0) rfl ?_
        obtain ⟨q1182, hq, h⟩ := ai_bdE h
        refine ev_iast rfl rfl hq ?_
        show ai_ev D1 msea_goOn 71 [some (.ref 1), some (.int x1180)] [] (HX (u_s1_hoursBefore w q1182) T) 0 0 _
        refine ev_go 14 (pc' := 95) (L' := [some (.ref 1), some (.int x1180)]) (st' := [.int ((a_s1_hour w) + x1180)]) (h' := (HX (u_s1_hour (u_s1_undos (u_s1_hoursBefore w q1182) ((a_s1_undos w) + 1)) ((a_s1_hour w) + x1180)) T)) (cs' := 0) (sl' := 0) rfl ?_
        obtain ⟨rfl, rfl⟩ := ai_smP h
        exact ev_end rfl
      · refine ev_ic_lt (t := 58) rfl rfl (fun c9 => absurd c9 hc) (fun _ => ?_)
        refine ev_go 7 (pc' := 49) (L' := [some (.ref 1), some (.int x1180)]) (st' := [.int 9, .int 0, .ref 19, .int 1, .ref 19]) (h' := (HX w T)) (cs' := 0) (sl' := 0) rfl ?_
        obtain ⟨q1183, hq, h⟩ := ai_bdE h
        refine ev_cpy rfl rfl rfl rfl rfl rfl hq ?_
        show ai_ev D1 msea_goOn 52 [some (.ref 1), some (.int x1180)] [] (HX (u_s1_hoursBefore w q1183) T) 0 0 _
        refine ev_go 9 (pc' := 70) (L' := [some (.ref 1), some (.int x1180)]) (st' := [.int (a_s1_hour w), .int 9, .ref 19]) (h' := (HX (u_s1_undos (u_s1_hoursBefore w q1183) 9) T)) (cs' := 0) (sl' := 0) rfl ?_
        obtain ⟨q1184, hq, h⟩ := ai_bdE h
        refine ev_iast rfl rfl hq ?_
        show ai_ev D1 msea_goOn 71 [some (.ref 1), some (.int x1180)] [] (HX (u_s1_undos (u_s1_hoursBefore w q1184) 9) T) 0 0 _
        refine ev_go 14 (pc' := 95) (L' := [some (.ref 1), some (.int x1180)]) (st' := [.int ((a_s1_hour w) + x1180)]) (h' := (HX (u_s1_hour (u_s1_undos (u_s1_hoursBefore w q1184) 10) ((a_s1_hour w) + x1180)) T)) (cs' := 0) (sl' := 0) rfl ?_
        obtain ⟨rfl, rfl⟩ := ai_smP h
        exact ev_end rfl
    · refine ev_ic_le (t := 28) rfl rfl (fun c9 => absurd c9 hc) (fun _ => ?_)
      refine ev_go 1 (pc' := 27) (L' := [some (.ref 1), some (.int x1180)]) (st' := [.int (-3)]) (h' := (HX w T)) (cs' := 0) (sl' := 0) rfl ?_
      obtain ⟨rfl, rfl⟩ := ai_smP h
      exact ev_end rfl
set_option maxHeartbeats 40000000 in
set_option maxRecDepth 100000 in
theorem Ef_hours_0 (x1179 : Int32) (w : WX) (r : Int32) (w' : WX) (h : Ff_hours_0 x1179 w = some (r, w')) (T : ai_H) : ai_ev D1 mf_hours 0 [some (.ref 0), some (.int x1179)] [] (HX w T) 0 0 (some (.int r), HX w' T) := by
  unfold Ff_hours_0 at h
  refine ev_go 4 (pc' := 6) (L' := [some (.ref 0), some (.int x1179)]) (st' := [.int x1179, .ref 1, .ref 0]) (h' := (HX w T)) (cs' := 0) (sl' := 0) rfl ?_
  obtain ⟨c1185, hq, h⟩ := ai_bdE h
  refine ev_call (M' := msea_goOn) (L' := [some (.ref 1), some (.int x1179)]) (rest := [.ref 0]) (rv := some (.int c1185.1)) (h' := (HX c1185.2 T)) rfl (Esea_goOn_1 x1179 w _ _ hq T) ?_
  show ai_ev D1 mf_hours 9 [some (.ref 0), some (.int x1179)] [.int c1185.1, .ref 0] (HX c1185.2 T) 0 0 _
  obtain ⟨c1186, hq, h⟩ := ai_bdE h
  refine ev_call (M' := mf_counted) (L' := [some (.ref 0), some (.int c1185.1)]) (rest := []) (rv := some (.int c1186.1)) (h' := (HX c1186.2 T)) rfl (Ef_counted_0 c1185.1 c1185.2 _ _ hq T) ?_
  show ai_ev D1 mf_hours 12 [some (.ref 0), some (.int x1179)] [.int c1186.1] (HX c1186.2 T) 0 0 _
  obtain ⟨rfl, rfl⟩ := ai_smP h
  exact ev_end rfl
set_option maxHeartbeats 40000000 in
set_option maxRecDepth 100000 in
theorem Esea_goBack_1 (w : WX) (r : Int32) (w' : WX) (h : Fsea_goBack_1 w = some (r, w')) (T : ai_H) : ai_ev D1 msea_goBack 0 [some (.ref 1)] [] (HX w T) 0 0 (some (.int r), HX w' T) := by
  unfold Fsea_goBack_1 at h
  refine ev_go 2 (pc' := 4) (L' := [some (.ref 1)]) (st' := [.int (a_s1_undos w)]) (h' := (HX w T)) (cs' := 0) (sl' := 0) rfl ?_
  rcases ai_ifE h with ⟨hc, h⟩ | ⟨hc, h⟩
  · refine ev_if_gt (t := 10) rfl rfl (fun _ => ?_) (fun c9 => absurd hc c9)
    refine ev_go 11 (pc' := 29) (L' := [some (.ref 1)]) (st' := [.int ((a_s1_undos w) - 1), .ref 19, .ref 1]) (h' := (HX (u_s1_undos w ((a_s1_undos w) - 1)) T)) (cs' := 0) (sl' := 0) rfl ?_
    obtain ⟨v1187, hq, h⟩ := ai_bdE h
    refine ev_iald rfl rfl hq ?_
    refine ev_go 2 (pc' := 34) (L' := [some (.ref 1)]) (st' := [.int 1]) (h' := (HX (u_s1_hour (u_s1_undos w ((a_s1_undos w) - 1)) v1187) T)) (cs' := 0) (sl' := 0) rfl ?_
    obtain ⟨rfl, rfl⟩ := ai_smP h
    exact ev_end rfl
  · refine ev_if_gt (t := 10) rfl rfl (fun c9 => absurd c9 hc) (fun _ => ?_)
    refine ev_go 1 (pc' := 9) (L' := [some (.ref 1)]) (st' := [.int (-3)]) (h' := (HX w T)) (cs' := 0) (sl' := 0) rfl ?_
    obtain ⟨rfl, rfl⟩ := ai_smP h
    exact ev_end rfl
set_option maxHeartbeats 40000000 in
set_option maxRecDepth 100000 in
theorem Ef_undo_0 (w : WX) (r : Int32) (w' : WX) (h : Ff_undo_0 w = some (r, w')) (T : ai_H) : ai_ev D1 mf_undo 0 [some (.ref 0)] [] (HX w T) 0 0 (some (.int r), HX w' T) := by
  unfold Ff_undo_0 at h
  refine ev_go 3 (pc' := 5) (L' := [some (.ref 0)]) (st' := [.ref 1, .ref 0]) (h' := (HX w T)) (cs' := 0) (sl' := 0) rfl ?_
  obtain ⟨c1188, hq, h⟩ := ai_bdE h
  refine ev_call (M' := msea_goBack) (L' := [some (.ref 1)]) (rest := [.ref 0]) (rv := some (.int c1188.1)) (h' := (HX c1188.2 T)) rfl (Esea_goBack_1 w _ _ hq T) ?_
  show ai_ev D1 mf_undo 8 [some (.ref 0)] [.int c1188.1, .ref 0] (HX c1188.2 T) 0 0 _
  obtain ⟨c1189, hq, h⟩ := ai_bdE h
  refine ev_call (M' := mf_counted) (L' := [some (.ref 0), some (.int c1188.1)]) (rest := []) (rv := some (.int c1189.1)) (h' := (HX c1189.2 T)) rfl (Ef_counted_0 c1188.1 c1188.2 _ _ hq T) ?_
  show ai_ev D1 mf_undo 11 [some (.ref 0)] [.int c1189.1] (HX c1189.2 T) 0 0 _
  obtain ⟨rfl, rfl⟩ := ai_smP h
  exact ev_end rfl
set_option maxHeartbeats 40000000 in
set_option maxRecDepth 100000 in
theorem Efall_weightOf (x1208 : Int32) (x1209 : Int32) (x1210 : Int32) (x1211 : Int32) (r : Int32) (h : Ffall_weightOf x1208 x1209 x1210 x1211 = some r) (hh : ai_H) : ai_ev D1 mfall_weightOf 0 [some (.int x1208), some (.int x1209), some (.int x1210), some (.int x1211)] [] hh 0 0 (some (.int r), hh) := by
  unfold Ffall_weightOf at h
  refine ev_go 1 (pc' := 1) (L' := [some (.int x1208), some (.int x1209), some (.int x1210), some (.int x1211)]) (st' := [.int x1208]) (h' := hh) (cs' := 0) (sl' := 0) rfl ?_
  rcases ai_ifE h with ⟨hc, h⟩ | ⟨hs1, h⟩
  · refine ev_swi (k := 1) (t := 28) rfl hc (by decide) (by decide) rfl rfl ?_
    refine ev_go 3 (pc' := 31) (L' := [some (.int x1208), some (.int x1209), some (.int x1210), some (.int x1211)]) (st' := [.int (x1209 + x1210)]) (h' := hh) (cs' := 0) (sl' := 0) rfl ?_
    obtain rfl := Option.some.inj h
    exact ev_end rfl
  rcases ai_ifE h with ⟨hc, h⟩ | ⟨hs2, h⟩
  · refine ev_swi (k := 2) (t := 28) rfl hc (by decide) (by decide) rfl rfl ?_
    refine ev_go 3 (pc' := 31) (L' := [some (.int x1208), some (.int x1209), some (.int x1210), some (.int x1211)]) (st' := [.int (x1209 + x1210)]) (h' := hh) (cs' := 0) (sl' := 0) rfl ?_
    obtain rfl := Option.some.inj h
    exact ev_end rfl
  rcases ai_ifE h with ⟨hc, h⟩ | ⟨hs3, h⟩
  · refine ev_swi (k := 3) (t := 32) rfl hc (by decide) (by decide) rfl rfl ?_
    refine ev_go 9 (pc' := 44) (L' := [some (.int x1208), some (.int x1209), some (.int x1210), some (.int x1211)]) (st' := [.int ((x1209 + x1210) + (2 * (if 10 < x1211 then 10 else x1211)))]) (h' := hh) (cs' := 0) (sl' := 0) rfl ?_
    obtain rfl := Option.some.inj h
    exact ev_end rfl
  refine ev_swo (t := 45) (lo := 1) (n := 3) rfl (sw_out 1 3 (fun k hk => by match k, hk with | 0, _ => exact hs1 | 1, _ => exact hs2 | 2, _ => exact hs3 | k + 3, hk => exact absurd hk (by omega))) ⟨rfl, by decide⟩ rfl ?_
  refine ev_go 1 (pc' := 46) (L' := [some (.int x1208), some (.int x1209), some (.int x1210), some (.int x1211)]) (st' := [.int x1209]) (h' := hh) (cs' := 0) (sl' := 0) rfl ?_
  obtain rfl := Option.some.inj h
  exact ev_end rfl
set_option maxHeartbeats 40000000 in
set_option maxRecDepth 100000 in
theorem Efall_roomOf (x1213 : Int32) (x1214 : Int32) (x1215 : Int32) (r : Int32) (h : Ffall_roomOf x1213 x1214 x1215 = some r) (hh : ai_H) : ai_ev D1 mfall_roomOf 0 [some (.int x1213), some (.int x1214), some (.int x1215)] [] hh 0 0 (some (.int r), hh) := by
  unfold Ffall_roomOf at h
  refine ev_go 1 (pc' := 1) (L' := [some (.int x1213), some (.int x1214), some (.int x1215)]) (st' := [.int x1213]) (h' := hh) (cs' := 0) (sl' := 0) rfl ?_
  rcases ai_ifE h with ⟨hc, h⟩ | ⟨hs2, h⟩
  · refine ev_swi (k := 2) (t := 28) rfl hc (by decide) (by decide) rfl rfl ?_
    refine ev_go 3 (pc' := 31) (L' := [some (.int x1213), some (.int x1214), some (.int x1215)]) (st' := [.int (x1214 + 1)]) (h' := hh) (cs' := 0) (sl' := 0) rfl ?_
    obtain rfl := Option.some.inj h
    exact ev_end rfl
  rcases ai_ifE h with ⟨hc, h⟩ | ⟨hs3, h⟩
  · refine ev_swi (k := 3) (t := 28) rfl hc (by decide) (by decide) rfl rfl ?_
    refine ev_go 3 (pc' := 31) (L' := [some (.int x1213), some (.int x1214), some (.int x1215)]) (st' := [.int (x1214 + 1)]) (h' := hh) (cs' := 0) (sl' := 0) rfl ?_
    obtain rfl := Option.some.inj h
    exact ev_end rfl
  rcases ai_ifE h with ⟨hc, h⟩ | ⟨hs4, h⟩
  · refine ev_swi (k := 4) (t := 32) rfl hc (by decide) (by decide) rfl rfl ?_
    refine ev_go 7 (pc' := 41) (L' := [some (.int x1213), some (.int x1214), some (.int x1215)]) (st' := [.int (x1214 + (if 5 < (x1215 / 4) then 5 else (x1215 / 4)))]) (h' := hh) (cs' := 0) (sl' := 0) rfl ?_
    obtain rfl := Option.some.inj h
    exact ev_end rfl
  refine ev_swo (t := 42) (lo := 2) (n := 3) rfl (sw_out 2 3 (fun k hk => by match k, hk with | 0, _ => exact hs2 | 1, _ => exact hs3 | 2, _ => exact hs4 | k + 3, hk => exact absurd hk (by omega))) ⟨rfl, by decide⟩ rfl ?_
  refine ev_go 1 (pc' := 43) (L' := [some (.int x1213), some (.int x1214), some (.int x1215)]) (st' := [.int x1214]) (h' := hh) (cs' := 0) (sl' := 0) rfl ?_
  obtain rfl := Option.some.inj h
  exact ev_end rfl
set_option maxHeartbeats 40000000 in
set_option maxRecDepth 100000 in
theorem Efall_forceOf (x1217 : Int32) (x1218 : Int32) (r : Int32) (h : Ffall_forceOf x1217 x1218 = some r) (hh : ai_H) : ai_ev D1 mfall_forceOf 0 [some (.int x1217), some (.int x1218)] [] hh 0 0 (some (.int r), hh) := by
  unfold Ffall_forceOf at h
  refine ev_go 1 (pc' := 1) (L' := [some (.int x1217), some (.int x1218)]) (st' := [.int x1217]) (h' := hh) (cs' := 0) (sl' := 0) rfl ?_
  rcases ai_ifE h with ⟨hc, h⟩ | ⟨hs2, h⟩
  · refine ev_swi (k := 2) (t := 32) rfl hc (by decide) (by decide) rfl rfl ?_
    refine ev_go 3 (pc' := 35) (L' := [some (.int x1217), some (.int x1218)]) (st' := [.int (x1218 / 2)]) (h' := hh) (cs' := 0) (sl' := 0) rfl ?_
    obtain rfl := Option.some.inj h
    exact ev_end rfl
  rcases ai_ifE h with ⟨hc, h⟩ | ⟨hs3, h⟩
  · refine ev_swi (k := 3) (t := 36) rfl hc (by decide) (by decide) rfl rfl ?_
    refine ev_go 1 (pc' := 38) (L' := [some (.int x1217), some (.int x1218)]) (st' := [.int 100]) (h' := hh) (cs' := 0) (sl' := 0) rfl ?_
    obtain rfl := Option.some.inj h
    exact ev_end rfl
  rcases ai_ifE h with ⟨hc, h⟩ | ⟨hs4, h⟩
  · refine ev_swi (k := 4) (t := 41) rfl hc (by decide) (by decide) rfl rfl ?_
    refine ev_go 1 (pc' := 42) (L' := [some (.int x1217), some (.int x1218)]) (st' := [.int x1218]) (h' := hh) (cs' := 0) (sl' := 0) rfl ?_
    obtain rfl := Option.some.inj h
    exact ev_end rfl
  rcases ai_ifE h with ⟨hc, h⟩ | ⟨hs5, h⟩
  · refine ev_swi (k := 5) (t := 39) rfl hc (by decide) (by decide) rfl rfl ?_
    refine ev_go 1 (pc' := 40) (L' := [some (.int x1217), some (.int x1218)]) (st' := [.int 0]) (h' := hh) (cs' := 0) (sl' := 0) rfl ?_
    obtain rfl := Option.some.inj h
    exact ev_end rfl
  refine ev_swo (t := 41) (lo := 2) (n := 4) rfl (sw_out 2 4 (fun k hk => by match k, hk with | 0, _ => exact hs2 | 1, _ => exact hs3 | 2, _ => exact hs4 | 3, _ => exact hs5 | k + 4, hk => exact absurd hk (by omega))) ⟨rfl, by decide⟩ rfl ?_
  refine ev_go 1 (pc' := 42) (L' := [some (.int x1217), some (.int x1218)]) (st' := [.int x1218]) (h' := hh) (cs' := 0) (sl' := 0) rfl ?_
  obtain rfl := Option.some.inj h
  exact ev_end rfl
set_option maxHeartbeats 40000000 in
set_option maxRecDepth 100000 in
theorem Efall_shape_81 (x1203 : Int32) (x1204 : Int32) (x1205 : Int32) (x1206 : Int32) (x1207 : Int32) (w : WX) (w' : WX) (h : Ffall_shape_81 x1203 x1204 x1205 x1206 x1207 w = some w') (T : ai_H) : ai_ev D1 mfall_shape 0 [some (.ref 81), some (.int x1203), some (.int x1204), some (.int x1205), some (.int x1206), some (.int x1207)] [] (HX w T) 0 0 (none, HX w' T) := by
  unfold Ffall_shape_81 at h
  refine ev_go 5 (pc' := 7) (L' := [some (.ref 81), some (.int x1203), some (.int x1204), some (.int x1205), some (.int x1206), some (.int x1207)]) (st' := [.int x1207, .int x1206, .int x1204, .int x1203, .ref 81]) (h' := (HX w T)) (cs' := 0) (sl' := 0) rfl ?_
  obtain ⟨c1212, hq, h⟩ := ai_bdE h
  refine ev_call (M' := mfall_weightOf) (L' := [some (.int x1203), some (.int x1204), some (.int x1206), some (.int x1207)]) (rest := [.ref 81]) (rv := some (.int c1212)) (h' := (HX w T)) rfl (Efall_weightOf x1203 x1204 x1206 x1207 _ hq (HX w T)) ?_
  show ai_ev D1 mfall_shape 10 [some (.ref 81), some (.int x1203), some (.int x1204), some (.int x1205), some (.int x1206), some (.int x1207)] [.int c1212, .ref 81] (HX w T) 0 0 _
  refine ev_go 5 (pc' := 18) (L' := [some (.ref 81), some (.int x1203), some (.int x1204), some (.int x1205), some (.int x1206), some (.int x1207)]) (st' := [.int x1207, .int x1205, .int x1203, .ref 81]) (h' := (HX (u_fall_weighs w c1212) T)) (cs' := 0) (sl' := 0) rfl ?_
  obtain ⟨c1216, hq, h⟩ := ai_bdE h
  refine ev_call (M' := mfall_roomOf) (L' := [some (.int x1203), some (.int x1205), some (.int x1207)]) (rest := [.ref 81]) (rv := some (.int c1216)) (h' := (HX (u_fall_weighs w c1212) T)) rfl (Efall_roomOf x1203 x1205 x1207 _ hq (HX (u_fall_weighs w c1212) T)) ?_
  show ai_ev D1 mfall_shape 21 [some (.ref 81), some (.int x1203), some (.int x1204), some (.int x1205), some (.int x1206), some (.int x1207)] [.int c1216, .ref 81] (HX (u_fall_weighs w c1212) T) 0 0 _
  refine ev_go 5 (pc' := 30) (L' := [some (.ref 81), some (.int x1203), some (.int x1204), some (.int x1205), some (.int x1206), some (.int x1207)]) (st' := [.int c1212, .int x1203, .ref 81]) (h' := (HX (u_fall_room (u_fall_weighs w c1212) c1216) T)) (cs' := 0) (sl' := 0) rfl ?_
  obtain ⟨c1219, hq, h⟩ := ai_bdE h
  refine ev_call (M' := mfall_forceOf) (L' := [some (.int x1203), some (.int c1212)]) (rest := [.ref 81]) (rv := some (.int c1219)) (h' := (HX (u_fall_room (u_fall_weighs w c1212) c1216) T)) rfl (Efall_forceOf x1203 c1212 _ hq (HX (u_fall_room (u_fall_weighs w c1212) c1216) T)) ?_
  show ai_ev D1 mfall_shape 33 [some (.ref 81), some (.int x1203), some (.int x1204), some (.int x1205), some (.int x1206), some (.int x1207)] [.int c1219, .ref 81] (HX (u_fall_room (u_fall_weighs w c1212) c1216) T) 0 0 _
  refine ev_go 1 (pc' := 36) (L' := [some (.ref 81), some (.int x1203), some (.int x1204), some (.int x1205), some (.int x1206), some (.int x1207)]) (st' := []) (h' := (HX (u_fall_force (u_fall_room (u_fall_weighs w c1212) c1216) c1219) T)) (cs' := 0) (sl' := 0) rfl ?_
  obtain rfl := Option.some.inj h
  exact ev_end rfl
set_option maxHeartbeats 40000000 in
set_option maxRecDepth 100000 in
theorem Ef_shapeWithBallast_0 (x1197 : Int32) (x1198 : Int32) (x1199 : Int32) (w : WX) (w' : WX) (h : Ff_shapeWithBallast_0 x1197 x1198 x1199 w = some w') (T : ai_H) : ai_ev D1 mf_shapeWithBallast 0 [some (.ref 0), some (.int x1197), some (.int x1198), some (.int x1199), none] [] (HX w T) 0 0 (none, HX w' T) := by
  unfold Ff_shapeWithBallast_0 at h
  refine ev_go 9 (pc' := 19) (L' := [some (.ref 0), some (.int x1197), some (.int x1198), some (.int x1199), some (.ref 7)]) (st' := [.int x1197, .ref 8, .ref 81]) (h' := (HX w T)) (cs' := 0) (sl' := 0) rfl ?_
  obtain ⟨v1200, hq, h⟩ := ai_bdE h
  refine ev_iald rfl rfl hq ?_
  refine ev_go 3 (pc' := 26) (L' := [some (.ref 0), some (.int x1197), some (.int x1198), some (.int x1199), some (.ref 7)]) (st' := [.int x1197, .ref 9, .int v1200, .ref 81]) (h' := (HX w T)) (cs' := 0) (sl' := 0) rfl ?_
  obtain ⟨v1201, hq, h⟩ := ai_bdE h
  refine ev_iald rfl rfl hq ?_
  refine ev_go 3 (pc' := 33) (L' := [some (.ref 0), some (.int x1197), some (.int x1198), some (.int x1199), some (.ref 7)]) (st' := [.int x1197, .ref 10, .int v1201, .int v1200, .ref 81]) (h' := (HX w T)) (cs' := 0) (sl' := 0) rfl ?_
  obtain ⟨v1202, hq, h⟩ := ai_bdE h
  refine ev_iald rfl rfl hq ?_
  refine ev_go 2 (pc' := 36) (L' := [some (.ref 0), some (.int x1197), some (.int x1198), some (.int x1199), some (.ref 7)]) (st' := [.int x1199, .int x1198, .int v1202, .int v1201, .int v1200, .ref 81]) (h' := (HX w T)) (cs' := 0) (sl' := 0) rfl ?_
  obtain ⟨c1220, hq, h⟩ := ai_bdE h
  refine ev_call (M' := mfall_shape) (L' := [some (.ref 81), some (.int v1200), some (.int v1201), some (.int v1202), some (.int x1198), some (.int x1199)]) (rest := []) (rv := none) (h' := (HX c1220 T)) rfl (Efall_shape_81 v1200 v1201 v1202 x1198 x1199 w _ hq T) ?_
  show ai_ev D1 mf_shapeWithBallast 39 [some (.ref 0), some (.int x1197), some (.int x1198), some (.int x1199), some (.ref 7)] [] (HX c1220 T) 0 0 _
  obtain rfl := Option.some.inj h
  exact ev_end rfl
set_option maxHeartbeats 40000000 in
set_option maxRecDepth 100000 in
theorem Ef_shapeNow_0 (x1195 : Int32) (w : WX) (w' : WX) (h : Ff_shapeNow_0 x1195 w = some w') (T : ai_H) : ai_ev D1 mf_shapeNow 0 [some (.ref 0), some (.int x1195)] [] (HX w T) 0 0 (none, HX w' T) := by
  unfold Ff_shapeNow_0 at h
  refine ev_go 7 (pc' := 13) (L' := [some (.ref 0), some (.int x1195)]) (st' := [.int x1195, .ref 11, .int x1195, .ref 0]) (h' := (HX w T)) (cs' := 0) (sl' := 0) rfl ?_
  obtain ⟨v1196, hq, h⟩ := ai_bdE h
  refine ev_iald rfl rfl hq ?_
  refine ev_go 3 (pc' := 21) (L' := [some (.ref 0), some (.int x1195)]) (st' := [.int (a_s1_hour w), .int v1196, .int x1195, .ref 0]) (h' := (HX w T)) (cs' := 0) (sl' := 0) rfl ?_
  obtain ⟨c1221, hq, h⟩ := ai_bdE h
  refine ev_call (M' := mf_shapeWithBallast) (L' := [some (.ref 0), some (.int x1195), some (.int v1196), some (.int (a_s1_hour w)), none]) (rest := []) (rv := none) (h' := (HX c1221 T)) rfl (Ef_shapeWithBallast_0 x1195 v1196 (a_s1_hour w) w _ hq T) ?_
  show ai_ev D1 mf_shapeNow 24 [some (.ref 0), some (.int x1195)] [] (HX c1221 T) 0 0 _
  obtain rfl := Option.some.inj h
  exact ev_end rfl
set_option maxHeartbeats 40000000 in
set_option maxRecDepth 100000 in
theorem Ef_of_0 (x1190 : Int32) (x1191 : Int32) (w : WX) (r : Int32) (w' : WX) (h : Ff_of_0 x1190 x1191 w = some (r, w')) (T : ai_H) : ai_ev D1 mf_of 0 [some (.ref 0), some (.int x1190), some (.int x1191)] [] (HX w T) 0 0 (some (.int r), HX w' T) := by
  unfold Ff_of_0 at h
  refine ev_go 4 (pc' := 8) (L' := [some (.ref 0), some (.int x1190), some (.int x1191)]) (st' := [.int x1190, .ref 7]) (h' := (HX w T)) (cs' := 0) (sl' := 0) rfl ?_
  obtain ⟨c1192, hq, h⟩ := ai_bdE h
  refine ev_call (M' := mthg_has) (L' := [some (.ref 7), some (.int x1190)]) (rest := []) (rv := some (.int c1192.1)) (h' := (HX c1192.2 T)) rfl (Ethg_has_7 x1190 w _ _ hq T) ?_
  show ai_ev D1 mf_of 11 [some (.ref 0), some (.int x1190), some (.int x1191)] [.int c1192.1] (HX c1192.2 T) 0 0 _
  rcases ai_ifE h with ⟨hc, h⟩ | ⟨hc, h⟩
  · refine ev_if_eq (t := 23) rfl rfl (fun _ => ?_) (fun c9 => absurd hc c9)
    refine ev_go 2 (pc' := 26) (L' := [some (.ref 0), some (.int x1190), some (.int x1191)]) (st' := [.int (-2), .ref 0]) (h' := (HX c1192.2 T)) (cs' := 0) (sl' := 0) rfl ?_
    obtain ⟨c1193, hq, h⟩ := ai_bdE h
    refine ev_call (M' := mf_bad) (L' := [some (.ref 0), some (.int (-2))]) (rest := []) (rv := some (.int c1193.1)) (h' := (HX c1193.2 T)) rfl (Ef_bad_0 (-2) c1192.2 _ _ hq T) ?_
    show ai_ev D1 mf_of 29 [some (.ref 0), some (.int x1190), some (.int x1191)] [.int c1193.1] (HX c1193.2 T) 0 0 _
    obtain ⟨rfl, rfl⟩ := ai_smP h
    exact ev_end rfl
  · refine ev_if_eq (t := 23) rfl rfl (fun c9 => absurd c9 hc) (fun _ => ?_)
    refine ev_go 3 (pc' := 17) (L' := [some (.ref 0), some (.int x1190), some (.int x1191)]) (st' := [.int 2, .int 0, .int x1191]) (h' := (HX c1192.2 T)) (cs' := 0) (sl' := 0) rfl ?_
    obtain ⟨c1194, hq, h⟩ := ai_bdE h
    refine ev_call (M' := mf_within) (L' := [some (.int x1191), some (.int 0), some (.int 2)]) (rest := []) (rv := some (.int c1194)) (h' := (HX c1192.2 T)) rfl (Ef_within x1191 0 2 _ hq (HX c1192.2 T)) ?_
    show ai_ev D1 mf_of 20 [some (.ref 0), some (.int x1190), some (.int x1191)] [.int c1194] (HX c1192.2 T) 0 0 _
    rcases ai_ifE h with ⟨hc, h⟩ | ⟨hc, h⟩
    · refine ev_if_ne (t := 30) rfl rfl (fun c9 => absurd hc c9) (fun _ => ?_)
      refine ev_go 2 (pc' := 26) (L' := [some (.ref 0), some (.int x1190), some (.int x1191)]) (st' := [.int (-2), .ref 0]) (h' := (HX c1192.2 T)) (cs' := 0) (sl' := 0) rfl ?_
      obtain ⟨c1224, hq, h⟩ := ai_bdE h
      refine ev_call (M' := mf_bad) (L' := [some (.ref 0), some (.int (-2))]) (rest := []) (rv := some (.int c1224.1)) (h' := (HX c1224.2 T)) rfl (Ef_bad_0 (-2) c1192.2 _ _ hq T) ?_
      show ai_ev D1 mf_of 29 [some (.ref 0), some (.int x1190), some (.int x1191)] [.int c1224.1] (HX c1224.2 T) 0 0 _
      obtain ⟨rfl, rfl⟩ := ai_smP h
      exact ev_end rfl
    · refine ev_if_ne (t := 30) rfl rfl (fun _ => ?_) (fun c9 => absurd c9 hc)
      refine ev_go 1 (pc' := 31) (L' := [some (.ref 0), some (.int x1190), some (.int x1191)]) (st' := [.int x1191]) (h' := (HX c1192.2 T)) (cs' := 0) (sl' := 0) rfl ?_
      rcases ai_ifE h with ⟨hc, h⟩ | ⟨hc, h⟩
      · refine ev_if_ne (t := 47) rfl rfl (fun c9 => absurd hc c9) (fun _ => ?_)
        refine ev_go 5 (pc' := 45) (L' := [some (.ref 0), some (.int x1190), some (.int x1191)]) (st' := [.int x1190, .ref 8]) (h' := (HX c1192.2 T)) (cs' := 0) (sl' := 0) rfl ?_
        obtain ⟨v1223, hq, h⟩ := ai_bdE h
        refine ev_iald rfl rfl hq ?_
        obtain ⟨rfl, rfl⟩ := ai_smP h
        exact ev_end rfl
      · refine ev_if_ne (t := 47) rfl rfl (fun _ => ?_) (fun c9 => absurd c9 hc)
        refine ev_go 2 (pc' := 49) (L' := [some (.ref 0), some (.int x1190), some (.int x1191)]) (st' := [.int x1190, .ref 0]) (h' := (HX c1192.2 T)) (cs' := 0) (sl' := 0) rfl ?_
        obtain ⟨c1222, hq, h⟩ := ai_bdE h
        refine ev_call (M' := mf_shapeNow) (L' := [some (.ref 0), some (.int x1190)]) (rest := []) (rv := none) (h' := (HX c1222 T)) rfl (Ef_shapeNow_0 x1190 c1192.2 _ hq T) ?_
        show ai_ev D1 mf_of 52 [some (.ref 0), some (.int x1190), some (.int x1191)] [] (HX c1222 T) 0 0 _
        refine ev_go 2 (pc' := 54) (L' := [some (.ref 0), some (.int x1190), some (.int x1191)]) (st' := [.int 1, .int x1191]) (h' := (HX c1222 T)) (cs' := 0) (sl' := 0) rfl ?_
        rcases ai_ifE h with ⟨hc, h⟩ | ⟨hc, h⟩
        · refine ev_ic_ne (t := 67) rfl rfl (fun c9 => absurd hc c9) (fun _ => ?_)
          refine ev_go 4 (pc' := 74) (L' := [some (.ref 0), some (.int x1190), some (.int x1191)]) (st' := [.int (a_fall_weighs c1222)]) (h' := (HX c1222 T)) (cs' := 0) (sl' := 0) rfl ?_
          obtain ⟨rfl, rfl⟩ := ai_smP h
          exact ev_end rfl
        · refine ev_ic_ne (t := 67) rfl rfl (fun _ => ?_) (fun c9 => absurd c9 hc)
          refine ev_go 3 (pc' := 74) (L' := [some (.ref 0), some (.int x1190), some (.int x1191)]) (st' := [.int (a_fall_room c1222)]) (h' := (HX c1222 T)) (cs' := 0) (sl' := 0) rfl ?_
          obtain ⟨rfl, rfl⟩ := ai_smP h
          exact ev_end rfl
set_option maxHeartbeats 40000000 in
set_option maxRecDepth 100000 in
theorem Esea_thickAt_1 (x1230 : Int32) (x1231 : Int32) (x1232 : Int32) (w : WX) (r : Int32) (w' : WX) (h : Fsea_thickAt_1 x1230 x1231 x1232 w = some (r, w')) (T : ai_H) : ai_ev D1 msea_thickAt 0 [some (.ref 1), some (.int x1230), some (.int x1231), some (.int x1232)] [] (HX w T) 0 0 (some (.int r), HX w' T) := by
  unfold Fsea_thickAt_1 at h
  refine ev_go 8 (pc' := 11) (L' := [some (.ref 1), some (.int x1230), some (.int x1231), some (.int x1232)]) (st' := [.int ((x1230 * 6) + x1231), .ref 5, .int 0]) (h' := (HX w T)) (cs' := 0) (sl' := 0) rfl ?_
  obtain ⟨v1233, hq, h⟩ := ai_bdE h
  refine ev_iald rfl rfl hq ?_
  refine ev_go 9 (pc' := 25) (L' := [some (.ref 1), some (.int x1230), some (.int x1231), some (.int x1232)]) (st' := [.int ((x1230 * 6) + (x1232 - x1232 / 6 * 6)), .ref 4, .int v1233, .int 0]) (h' := (HX w T)) (cs' := 0) (sl' := 0) rfl ?_
  obtain ⟨v1234, hq, h⟩ := ai_bdE h
  refine ev_iald rfl rfl hq ?_
  refine ev_go 2 (pc' := 30) (L' := [some (.ref 1), some (.int x1230), some (.int x1231), some (.int x1232)]) (st' := [.int (if 0 < (v1233 + v1234) then (v1233 + v1234) else 0)]) (h' := (HX w T)) (cs' := 0) (sl' := 0) rfl ?_
  obtain ⟨rfl, rfl⟩ := ai_smP h
  exact ev_end rfl
set_option maxHeartbeats 40000000 in
set_option maxRecDepth 100000 in
theorem Ef_deep_0 (x1225 : Int32) (x1226 : Int32) (w : WX) (r : Int32) (w' : WX) (h : Ff_deep_0 x1225 x1226 w = some (r, w')) (T : ai_H) : ai_ev D1 mf_deep 0 [some (.ref 0), some (.int x1225), some (.int x1226)] [] (HX w T) 0 0 (some (.int r), HX w' T) := by
  unfold Ff_deep_0 at h
  refine ev_go 1 (pc' := 1) (L' := [some (.ref 0), some (.int x1225), some (.int x1226)]) (st' := [.int x1225]) (h' := (HX w T)) (cs' := 0) (sl' := 0) rfl ?_
  obtain ⟨c1227, hq, h⟩ := ai_bdE h
  refine ev_call (M' := mf_isLayer) (L' := [some (.int x1225)]) (rest := []) (rv := some (.int c1227)) (h' := (HX w T)) rfl (Ef_isLayer x1225 _ hq (HX w T)) ?_
  show ai_ev D1 mf_deep 4 [some (.ref 0), some (.int x1225), some (.int x1226)] [.int c1227] (HX w T) 0 0 _
  rcases ai_ifE h with ⟨hc, h⟩ | ⟨hc, h⟩
  · refine ev_if_eq (t := 18) rfl rfl (fun _ => ?_) (fun c9 => absurd hc c9)
    refine ev_go 2 (pc' := 21) (L' := [some (.ref 0), some (.int x1225), some (.int x1226)]) (st' := [.int (-2), .ref 0]) (h' := (HX w T)) (cs' := 0) (sl' := 0) rfl ?_
    obtain ⟨c1228, hq, h⟩ := ai_bdE h
    refine ev_call (M' := mf_bad) (L' := [some (.ref 0), some (.int (-2))]) (rest := []) (rv := some (.int c1228.1)) (h' := (HX c1228.2 T)) rfl (Ef_bad_0 (-2) w _ _ hq T) ?_
    show ai_ev D1 mf_deep 24 [some (.ref 0), some (.int x1225), some (.int x1226)] [.int c1228.1] (HX c1228.2 T) 0 0 _
    obtain ⟨rfl, rfl⟩ := ai_smP h
    exact ev_end rfl
  · refine ev_if_eq (t := 18) rfl rfl (fun c9 => absurd c9 hc) (fun _ => ?_)
    refine ev_go 3 (pc' := 12) (L' := [some (.ref 0), some (.int x1225), some (.int x1226)]) (st' := [.int x1226, .ref 1]) (h' := (HX w T)) (cs' := 0) (sl' := 0) rfl ?_
    obtain ⟨c1229, hq, h⟩ := ai_bdE h
    refine ev_call (M' := msea_hasCell) (L' := [some (.ref 1), some (.int x1226)]) (rest := []) (rv := some (.int c1229.1)) (h' := (HX c1229.2 T)) rfl (Esea_hasCell_1 x1226 w _ _ hq T) ?_
    show ai_ev D1 mf_deep 15 [some (.ref 0), some (.int x1225), some (.int x1226)] [.int c1229.1] (HX c1229.2 T) 0 0 _
    rcases ai_ifE h with ⟨hc, h⟩ | ⟨hc, h⟩
    · refine ev_if_ne (t := 25) rfl rfl (fun c9 => absurd hc c9) (fun _ => ?_)
      refine ev_go 2 (pc' := 21) (L' := [some (.ref 0), some (.int x1225), some (.int x1226)]) (st' := [.int (-2), .ref 0]) (h' := (HX c1229.2 T)) (cs' := 0) (sl' := 0) rfl ?_
      obtain ⟨c1236, hq, h⟩ := ai_bdE h
      refine ev_call (M' := mf_bad) (L' := [some (.ref 0), some (.int (-2))]) (rest := []) (rv := some (.int c1236.1)) (h' := (HX c1236.2 T)) rfl (Ef_bad_0 (-2) c1229.2 _ _ hq T) ?_
      show ai_ev D1 mf_deep 24 [some (.ref 0), some (.int x1225), some (.int x1226)] [.int c1236.1] (HX c1236.2 T) 0 0 _
      obtain ⟨rfl, rfl⟩ := ai_smP h
      exact ev_end rfl
    · refine ev_if_ne (t := 25) rfl rfl (fun _ => ?_) (fun c9 => absurd c9 hc)
      refine ev_go 7 (pc' := 38) (L' := [some (.ref 0), some (.int x1225), some (.int x1226)]) (st' := [.int (a_s1_hour c1229.2), .int x1226, .int x1225, .ref 1]) (h' := (HX c1229.2 T)) (cs' := 0) (sl' := 0) rfl ?_
      obtain ⟨c1235, hq, h⟩ := ai_bdE h
      refine ev_call (M' := msea_thickAt) (L' := [some (.ref 1), some (.int x1225), some (.int x1226), some (.int (a_s1_hour c1229.2))]) (rest := []) (rv := some (.int c1235.1)) (h' := (HX c1235.2 T)) rfl (Esea_thickAt_1 x1225 x1226 (a_s1_hour c1229.2) c1229.2 _ _ hq T) ?_
      show ai_ev D1 mf_deep 41 [some (.ref 0), some (.int x1225), some (.int x1226)] [.int c1235.1] (HX c1235.2 T) 0 0 _
      obtain ⟨rfl, rfl⟩ := ai_smP h
      exact ev_end rfl
set_option maxHeartbeats 40000000 in
set_option maxRecDepth 100000 in
theorem EGarr_fill_82 : ∀ n : Nat, (∀ (y1253 : Int32) (y1254 : Int32) (y1255 : Int32) (w : WX) (w' : WX), Garr_fill_82 n 0 y1253 y1254 y1255 w = some w' → ∀ (T : ai_H), ai_ev D1 marr_fill 5 [some (.ref 82), some (.int y1253), some (.int y1254), some (.int y1255)] [] (HX w T) 0 0 (none, HX w' T)) := by
  intro n
  induction n with
  | zero =>
    exact (fun _ _ _ _ _ h => by cases h)
  | succ n ih0 =>
    intro y1253 y1254 y1255 w w' h T
    simp only [Garr_fill_82] at h
    refine ev_go 2 (pc' := 7) (L' := [some (.ref 82), some (.int y1253), some (.int y1254), some (.int y1255)]) (st' := [.int y1255, .int y1254]) (h' := (HX w T)) (cs' := 0) (sl' := 0) rfl ?_
    rcases ai_ifE h with ⟨hc, h⟩ | ⟨hc, h⟩
    · refine ev_ic_ge (t := 20) rfl rfl (fun _ => ?_) (fun c9 => absurd hc c9)
      obtain rfl := Option.some.inj h
      exact ev_end rfl
    · refine ev_ic_ge (t := 20) rfl rfl (fun c9 => absurd c9 hc) (fun _ => ?_)
      refine ev_go 3 (pc' := 13) (L' := [some (.ref 82), some (.int y1253), some (.int y1254), some (.int y1255)]) (st' := [.int y1253, .int y1254, .ref 82]) (h' := (HX w T)) (cs' := 0) (sl' := 0) rfl ?_
      obtain ⟨q1256, hq, h⟩ := ai_bdE h
      refine ev_iast rfl rfl hq ?_
      show ai_ev D1 marr_fill 14 [some (.ref 82), some (.int y1253), some (.int y1254), some (.int y1255)] [] (HX (u_fall_passedThick w q1256) T) 0 0 _
      refine ev_go 2 (pc' := 5) (L' := [some (.ref 82), some (.int y1253), some (.int (y1254 + 1)), some (.int y1255)]) (st' := []) (h' := (HX (u_fall_passedThick w q1256) T)) (cs' := 0) (sl' := 0) rfl ?_
      exact ih0 _ _ _ _ _ h T
set_option maxHeartbeats 40000000 in
set_option maxRecDepth 100000 in
theorem Earr_fill_82 (n : Nat) (x1252 : Int32) (w : WX) (w' : WX) (h : Farr_fill_82 n x1252 w = some w') (T : ai_H) : ai_ev D1 marr_fill 0 [some (.ref 82), some (.int x1252), none, none] [] (HX w T) 0 0 (none, HX w' T) := by
  unfold Farr_fill_82 at h
  have ih0 := EGarr_fill_82 n
  refine ev_go 5 (pc' := 5) (L' := [some (.ref 82), some (.int x1252), some (.int 0), some (.int (Int32.ofNat (List.length (a_fall_passedThick w))))]) (st' := []) (h' := (HX w T)) (cs' := 0) (sl' := 0) rfl ?_
  exact ih0 _ _ _ _ _ h T
set_option maxHeartbeats 40000000 in
set_option maxRecDepth 100000 in
theorem Efall_forget_81 (n : Nat) (w : WX) (w' : WX) (h : Ffall_forget_81 n w = some w') (T : ai_H) : ai_ev D1 mfall_forget 0 [some (.ref 81)] [] (HX w T) 0 0 (none, HX w' T) := by
  unfold Ffall_forget_81 at h
  refine ev_go 12 (pc' := 20) (L' := [some (.ref 81)]) (st' := [.int 0, .ref 82]) (h' := (HX (u_fall_stopper (u_fall_broken (u_fall_down w 0) 0) (-1)) T)) (cs' := 0) (sl' := 0) rfl ?_
  obtain ⟨c1257, hq, h⟩ := ai_bdE h
  refine ev_call (M' := marr_fill) (L' := [some (.ref 82), some (.int 0), none, none]) (rest := []) (rv := none) (h' := (HX c1257 T)) rfl (Earr_fill_82 n 0 (u_fall_stopper (u_fall_broken (u_fall_down w 0) 0) (-1)) _ hq T) ?_
  show ai_ev D1 mfall_forget 23 [some (.ref 81)] [] (HX c1257 T) 0 0 _
  obtain rfl := Option.some.inj h
  exact ev_end rfl
set_option maxHeartbeats 40000000 in
set_option maxRecDepth 100000 in
theorem Efall_getsThrough_81_1 (x1267 : Int32) (x1268 : Int32) (w : WX) (r : Int32) (w' : WX) (h : Ffall_getsThrough_81_1 x1267 x1268 w = some (r, w')) (T : ai_H) : ai_ev D1 mfall_getsThrough 0 [some (.ref 81), some (.ref 1), some (.int x1267), some (.int x1268)] [] (HX w T) 0 0 (some (.int r), HX w' T) := by
  unfold Ffall_getsThrough_81_1 at h
  refine ev_go 6 (pc' := 6) (L' := [some (.ref 81), some (.ref 1), some (.int x1267), some (.int x1268)]) (st' := [.int 1, .int ((x1268 >>> (x1267 &&& 31)) &&& 1)]) (h' := (HX w T)) (cs' := 0) (sl' := 0) rfl ?_
  rcases ai_ifE h with ⟨hc, h⟩ | ⟨hc, h⟩
  · refine ev_ic_ne (t := 11) rfl rfl (fun c9 => absurd hc c9) (fun _ => ?_)
    refine ev_go 1 (pc' := 10) (L' := [some (.ref 81), some (.ref 1), some (.int x1267), some (.int x1268)]) (st' := [.int 1]) (h' := (HX w T)) (cs' := 0) (sl' := 0) rfl ?_
    obtain ⟨rfl, rfl⟩ := ai_smP h
    exact ev_end rfl
  · refine ev_ic_ne (t := 11) rfl rfl (fun _ => ?_) (fun c9 => absurd c9 hc)
    refine ev_go 3 (pc' := 16) (L' := [some (.ref 81), some (.ref 1), some (.int x1267), some (.int x1268)]) (st' := [.int x1267, .ref 6]) (h' := (HX w T)) (cs' := 0) (sl' := 0) rfl ?_
    obtain ⟨v1269, hq, h⟩ := ai_bdE h
    refine ev_iald rfl rfl hq ?_
    refine ev_go 2 (pc' := 21) (L' := [some (.ref 81), some (.ref 1), some (.int x1267), some (.int x1268)]) (st' := [.int (a_fall_force w), .int v1269]) (h' := (HX w T)) (cs' := 0) (sl' := 0) rfl ?_
    rcases ai_ifE h with ⟨hc, h⟩ | ⟨hc, h⟩
    · refine ev_ic_lt (t := 26) rfl rfl (fun _ => ?_) (fun c9 => absurd hc c9)
      refine ev_go 9 (pc' := 39) (L' := [some (.ref 81), some (.ref 1), some (.int x1267), some (.int x1268)]) (st' := [.int 1]) (h' := (HX (u_fall_broken w ((a_fall_broken w) ||| (1 <<< (x1267 &&& 31)))) T)) (cs' := 0) (sl' := 0) rfl ?_
      obtain ⟨rfl, rfl⟩ := ai_smP h
      exact ev_end rfl
    · refine ev_ic_lt (t := 26) rfl rfl (fun c9 => absurd c9 hc) (fun _ => ?_)
      refine ev_go 1 (pc' := 25) (L' := [some (.ref 81), some (.ref 1), some (.int x1267), some (.int x1268)]) (st' := [.int 0]) (h' := (HX w T)) (cs' := 0) (sl' := 0) rfl ?_
      obtain ⟨rfl, rfl⟩ := ai_smP h
      exact ev_end rfl
set_option maxHeartbeats 40000000 in
set_option maxRecDepth 100000 in
theorem EGfall_letGo_81_1 : ∀ n : Nat, (∀ (y1259 : Int32) (y1260 : Int32) (y1261 : Int32) (y1262 : Int32) (y1263 : Int32) (w : WX) (w' : WX), Gfall_letGo_81_1 n 0 y1259 y1260 y1261 y1262 y1263 w = some w' → ∀ (T : ai_H) (o7 : Option Value), ai_ev D1 mfall_letGo 10 [some (.ref 81), some (.ref 1), some (.int y1259), some (.int y1260), some (.int y1261), some (.int y1262), some (.int y1263), o7] [] (HX w T) 0 0 (none, HX w' T)) := by
  intro n
  induction n with
  | zero =>
    exact (fun _ _ _ _ _ _ _ h => by cases h)
  | succ n ih0 =>
    intro y1259 y1260 y1261 y1262 y1263 w w' h T o7
    simp only [Gfall_letGo_81_1] at h
    refine ev_go 2 (pc' := 13) (L' := [some (.ref 81), some (.ref 1), some (.int y1259), some (.int y1260), some (.int y1261), some (.int y1262), some (.int y1263), o7]) (st' := [.int 4, .int y1263]) (h' := (HX w T)) (cs' := 0) (sl' := 0) rfl ?_
    rcases ai_ifE h with ⟨hc, h⟩ | ⟨hc, h⟩
    · refine ev_ic_ge (t := 125) rfl rfl (fun _ => ?_) (fun c9 => absurd hc c9)
      refine ev_go 3 (pc' := 130) (L' := [some (.ref 81), some (.ref 1), some (.int y1259), some (.int y1260), some (.int y1261), some (.int y1262), some (.int y1263), o7]) (st' := []) (h' := (HX (u_fall_layer w 4) T)) (cs' := 0) (sl' := 0) rfl ?_
      obtain rfl := Option.some.inj h
      exact ev_end rfl
    · refine ev_ic_ge (t := 125) rfl rfl (fun c9 => absurd c9 hc) (fun _ => ?_)
      refine ev_go 4 (pc' := 21) (L' := [some (.ref 81), some (.ref 1), some (.int y1259), some (.int y1260), some (.int y1261), some (.int y1262), some (.int y1263), o7]) (st' := [.int y1260, .int y1259, .int y1263, .ref 1]) (h' := (HX w T)) (cs' := 0) (sl' := 0) rfl ?_
      obtain ⟨c1264, hq, h⟩ := ai_bdE h
      refine ev_call (M' := msea_thickAt) (L' := [some (.ref 1), some (.int y1263), some (.int y1259), some (.int y1260)]) (rest := []) (rv := some (.int c1264.1)) (h' := (HX c1264.2 T)) rfl (Esea_thickAt_1 y1263 y1259 y1260 w _ _ hq T) ?_
      show ai_ev D1 mfall_letGo 24 [some (.ref 81), some (.ref 1), some (.int y1259), some (.int y1260), some (.int y1261), some (.int y1262), some (.int y1263), o7] [.int c1264.1] (HX c1264.2 T) 0 0 _
      refine ev_go 2 (pc' := 28) (L' := [some (.ref 81), some (.ref 1), some (.int y1259), some (.int y1260), some (.int y1261), some (.int y1262), some (.int y1263), some (.int c1264.1)]) (st' := [.int c1264.1]) (h' := (HX c1264.2 T)) (cs' := 0) (sl' := 0) rfl ?_
      rcases ai_ifE h with ⟨hc, h⟩ | ⟨hc, h⟩
      · refine ev_if_ne (t := 34) rfl rfl (fun c9 => absurd hc c9) (fun _ => ?_)
        refine ev_go 3 (pc' := 10) (L' := [some (.ref 81), some (.ref 1), some (.int y1259), some (.int y1260), some (.int y1261), some (.int y1262), some (.int (y1263 + 1)), some (.int c1264.1)]) (st' := []) (h' := (HX c1264.2 T)) (cs' := 0) (sl' := 0) rfl ?_
        exact ih0 _ _ _ _ _ _ _ h T _
      · refine ev_if_ne (t := 34) rfl rfl (fun _ => ?_) (fun c9 => absurd c9 hc)
        refine ev_go 2 (pc' := 37) (L' := [some (.ref 81), some (.ref 1), some (.int y1259), some (.int y1260), some (.int y1261), some (.int y1262), some (.int y1263), some (.int c1264.1)]) (st' := [.int (-1), .int y1262]) (h' := (HX c1264.2 T)) (cs' := 0) (sl' := 0) rfl ?_
        rcases ai_ifE h with ⟨hc, h⟩ | ⟨hc, h⟩
        · refine ev_ic_eq (t := 69) rfl rfl (fun _ => ?_) (fun c9 => absurd hc c9)
          refine ev_go 7 (pc' := 83) (L' := [some (.ref 81), some (.ref 1), some (.int y1259), some (.int y1260), some (.int y1261), some (.int y1262), some (.int y1263), some (.int c1264.1)]) (st' := [.int y1263, .ref 2, .int (a_fall_room c1264.2), .int (a_fall_weighs c1264.2)]) (h' := (HX c1264.2 T)) (cs' := 0) (sl' := 0) rfl ?_
          obtain ⟨v1265, hq, h⟩ := ai_bdE h
          refine ev_iald rfl rfl hq ?_
          refine ev_go 1 (pc' := 85) (L' := [some (.ref 81), some (.ref 1), some (.int y1259), some (.int y1260), some (.int y1261), some (.int y1262), some (.int y1263), some (.int c1264.1)]) (st' := [.int ((a_fall_room c1264.2) * v1265), .int (a_fall_weighs c1264.2)]) (h' := (HX c1264.2 T)) (cs' := 0) (sl' := 0) rfl ?_
          rcases ai_ifE h with ⟨hc, h⟩ | ⟨hc, h⟩
          · refine ev_ic_gt (t := 95) rfl rfl (fun _ => ?_) (fun c9 => absurd hc c9)
            refine ev_go 4 (pc' := 103) (L' := [some (.ref 81), some (.ref 1), some (.int y1259), some (.int y1260), some (.int y1261), some (.int y1262), some (.int y1263), some (.int c1264.1)]) (st' := [.int c1264.1, .int y1263, .ref 82]) (h' := (HX c1264.2 T)) (cs' := 0) (sl' := 0) rfl ?_
            obtain ⟨q1266, hq, h⟩ := ai_bdE h
            refine ev_iast rfl rfl hq ?_
            show ai_ev D1 mfall_letGo 104 [some (.ref 81), some (.ref 1), some (.int y1259), some (.int y1260), some (.int y1261), some (.int y1262), some (.int y1263), some (.int c1264.1)] [] (HX (u_fall_passedThick c1264.2 q1266) T) 0 0 _
            refine ev_go 10 (pc' := 10) (L' := [some (.ref 81), some (.ref 1), some (.int y1259), some (.int y1260), some (.int y1261), some (.int y1263), some (.int (y1263 + 1)), some (.int c1264.1)]) (st' := []) (h' := (HX (u_fall_down (u_fall_passedThick c1264.2 q1266) ((a_fall_down c1264.2) + c1264.1)) T)) (cs' := 0) (sl' := 0) rfl ?_
            exact ih0 _ _ _ _ _ _ _ h T _
          · refine ev_ic_gt (t := 95) rfl rfl (fun c9 => absurd c9 hc) (fun _ => ?_)
            refine ev_go 3 (pc' := 94) (L' := [some (.ref 81), some (.ref 1), some (.int y1259), some (.int y1260), some (.int y1261), some (.int y1262), some (.int y1263), some (.int c1264.1)]) (st' := []) (h' := (HX (u_fall_layer c1264.2 y1263) T)) (cs' := 0) (sl' := 0) rfl ?_
            obtain rfl := Option.some.inj h
            exact ev_end rfl
        · refine ev_ic_eq (t := 69) rfl rfl (fun c9 => absurd c9 hc) (fun _ => ?_)
          refine ev_go 6 (pc' := 48) (L' := [some (.ref 81), some (.ref 1), some (.int y1259), some (.int y1260), some (.int y1261), some (.int y1262), some (.int y1263), some (.int c1264.1)]) (st' := [.int y1261, .int (y1263 - 1), .ref 1, .ref 81]) (h' := (HX c1264.2 T)) (cs' := 0) (sl' := 0) rfl ?_
          obtain ⟨c1270, hq, h⟩ := ai_bdE h
          refine ev_call (M' := mfall_getsThrough) (L' := [some (.ref 81), some (.ref 1), some (.int (y1263 - 1)), some (.int y1261)]) (rest := []) (rv := some (.int c1270.1)) (h' := (HX c1270.2 T)) rfl (Efall_getsThrough_81_1 (y1263 - 1) y1261 c1264.2 _ _ hq T) ?_
          show ai_ev D1 mfall_letGo 51 [some (.ref 81), some (.ref 1), some (.int y1259), some (.int y1260), some (.int y1261), some (.int y1262), some (.int y1263), some (.int c1264.1)] [.int c1270.1] (HX c1270.2 T) 0 0 _
          rcases ai_ifE h with ⟨hc, h⟩ | ⟨hc, h⟩
          · refine ev_if_ne (t := 69) rfl rfl (fun c9 => absurd hc c9) (fun _ => ?_)
            refine ev_go 8 (pc' := 68) (L' := [some (.ref 81), some (.ref 1), some (.int y1259), some (.int y1260), some (.int y1261), some (.int y1262), some (.int y1263), some (.int c1264.1)]) (st' := []) (h' := (HX (u_fall_layer (u_fall_stopper c1270.2 (y1263 - 1)) y1262) T)) (cs' := 0) (sl' := 0) rfl ?_
            obtain rfl := Option.some.inj h
            exact ev_end rfl
          · refine ev_if_ne (t := 69) rfl rfl (fun _ => ?_) (fun c9 => absurd c9 hc)
            refine ev_go 7 (pc' := 83) (L' := [some (.ref 81), some (.ref 1), some (.int y1259), some (.int y1260), some (.int y1261), some (.int y1262), some (.int y1263), some (.int c1264.1)]) (st' := [.int y1263, .ref 2, .int (a_fall_room c1270.2), .int (a_fall_weighs c1270.2)]) (h' := (HX c1270.2 T)) (cs' := 0) (sl' := 0) rfl ?_
            obtain ⟨v1271, hq, h⟩ := ai_bdE h
            refine ev_iald rfl rfl hq ?_
            refine ev_go 1 (pc' := 85) (L' := [some (.ref 81), some (.ref 1), some (.int y1259), some (.int y1260), some (.int y1261), some (.int y1262), some (.int y1263), some (.int c1264.1)]) (st' := [.int ((a_fall_room c1270.2) * v1271), .int (a_fall_weighs c1270.2)]) (h' := (HX c1270.2 T)) (cs' := 0) (sl' := 0) rfl ?_
            rcases ai_ifE h with ⟨hc, h⟩ | ⟨hc, h⟩
            · refine ev_ic_gt (t := 95) rfl rfl (fun _ => ?_) (fun c9 => absurd hc c9)
              refine ev_go 4 (pc' := 103) (L' := [some (.ref 81), some (.ref 1), some (.int y1259), some (.int y1260), some (.int y1261), some (.int y1262), some (.int y1263), some (.int c1264.1)]) (st' := [.int c1264.1, .int y1263, .ref 82]) (h' := (HX c1270.2 T)) (cs' := 0) (sl' := 0) rfl ?_
              obtain ⟨q1272, hq, h⟩ := ai_bdE h
              refine ev_iast rfl rfl hq ?_
              show ai_ev D1 mfall_letGo 104 [some (.ref 81), some (.ref 1), some (.int y1259), some (.int y1260), some (.int y1261), some (.int y1262), some (.int y1263), some (.int c1264.1)] [] (HX (u_fall_passedThick c1270.2 q1272) T) 0 0 _
              refine ev_go 10 (pc' := 10) (L' := [some (.ref 81), some (.ref 1), some (.int y1259), some (.int y1260), some (.int y1261), some (.int y1263), some (.int (y1263 + 1)), some (.int c1264.1)]) (st' := []) (h' := (HX (u_fall_down (u_fall_passedThick c1270.2 q1272) ((a_fall_down c1270.2) + c1264.1)) T)) (cs' := 0) (sl' := 0) rfl ?_
              exact ih0 _ _ _ _ _ _ _ h T _
            · refine ev_ic_gt (t := 95) rfl rfl (fun c9 => absurd c9 hc) (fun _ => ?_)
              refine ev_go 3 (pc' := 94) (L' := [some (.ref 81), some (.ref 1), some (.int y1259), some (.int y1260), some (.int y1261), some (.int y1262), some (.int y1263), some (.int c1264.1)]) (st' := []) (h' := (HX (u_fall_layer c1270.2 y1263) T)) (cs' := 0) (sl' := 0) rfl ?_
              obtain rfl := Option.some.inj h
              exact ev_end rfl
set_option maxHeartbeats 40000000 in
set_option maxRecDepth 100000 in
theorem Efall_letGo_81_1 (n : Nat) (x1249 : Int32) (x1250 : Int32) (x1251 : Int32) (w : WX) (w' : WX) (h : Ffall_letGo_81_1 n x1249 x1250 x1251 w = some w') (T : ai_H) : ai_ev D1 mfall_letGo 0 [some (.ref 81), some (.ref 1), some (.int x1249), some (.int x1250), some (.int x1251), none, none, none] [] (HX w T) 0 0 (none, HX w' T) := by
  unfold Ffall_letGo_81_1 at h
  have ih0 := EGfall_letGo_81_1 n
  refine ev_go 1 (pc' := 1) (L' := [some (.ref 81), some (.ref 1), some (.int x1249), some (.int x1250), some (.int x1251), none, none, none]) (st' := [.ref 81]) (h' := (HX w T)) (cs' := 0) (sl' := 0) rfl ?_
  obtain ⟨c1258, hq, h⟩ := ai_bdE h
  refine ev_call (M' := mfall_forget) (L' := [some (.ref 81)]) (rest := []) (rv := none) (h' := (HX c1258 T)) rfl (Efall_forget_81 n w _ hq T) ?_
  show ai_ev D1 mfall_letGo 4 [some (.ref 81), some (.ref 1), some (.int x1249), some (.int x1250), some (.int x1251), none, none, none] [] (HX c1258 T) 0 0 _
  refine ev_go 4 (pc' := 10) (L' := [some (.ref 81), some (.ref 1), some (.int x1249), some (.int x1250), some (.int x1251), some (.int (-1)), some (.int 0), none]) (st' := []) (h' := (HX c1258 T)) (cs' := 0) (sl' := 0) rfl ?_
  exact ih0 _ _ _ _ _ _ _ h T _
set_option maxHeartbeats 40000000 in
set_option maxRecDepth 100000 in
theorem Ef_letGoNow_0 (n : Nat) (x1245 : Int32) (x1246 : Int32) (x1247 : Int32) (w : WX) (w' : WX) (h : Ff_letGoNow_0 n x1245 x1246 x1247 w = some w') (T : ai_H) : ai_ev D1 mf_letGoNow 0 [some (.ref 0), some (.int x1245), some (.int x1246), some (.int x1247)] [] (HX w T) 0 0 (none, HX w' T) := by
  unfold Ff_letGoNow_0 at h
  refine ev_go 2 (pc' := 2) (L' := [some (.ref 0), some (.int x1245), some (.int x1246), some (.int x1247)]) (st' := [.int x1245, .ref 0]) (h' := (HX w T)) (cs' := 0) (sl' := 0) rfl ?_
  obtain ⟨c1248, hq, h⟩ := ai_bdE h
  refine ev_call (M' := mf_shapeNow) (L' := [some (.ref 0), some (.int x1245)]) (rest := []) (rv := none) (h' := (HX c1248 T)) rfl (Ef_shapeNow_0 x1245 w _ hq T) ?_
  show ai_ev D1 mf_letGoNow 5 [some (.ref 0), some (.int x1245), some (.int x1246), some (.int x1247)] [] (HX c1248 T) 0 0 _
  refine ev_go 9 (pc' := 22) (L' := [some (.ref 0), some (.int x1245), some (.int x1246), some (.int x1247)]) (st' := [.int x1247, .int (a_s1_hour c1248), .int x1246, .ref 1, .ref 81]) (h' := (HX c1248 T)) (cs' := 0) (sl' := 0) rfl ?_
  obtain ⟨c1273, hq, h⟩ := ai_bdE h
  refine ev_call (M' := mfall_letGo) (L' := [some (.ref 81), some (.ref 1), some (.int x1246), some (.int (a_s1_hour c1248)), some (.int x1247), none, none, none]) (rest := []) (rv := none) (h' := (HX c1273 T)) rfl (Efall_letGo_81_1 n x1246 (a_s1_hour c1248) x1247 c1248 _ hq T) ?_
  show ai_ev D1 mf_letGoNow 25 [some (.ref 0), some (.int x1245), some (.int x1246), some (.int x1247)] [] (HX c1273 T) 0 0 _
  obtain rfl := Option.some.inj h
  exact ev_end rfl
set_option maxHeartbeats 40000000 in
set_option maxRecDepth 100000 in
theorem Ef_rests_0 (n : Nat) (x1237 : Int32) (x1238 : Int32) (x1239 : Int32) (w : WX) (r : Int32) (w' : WX) (h : Ff_rests_0 n x1237 x1238 x1239 w = some (r, w')) (T : ai_H) : ai_ev D1 mf_rests 0 [some (.ref 0), some (.int x1237), some (.int x1238), some (.int x1239)] [] (HX w T) 0 0 (some (.int r), HX w' T) := by
  unfold Ff_rests_0 at h
  refine ev_go 4 (pc' := 8) (L' := [some (.ref 0), some (.int x1237), some (.int x1238), some (.int x1239)]) (st' := [.int x1237, .ref 7]) (h' := (HX w T)) (cs' := 0) (sl' := 0) rfl ?_
  obtain ⟨c1240, hq, h⟩ := ai_bdE h
  refine ev_call (M' := mthg_has) (L' := [some (.ref 7), some (.int x1237)]) (rest := []) (rv := some (.int c1240.1)) (h' := (HX c1240.2 T)) rfl (Ethg_has_7 x1237 w _ _ hq T) ?_
  show ai_ev D1 mf_rests 11 [some (.ref 0), some (.int x1237), some (.int x1238), some (.int x1239)] [.int c1240.1] (HX c1240.2 T) 0 0 _
  rcases ai_ifE h with ⟨hc, h⟩ | ⟨hc, h⟩
  · refine ev_if_eq (t := 34) rfl rfl (fun _ => ?_) (fun c9 => absurd hc c9)
    refine ev_go 2 (pc' := 37) (L' := [some (.ref 0), some (.int x1237), some (.int x1238), some (.int x1239)]) (st' := [.int (-2), .ref 0]) (h' := (HX c1240.2 T)) (cs' := 0) (sl' := 0) rfl ?_
    obtain ⟨c1241, hq, h⟩ := ai_bdE h
    refine ev_call (M' := mf_bad) (L' := [some (.ref 0), some (.int (-2))]) (rest := []) (rv := some (.int c1241.1)) (h' := (HX c1241.2 T)) rfl (Ef_bad_0 (-2) c1240.2 _ _ hq T) ?_
    show ai_ev D1 mf_rests 40 [some (.ref 0), some (.int x1237), some (.int x1238), some (.int x1239)] [.int c1241.1] (HX c1241.2 T) 0 0 _
    obtain ⟨rfl, rfl⟩ := ai_smP h
    exact ev_end rfl
  · refine ev_if_eq (t := 34) rfl rfl (fun c9 => absurd c9 hc) (fun _ => ?_)
    refine ev_go 3 (pc' := 19) (L' := [some (.ref 0), some (.int x1237), some (.int x1238), some (.int x1239)]) (st' := [.int x1238, .ref 1]) (h' := (HX c1240.2 T)) (cs' := 0) (sl' := 0) rfl ?_
    obtain ⟨c1242, hq, h⟩ := ai_bdE h
    refine ev_call (M' := msea_hasCell) (L' := [some (.ref 1), some (.int x1238)]) (rest := []) (rv := some (.int c1242.1)) (h' := (HX c1242.2 T)) rfl (Esea_hasCell_1 x1238 c1240.2 _ _ hq T) ?_
    show ai_ev D1 mf_rests 22 [some (.ref 0), some (.int x1237), some (.int x1238), some (.int x1239)] [.int c1242.1] (HX c1242.2 T) 0 0 _
    rcases ai_ifE h with ⟨hc, h⟩ | ⟨hc, h⟩
    · refine ev_if_eq (t := 34) rfl rfl (fun _ => ?_) (fun c9 => absurd hc c9)
      refine ev_go 2 (pc' := 37) (L' := [some (.ref 0), some (.int x1237), some (.int x1238), some (.int x1239)]) (st' := [.int (-2), .ref 0]) (h' := (HX c1242.2 T)) (cs' := 0) (sl' := 0) rfl ?_
      obtain ⟨c1243, hq, h⟩ := ai_bdE h
      refine ev_call (M' := mf_bad) (L' := [some (.ref 0), some (.int (-2))]) (rest := []) (rv := some (.int c1243.1)) (h' := (HX c1243.2 T)) rfl (Ef_bad_0 (-2) c1242.2 _ _ hq T) ?_
      show ai_ev D1 mf_rests 40 [some (.ref 0), some (.int x1237), some (.int x1238), some (.int x1239)] [.int c1243.1] (HX c1243.2 T) 0 0 _
      obtain ⟨rfl, rfl⟩ := ai_smP h
      exact ev_end rfl
    · refine ev_if_eq (t := 34) rfl rfl (fun c9 => absurd c9 hc) (fun _ => ?_)
      refine ev_go 3 (pc' := 28) (L' := [some (.ref 0), some (.int x1237), some (.int x1238), some (.int x1239)]) (st' := [.int 2, .int 0, .int x1239]) (h' := (HX c1242.2 T)) (cs' := 0) (sl' := 0) rfl ?_
      obtain ⟨c1244, hq, h⟩ := ai_bdE h
      refine ev_call (M' := mf_within) (L' := [some (.int x1239), some (.int 0), some (.int 2)]) (rest := []) (rv := some (.int c1244)) (h' := (HX c1242.2 T)) rfl (Ef_within x1239 0 2 _ hq (HX c1242.2 T)) ?_
      show ai_ev D1 mf_rests 31 [some (.ref 0), some (.int x1237), some (.int x1238), some (.int x1239)] [.int c1244] (HX c1242.2 T) 0 0 _
      rcases ai_ifE h with ⟨hc, h⟩ | ⟨hc, h⟩
      · refine ev_if_ne (t := 41) rfl rfl (fun c9 => absurd hc c9) (fun _ => ?_)
        refine ev_go 2 (pc' := 37) (L' := [some (.ref 0), some (.int x1237), some (.int x1238), some (.int x1239)]) (st' := [.int (-2), .ref 0]) (h' := (HX c1242.2 T)) (cs' := 0) (sl' := 0) rfl ?_
        obtain ⟨c1275, hq, h⟩ := ai_bdE h
        refine ev_call (M' := mf_bad) (L' := [some (.ref 0), some (.int (-2))]) (rest := []) (rv := some (.int c1275.1)) (h' := (HX c1275.2 T)) rfl (Ef_bad_0 (-2) c1242.2 _ _ hq T) ?_
        show ai_ev D1 mf_rests 40 [some (.ref 0), some (.int x1237), some (.int x1238), some (.int x1239)] [.int c1275.1] (HX c1275.2 T) 0 0 _
        obtain ⟨rfl, rfl⟩ := ai_smP h
        exact ev_end rfl
      · refine ev_if_ne (t := 41) rfl rfl (fun _ => ?_) (fun c9 => absurd c9 hc)
        refine ev_go 4 (pc' := 45) (L' := [some (.ref 0), some (.int x1237), some (.int x1238), some (.int x1239)]) (st' := [.int 0, .int x1238, .int x1237, .ref 0]) (h' := (HX c1242.2 T)) (cs' := 0) (sl' := 0) rfl ?_
        obtain ⟨c1274, hq, h⟩ := ai_bdE h
        refine ev_call (M' := mf_letGoNow) (L' := [some (.ref 0), some (.int x1237), some (.int x1238), some (.int 0)]) (rest := []) (rv := none) (h' := (HX c1274 T)) rfl (Ef_letGoNow_0 n x1237 x1238 0 c1242.2 _ hq T) ?_
        show ai_ev D1 mf_rests 48 [some (.ref 0), some (.int x1237), some (.int x1238), some (.int x1239)] [] (HX c1274 T) 0 0 _
        refine ev_go 1 (pc' := 49) (L' := [some (.ref 0), some (.int x1237), some (.int x1238), some (.int x1239)]) (st' := [.int x1239]) (h' := (HX c1274 T)) (cs' := 0) (sl' := 0) rfl ?_
        rcases ai_ifE h with ⟨hc, h⟩ | ⟨hc, h⟩
        · refine ev_if_ne (t := 60) rfl rfl (fun c9 => absurd hc c9) (fun _ => ?_)
          refine ev_go 3 (pc' := 59) (L' := [some (.ref 0), some (.int x1237), some (.int x1238), some (.int x1239)]) (st' := [.int (a_fall_layer c1274)]) (h' := (HX c1274 T)) (cs' := 0) (sl' := 0) rfl ?_
          obtain ⟨rfl, rfl⟩ := ai_smP h
          exact ev_end rfl
        · refine ev_if_ne (t := 60) rfl rfl (fun _ => ?_) (fun c9 => absurd c9 hc)
          refine ev_go 2 (pc' := 62) (L' := [some (.ref 0), some (.int x1237), some (.int x1238), some (.int x1239)]) (st' := [.int 1, .int x1239]) (h' := (HX c1274 T)) (cs' := 0) (sl' := 0) rfl ?_
          rcases ai_ifE h with ⟨hc, h⟩ | ⟨hc, h⟩
          · refine ev_ic_ne (t := 75) rfl rfl (fun c9 => absurd hc c9) (fun _ => ?_)
            refine ev_go 4 (pc' := 82) (L' := [some (.ref 0), some (.int x1237), some (.int x1238), some (.int x1239)]) (st' := [.int (a_fall_down c1274)]) (h' := (HX c1274 T)) (cs' := 0) (sl' := 0) rfl ?_
            obtain ⟨rfl, rfl⟩ := ai_smP h
            exact ev_end rfl
          · refine ev_ic_ne (t := 75) rfl rfl (fun _ => ?_) (fun c9 => absurd c9 hc)
            refine ev_go 3 (pc' := 82) (L' := [some (.ref 0), some (.int x1237), some (.int x1238), some (.int x1239)]) (st' := [.int (a_fall_broken c1274)]) (h' := (HX c1274 T)) (cs' := 0) (sl' := 0) rfl ?_
            obtain ⟨rfl, rfl⟩ := ai_smP h
            exact ev_end rfl
