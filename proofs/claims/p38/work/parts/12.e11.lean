set_option maxHeartbeats 40000000 in
set_option maxRecDepth 100000 in
theorem EGsea_addTown_1 : ∀ n : Nat, (∀ (y1137 : Int32) (y1138 : Int32) (w : WX) (r : Int32) (w' : WX), Gsea_addTown_1 n 0 y1137 y1138 w = some (r, w') → ∀ (T : ai_H), ai_ev D1 msea_addTown 13 [some (.ref 1), some (.int y1137), some (.int y1138)] [] (HX w T) 0 0 (some (.int r), HX w' T)) := by
  intro n
  induction n with
  | zero =>
    exact (fun _ _ _ _ _ h => by cases h)
  | succ n ih0 =>
    intro y1137 y1138 w r w' h T
    simp only [Gsea_addTown_1] at h
    refine ev_go 3 (pc' := 18) (L' := [some (.ref 1), some (.int y1137), some (.int y1138)]) (st' := [.int (a_s1_towns w), .int y1138]) (h' := (HX w T)) (cs' := 0) (sl' := 0) rfl ?_
    rcases ai_ifE h with ⟨hc, h⟩ | ⟨hc, h⟩
    · refine ev_ic_ge (t := 40) rfl rfl (fun _ => ?_) (fun c9 => absurd hc c9)
      refine ev_go 3 (pc' := 46) (L' := [some (.ref 1), some (.int y1137), some (.int y1138)]) (st' := [.int 6, .int (a_s1_towns w)]) (h' := (HX w T)) (cs' := 0) (sl' := 0) rfl ?_
      rcases ai_ifE h with ⟨hc, h⟩ | ⟨hc, h⟩
      · refine ev_ic_lt (t := 52) rfl rfl (fun _ => ?_) (fun c9 => absurd hc c9)
        refine ev_go 5 (pc' := 61) (L' := [some (.ref 1), some (.int y1137), some (.int y1138)]) (st' := [.int y1137, .int (a_s1_towns w), .ref 16]) (h' := (HX w T)) (cs' := 0) (sl' := 0) rfl ?_
        obtain ⟨q1139, hq, h⟩ := ai_bdE h
        refine ev_iast rfl rfl hq ?_
        rw [HXs_16]
        refine ev_go 6 (pc' := 70) (L' := [some (.ref 1), some (.int y1137), some (.int y1138)]) (st' := [.int ((a_s1_towns w) + 1), .ref 1, .int (a_s1_towns w)]) (h' := (HX (u_s1_townPlaces w q1139) T)) (cs' := 0) (sl' := 0) rfl ?_
        refine ev_step rfl rfl rfl (PFX_2_51_1 rfl) ?_
        obtain ⟨rfl, rfl⟩ := ai_smP h
        exact ev_end rfl
      · refine ev_ic_lt (t := 52) rfl rfl (fun c9 => absurd c9 hc) (fun _ => ?_)
        refine ev_go 1 (pc' := 51) (L' := [some (.ref 1), some (.int y1137), some (.int y1138)]) (st' := [.int (-4)]) (h' := (HX w T)) (cs' := 0) (sl' := 0) rfl ?_
        obtain ⟨rfl, rfl⟩ := ai_smP h
        exact ev_end rfl
    · refine ev_ic_ge (t := 40) rfl rfl (fun c9 => absurd c9 hc) (fun _ => ?_)
      refine ev_go 3 (pc' := 26) (L' := [some (.ref 1), some (.int y1137), some (.int y1138)]) (st' := [.int y1138, .ref 16]) (h' := (HX w T)) (cs' := 0) (sl' := 0) rfl ?_
      obtain ⟨v1140, hq, h⟩ := ai_bdE h
      refine ev_iald rfl rfl hq ?_
      refine ev_go 1 (pc' := 28) (L' := [some (.ref 1), some (.int y1137), some (.int y1138)]) (st' := [.int y1137, .int v1140]) (h' := (HX w T)) (cs' := 0) (sl' := 0) rfl ?_
      rcases ai_ifE h with ⟨hc, h⟩ | ⟨hc, h⟩
      · refine ev_ic_ne (t := 34) rfl rfl (fun c9 => absurd hc c9) (fun _ => ?_)
        refine ev_go 1 (pc' := 33) (L' := [some (.ref 1), some (.int y1137), some (.int y1138)]) (st' := [.int (-3)]) (h' := (HX w T)) (cs' := 0) (sl' := 0) rfl ?_
        obtain ⟨rfl, rfl⟩ := ai_smP h
        exact ev_end rfl
      · refine ev_ic_ne (t := 34) rfl rfl (fun _ => ?_) (fun c9 => absurd c9 hc)
        refine ev_go 2 (pc' := 13) (L' := [some (.ref 1), some (.int y1137), some (.int (y1138 + 1))]) (st' := []) (h' := (HX w T)) (cs' := 0) (sl' := 0) rfl ?_
        exact ih0 _ _ _ _ _ h T
set_option maxHeartbeats 40000000 in
set_option maxRecDepth 100000 in
theorem Esea_addTown_1 (n : Nat) (x1135 : Int32) (w : WX) (r : Int32) (w' : WX) (h : Fsea_addTown_1 n x1135 w = some (r, w')) (T : ai_H) : ai_ev D1 msea_addTown 0 [some (.ref 1), some (.int x1135), none] [] (HX w T) 0 0 (some (.int r), HX w' T) := by
  unfold Fsea_addTown_1 at h
  have ih0 := EGsea_addTown_1 n
  refine ev_go 2 (pc' := 2) (L' := [some (.ref 1), some (.int x1135), none]) (st' := [.int x1135, .ref 1]) (h' := (HX w T)) (cs' := 0) (sl' := 0) rfl ?_
  obtain ⟨c1136, hq, h⟩ := ai_bdE h
  refine ev_call (M' := msea_hasPlace) (L' := [some (.ref 1), some (.int x1135)]) (rest := []) (rv := some (.int c1136.1)) (h' := (HX c1136.2 T)) rfl (Esea_hasPlace_1 x1135 w _ _ hq T) ?_
  show ai_ev D1 msea_addTown 5 [some (.ref 1), some (.int x1135), none] [.int c1136.1] (HX c1136.2 T) 0 0 _
  rcases ai_ifE h with ⟨hc, h⟩ | ⟨hc, h⟩
  · refine ev_if_ne (t := 11) rfl rfl (fun c9 => absurd hc c9) (fun _ => ?_)
    refine ev_go 1 (pc' := 10) (L' := [some (.ref 1), some (.int x1135), none]) (st' := [.int (-2)]) (h' := (HX c1136.2 T)) (cs' := 0) (sl' := 0) rfl ?_
    obtain ⟨rfl, rfl⟩ := ai_smP h
    exact ev_end rfl
  · refine ev_if_ne (t := 11) rfl rfl (fun _ => ?_) (fun c9 => absurd c9 hc)
    refine ev_go 2 (pc' := 13) (L' := [some (.ref 1), some (.int x1135), some (.int 0)]) (st' := []) (h' := (HX c1136.2 T)) (cs' := 0) (sl' := 0) rfl ?_
    exact ih0 _ _ _ _ _ h T
set_option maxHeartbeats 40000000 in
set_option maxRecDepth 100000 in
theorem Ef_town_0 (n : Nat) (x1134 : Int32) (w : WX) (r : Int32) (w' : WX) (h : Ff_town_0 n x1134 w = some (r, w')) (T : ai_H) : ai_ev D1 mf_town 0 [some (.ref 0), some (.int x1134)] [] (HX w T) 0 0 (some (.int r), HX w' T) := by
  unfold Ff_town_0 at h
  refine ev_go 4 (pc' := 6) (L' := [some (.ref 0), some (.int x1134)]) (st' := [.int x1134, .ref 1, .ref 0]) (h' := (HX w T)) (cs' := 0) (sl' := 0) rfl ?_
  obtain ⟨c1141, hq, h⟩ := ai_bdE h
  refine ev_call (M' := msea_addTown) (L' := [some (.ref 1), some (.int x1134), none]) (rest := [.ref 0]) (rv := some (.int c1141.1)) (h' := (HX c1141.2 T)) rfl (Esea_addTown_1 n x1134 w _ _ hq T) ?_
  show ai_ev D1 mf_town 9 [some (.ref 0), some (.int x1134)] [.int c1141.1, .ref 0] (HX c1141.2 T) 0 0 _
  obtain ⟨c1142, hq, h⟩ := ai_bdE h
  refine ev_call (M' := mf_counted) (L' := [some (.ref 0), some (.int c1141.1)]) (rest := []) (rv := some (.int c1142.1)) (h' := (HX c1142.2 T)) rfl (Ef_counted_0 c1141.1 c1141.2 _ _ hq T) ?_
  show ai_ev D1 mf_town 12 [some (.ref 0), some (.int x1134)] [.int c1142.1] (HX c1142.2 T) 0 0 _
  obtain ⟨rfl, rfl⟩ := ai_smP h
  exact ev_end rfl
set_option maxHeartbeats 40000000 in
set_option maxRecDepth 100000 in
theorem Esea_putDam_1 (x1145 : Int32) (x1146 : Int32) (w : WX) (r : Int32) (w' : WX) (h : Fsea_putDam_1 x1145 x1146 w = some (r, w')) (T : ai_H) : ai_ev D1 msea_putDam 0 [some (.ref 1), some (.int x1145), some (.int x1146)] [] (HX w T) 0 0 (some (.int r), HX w' T) := by
  unfold Fsea_putDam_1 at h
  refine ev_go 6 (pc' := 8) (L' := [some (.ref 1), some (.int x1145), some (.int x1146)]) (st' := [.int ((a_s1_cells w) - 2), .int 0, .int x1145]) (h' := (HX w T)) (cs' := 0) (sl' := 0) rfl ?_
  obtain ⟨c1147, hq, h⟩ := ai_bdE h
  refine ev_call (M' := mf_within) (L' := [some (.int x1145), some (.int 0), some (.int ((a_s1_cells w) - 2))]) (rest := []) (rv := some (.int c1147)) (h' := (HX w T)) rfl (Ef_within x1145 0 ((a_s1_cells w) - 2) _ hq (HX w T)) ?_
  show ai_ev D1 msea_putDam 11 [some (.ref 1), some (.int x1145), some (.int x1146)] [.int c1147] (HX w T) 0 0 _
  rcases ai_ifE h with ⟨hc, h⟩ | ⟨hc, h⟩
  · refine ev_if_ne (t := 17) rfl rfl (fun c9 => absurd hc c9) (fun _ => ?_)
    refine ev_go 1 (pc' := 16) (L' := [some (.ref 1), some (.int x1145), some (.int x1146)]) (st' := [.int (-2)]) (h' := (HX w T)) (cs' := 0) (sl' := 0) rfl ?_
    obtain ⟨rfl, rfl⟩ := ai_smP h
    exact ev_end rfl
  · refine ev_if_ne (t := 17) rfl rfl (fun _ => ?_) (fun c9 => absurd c9 hc)
    refine ev_go 7 (pc' := 26) (L' := [some (.ref 1), some (.int x1145), some (.int x1146)]) (st' := [.int x1146, .int (((a_s1_dams w) >>> (x1145 &&& 31)) &&& 1)]) (h' := (HX w T)) (cs' := 0) (sl' := 0) rfl ?_
    rcases ai_ifE h with ⟨hc, h⟩ | ⟨hc, h⟩
    · refine ev_if_eq (t := 33) rfl rfl (fun _ => ?_) (fun c9 => absurd hc c9)
      refine ev_go 1 (pc' := 34) (L' := [some (.ref 1), some (.int x1145), some (.int x1146)]) (st' := [.int 0, .int (((a_s1_dams w) >>> (x1145 &&& 31)) &&& 1)]) (h' := (HX w T)) (cs' := 0) (sl' := 0) rfl ?_
      rcases ai_ifE h with ⟨hc, h⟩ | ⟨hc, h⟩
      · refine ev_ic_ne (t := 40) rfl rfl (fun c9 => absurd hc c9) (fun _ => ?_)
        refine ev_go 1 (pc' := 39) (L' := [some (.ref 1), some (.int x1145), some (.int x1146)]) (st' := [.int (-3)]) (h' := (HX w T)) (cs' := 0) (sl' := 0) rfl ?_
        obtain ⟨rfl, rfl⟩ := ai_smP h
        exact ev_end rfl
      · refine ev_ic_ne (t := 40) rfl rfl (fun _ => ?_) (fun c9 => absurd c9 hc)
        refine ev_go 7 (pc' := 49) (L' := [some (.ref 1), some (.int x1145), some (.int x1146)]) (st' := [.int ((a_s1_dams w) ^^^ (1 <<< (x1145 &&& 31))), .ref 1]) (h' := (HX w T)) (cs' := 0) (sl' := 0) rfl ?_
        refine ev_step rfl rfl rfl (PFX_2_18_1 rfl) ?_
        refine ev_go 1 (pc' := 53) (L' := [some (.ref 1), some (.int x1145), some (.int x1146)]) (st' := [.int 1]) (h' := (HX (u_s1_dams w ((a_s1_dams w) ^^^ (1 <<< (x1145 &&& 31)))) T)) (cs' := 0) (sl' := 0) rfl ?_
        obtain ⟨rfl, rfl⟩ := ai_smP h
        exact ev_end rfl
    · refine ev_if_eq (t := 33) rfl rfl (fun c9 => absurd c9 hc) (fun _ => ?_)
      refine ev_go 2 (pc' := 34) (L' := [some (.ref 1), some (.int x1145), some (.int x1146)]) (st' := [.int 1, .int (((a_s1_dams w) >>> (x1145 &&& 31)) &&& 1)]) (h' := (HX w T)) (cs' := 0) (sl' := 0) rfl ?_
      rcases ai_ifE h with ⟨hc, h⟩ | ⟨hc, h⟩
      · refine ev_ic_ne (t := 40) rfl rfl (fun c9 => absurd hc c9) (fun _ => ?_)
        refine ev_go 1 (pc' := 39) (L' := [some (.ref 1), some (.int x1145), some (.int x1146)]) (st' := [.int (-3)]) (h' := (HX w T)) (cs' := 0) (sl' := 0) rfl ?_
        obtain ⟨rfl, rfl⟩ := ai_smP h
        exact ev_end rfl
      · refine ev_ic_ne (t := 40) rfl rfl (fun _ => ?_) (fun c9 => absurd c9 hc)
        refine ev_go 7 (pc' := 49) (L' := [some (.ref 1), some (.int x1145), some (.int x1146)]) (st' := [.int ((a_s1_dams w) ^^^ (1 <<< (x1145 &&& 31))), .ref 1]) (h' := (HX w T)) (cs' := 0) (sl' := 0) rfl ?_
        refine ev_step rfl rfl rfl (PFX_2_18_1 rfl) ?_
        refine ev_go 1 (pc' := 53) (L' := [some (.ref 1), some (.int x1145), some (.int x1146)]) (st' := [.int 1]) (h' := (HX (u_s1_dams w ((a_s1_dams w) ^^^ (1 <<< (x1145 &&& 31)))) T)) (cs' := 0) (sl' := 0) rfl ?_
        obtain ⟨rfl, rfl⟩ := ai_smP h
        exact ev_end rfl
set_option maxHeartbeats 40000000 in
set_option maxRecDepth 100000 in
theorem Ef_dam_0 (x1143 : Int32) (x1144 : Int32) (w : WX) (r : Int32) (w' : WX) (h : Ff_dam_0 x1143 x1144 w = some (r, w')) (T : ai_H) : ai_ev D1 mf_dam 0 [some (.ref 0), some (.int x1143), some (.int x1144)] [] (HX w T) 0 0 (some (.int r), HX w' T) := by
  unfold Ff_dam_0 at h
  refine ev_go 5 (pc' := 7) (L' := [some (.ref 0), some (.int x1143), some (.int x1144)]) (st' := [.int x1144, .int x1143, .ref 1, .ref 0]) (h' := (HX w T)) (cs' := 0) (sl' := 0) rfl ?_
  obtain ⟨c1148, hq, h⟩ := ai_bdE h
  refine ev_call (M' := msea_putDam) (L' := [some (.ref 1), some (.int x1143), some (.int x1144)]) (rest := [.ref 0]) (rv := some (.int c1148.1)) (h' := (HX c1148.2 T)) rfl (Esea_putDam_1 x1143 x1144 w _ _ hq T) ?_
  show ai_ev D1 mf_dam 10 [some (.ref 0), some (.int x1143), some (.int x1144)] [.int c1148.1, .ref 0] (HX c1148.2 T) 0 0 _
  obtain ⟨c1149, hq, h⟩ := ai_bdE h
  refine ev_call (M' := mf_counted) (L' := [some (.ref 0), some (.int c1148.1)]) (rest := []) (rv := some (.int c1149.1)) (h' := (HX c1149.2 T)) rfl (Ef_counted_0 c1148.1 c1148.2 _ _ hq T) ?_
  show ai_ev D1 mf_dam 13 [some (.ref 0), some (.int x1143), some (.int x1144)] [.int c1149.1] (HX c1149.2 T) 0 0 _
  obtain ⟨rfl, rfl⟩ := ai_smP h
  exact ev_end rfl
set_option maxHeartbeats 40000000 in
set_option maxRecDepth 100000 in
theorem Esea_addDrop_1 (x1152 : Int32) (x1153 : Int32) (w : WX) (r : Int32) (w' : WX) (h : Fsea_addDrop_1 x1152 x1153 w = some (r, w')) (T : ai_H) : ai_ev D1 msea_addDrop 0 [some (.ref 1), some (.int x1152), some (.int x1153)] [] (HX w T) 0 0 (some (.int r), HX w' T) := by
  unfold Fsea_addDrop_1 at h
  refine ev_go 1 (pc' := 1) (L' := [some (.ref 1), some (.int x1152), some (.int x1153)]) (st' := [.int x1152]) (h' := (HX w T)) (cs' := 0) (sl' := 0) rfl ?_
  obtain ⟨c1154, hq, h⟩ := ai_bdE h
  refine ev_call (M' := mf_isLayer) (L' := [some (.int x1152)]) (rest := []) (rv := some (.int c1154)) (h' := (HX w T)) rfl (Ef_isLayer x1152 _ hq (HX w T)) ?_
  show ai_ev D1 msea_addDrop 4 [some (.ref 1), some (.int x1152), some (.int x1153)] [.int c1154] (HX w T) 0 0 _
  rcases ai_ifE h with ⟨hc, h⟩ | ⟨hc, h⟩
  · refine ev_if_ne (t := 10) rfl rfl (fun c9 => absurd hc c9) (fun _ => ?_)
    refine ev_go 1 (pc' := 9) (L' := [some (.ref 1), some (.int x1152), some (.int x1153)]) (st' := [.int (-2)]) (h' := (HX w T)) (cs' := 0) (sl' := 0) rfl ?_
    obtain ⟨rfl, rfl⟩ := ai_smP h
    exact ev_end rfl
  · refine ev_if_ne (t := 10) rfl rfl (fun _ => ?_) (fun c9 => absurd c9 hc)
    refine ev_go 3 (pc' := 16) (L' := [some (.ref 1), some (.int x1152), some (.int x1153)]) (st' := [.int 6, .int (a_s1_drops w)]) (h' := (HX w T)) (cs' := 0) (sl' := 0) rfl ?_
    rcases ai_ifE h with ⟨hc, h⟩ | ⟨hc, h⟩
    · refine ev_ic_lt (t := 22) rfl rfl (fun _ => ?_) (fun c9 => absurd hc c9)
      refine ev_go 5 (pc' := 31) (L' := [some (.ref 1), some (.int x1152), some (.int x1153)]) (st' := [.int x1152, .int (a_s1_drops w), .ref 17]) (h' := (HX w T)) (cs' := 0) (sl' := 0) rfl ?_
      obtain ⟨q1155, hq, h⟩ := ai_bdE h
      refine ev_iast rfl rfl hq ?_
      rw [HXs_17]
      refine ev_go 5 (pc' := 41) (L' := [some (.ref 1), some (.int x1152), some (.int x1153)]) (st' := [.int x1153, .int (a_s1_drops w), .ref 18]) (h' := (HX (u_s1_dropLayers w q1155) T)) (cs' := 0) (sl' := 0) rfl ?_
      rcases ai_ifE h with ⟨hc, h⟩ | ⟨hc, h⟩
      · refine ev_if_eq (t := 48) rfl rfl (fun _ => ?_) (fun c9 => absurd hc c9)
        refine ev_go 1 (pc' := 49) (L' := [some (.ref 1), some (.int x1152), some (.int x1153)]) (st' := [.int 0, .int (a_s1_drops w), .ref 18]) (h' := (HX (u_s1_dropLayers w q1155) T)) (cs' := 0) (sl' := 0) rfl ?_
        obtain ⟨q1156, hq, h⟩ := ai_bdE h
        refine ev_iast rfl rfl hq ?_
        rw [HXs_18]
        refine ev_go 5 (pc' := 57) (L' := [some (.ref 1), some (.int x1152), some (.int x1153)]) (st' := [.int ((a_s1_drops w) + 1), .ref 1]) (h' := (HX (u_s1_dropFloats (u_s1_dropLayers w q1155) q1156) T)) (cs' := 0) (sl' := 0) rfl ?_
        refine ev_step rfl rfl rfl (PFX_2_57_1 rfl) ?_
        refine ev_go 2 (pc' := 64) (L' := [some (.ref 1), some (.int x1152), some (.int x1153)]) (st' := [.int ((a_s1_drops w) + 1)]) (h' := (HX (u_s1_drops (u_s1_dropFloats (u_s1_dropLayers w q1155) q1156) ((a_s1_drops w) + 1)) T)) (cs' := 0) (sl' := 0) rfl ?_
        obtain ⟨rfl, rfl⟩ := ai_smP h
        exact ev_end rfl
      · refine ev_if_eq (t := 48) rfl rfl (fun c9 => absurd c9 hc) (fun _ => ?_)
        refine ev_go 2 (pc' := 49) (L' := [some (.ref 1), some (.int x1152), some (.int x1153)]) (st' := [.int 1, .int (a_s1_drops w), .ref 18]) (h' := (HX (u_s1_dropLayers w q1155) T)) (cs' := 0) (sl' := 0) rfl ?_
        obtain ⟨q1157, hq, h⟩ := ai_bdE h
        refine ev_iast rfl rfl hq ?_
        rw [HXs_18]
        refine ev_go 5 (pc' := 57) (L' := [some (.ref 1), some (.int x1152), some (.int x1153)]) (st' := [.int ((a_s1_drops w) + 1), .ref 1]) (h' := (HX (u_s1_dropFloats (u_s1_dropLayers w q1155) q1157) T)) (cs' := 0) (sl' := 0) rfl ?_
        refine ev_step rfl rfl rfl (PFX_2_57_1 rfl) ?_
        refine ev_go 2 (pc' := 64) (L' := [some (.ref 1), some (.int x1152), some (.int x1153)]) (st' := [.int ((a_s1_drops w) + 1)]) (h' := (HX (u_s1_drops (u_s1_dropFloats (u_s1_dropLayers w q1155) q1157) ((a_s1_drops w) + 1)) T)) (cs' := 0) (sl' := 0) rfl ?_
        obtain ⟨rfl, rfl⟩ := ai_smP h
        exact ev_end rfl
    · refine ev_ic_lt (t := 22) rfl rfl (fun c9 => absurd c9 hc) (fun _ => ?_)
      refine ev_go 1 (pc' := 21) (L' := [some (.ref 1), some (.int x1152), some (.int x1153)]) (st' := [.int (-4)]) (h' := (HX w T)) (cs' := 0) (sl' := 0) rfl ?_
      obtain ⟨rfl, rfl⟩ := ai_smP h
      exact ev_end rfl
set_option maxHeartbeats 40000000 in
set_option maxRecDepth 100000 in
theorem Ef_drop_0 (x1150 : Int32) (x1151 : Int32) (w : WX) (r : Int32) (w' : WX) (h : Ff_drop_0 x1150 x1151 w = some (r, w')) (T : ai_H) : ai_ev D1 mf_drop 0 [some (.ref 0), some (.int x1150), some (.int x1151)] [] (HX w T) 0 0 (some (.int r), HX w' T) := by
  unfold Ff_drop_0 at h
  refine ev_go 5 (pc' := 7) (L' := [some (.ref 0), some (.int x1150), some (.int x1151)]) (st' := [.int x1151, .int x1150, .ref 1, .ref 0]) (h' := (HX w T)) (cs' := 0) (sl' := 0) rfl ?_
  obtain ⟨c1158, hq, h⟩ := ai_bdE h
  refine ev_call (M' := msea_addDrop) (L' := [some (.ref 1), some (.int x1150), some (.int x1151)]) (rest := [.ref 0]) (rv := some (.int c1158.1)) (h' := (HX c1158.2 T)) rfl (Esea_addDrop_1 x1150 x1151 w _ _ hq T) ?_
  show ai_ev D1 mf_drop 10 [some (.ref 0), some (.int x1150), some (.int x1151)] [.int c1158.1, .ref 0] (HX c1158.2 T) 0 0 _
  obtain ⟨c1159, hq, h⟩ := ai_bdE h
  refine ev_call (M' := mf_counted) (L' := [some (.ref 0), some (.int c1158.1)]) (rest := []) (rv := some (.int c1159.1)) (h' := (HX c1159.2 T)) rfl (Ef_counted_0 c1158.1 c1158.2 _ _ hq T) ?_
  show ai_ev D1 mf_drop 13 [some (.ref 0), some (.int x1150), some (.int x1151)] [.int c1159.1] (HX c1159.2 T) 0 0 _
  obtain ⟨rfl, rfl⟩ := ai_smP h
  exact ev_end rfl
set_option maxHeartbeats 40000000 in
set_option maxRecDepth 100000 in
theorem Esea_empty_1 (x1161 : Int32) (w : WX) (r : Int32) (w' : WX) (h : Fsea_empty_1 x1161 w = some (r, w')) (T : ai_H) : ai_ev D1 msea_empty 0 [some (.ref 1), some (.int x1161), none] [] (HX w T) 0 0 (some (.int r), HX w' T) := by
  unfold Fsea_empty_1 at h
  refine ev_go 3 (pc' := 3) (L' := [some (.ref 1), some (.int x1161), none]) (st' := [.int 3, .int 0, .int x1161]) (h' := (HX w T)) (cs' := 0) (sl' := 0) rfl ?_
  obtain ⟨c1162, hq, h⟩ := ai_bdE h
  refine ev_call (M' := mf_within) (L' := [some (.int x1161), some (.int 0), some (.int 3)]) (rest := []) (rv := some (.int c1162)) (h' := (HX w T)) rfl (Ef_within x1161 0 3 _ hq (HX w T)) ?_
  show ai_ev D1 msea_empty 6 [some (.ref 1), some (.int x1161), none] [.int c1162] (HX w T) 0 0 _
  rcases ai_ifE h with ⟨hc, h⟩ | ⟨hc, h⟩
  · refine ev_if_ne (t := 12) rfl rfl (fun c9 => absurd hc c9) (fun _ => ?_)
    refine ev_go 1 (pc' := 11) (L' := [some (.ref 1), some (.int x1161), none]) (st' := [.int (-2)]) (h' := (HX w T)) (cs' := 0) (sl' := 0) rfl ?_
    obtain ⟨rfl, rfl⟩ := ai_smP h
    exact ev_end rfl
  · refine ev_if_ne (t := 12) rfl rfl (fun _ => ?_) (fun c9 => absurd c9 hc)
    refine ev_go 1 (pc' := 13) (L' := [some (.ref 1), some (.int x1161), none]) (st' := [.int x1161]) (h' := (HX w T)) (cs' := 0) (sl' := 0) rfl ?_
    rcases ai_ifE h with ⟨hc, h⟩ | ⟨hc, h⟩
    · refine ev_if_ne (t := 35) rfl rfl (fun c9 => absurd hc c9) (fun _ => ?_)
      refine ev_go 7 (pc' := 29) (L' := [some (.ref 1), some (.int x1161), some (.int (a_s1things_count w))]) (st' := [.int 0, .ref 7]) (h' := (HX w T)) (cs' := 0) (sl' := 0) rfl ?_
      refine ev_step rfl rfl rfl (PFX_2_95_7 rfl) ?_
      refine ev_go 2 (pc' := 88) (L' := [some (.ref 1), some (.int x1161), some (.int (a_s1things_count w))]) (st' := [.int (a_s1things_count w)]) (h' := (HX (u_s1things_count w 0) T)) (cs' := 0) (sl' := 0) rfl ?_
      obtain ⟨rfl, rfl⟩ := ai_smP h
      exact ev_end rfl
    · refine ev_if_ne (t := 35) rfl rfl (fun _ => ?_) (fun c9 => absurd c9 hc)
      refine ev_go 2 (pc' := 37) (L' := [some (.ref 1), some (.int x1161), none]) (st' := [.int 1, .int x1161]) (h' := (HX w T)) (cs' := 0) (sl' := 0) rfl ?_
      rcases ai_ifE h with ⟨hc, h⟩ | ⟨hc, h⟩
      · refine ev_ic_ne (t := 59) rfl rfl (fun c9 => absurd hc c9) (fun _ => ?_)
        refine ev_go 7 (pc' := 53) (L' := [some (.ref 1), some (.int x1161), some (.int (a_s1lifts_count w))]) (st' := [.int 0, .ref 12]) (h' := (HX w T)) (cs' := 0) (sl' := 0) rfl ?_
        refine ev_step rfl rfl rfl (PFX_2_98_12 rfl) ?_
        refine ev_go 2 (pc' := 88) (L' := [some (.ref 1), some (.int x1161), some (.int (a_s1lifts_count w))]) (st' := [.int (a_s1lifts_count w)]) (h' := (HX (u_s1lifts_count w 0) T)) (cs' := 0) (sl' := 0) rfl ?_
        obtain ⟨rfl, rfl⟩ := ai_smP h
        exact ev_end rfl
      · refine ev_ic_ne (t := 59) rfl rfl (fun _ => ?_) (fun c9 => absurd c9 hc)
        refine ev_go 2 (pc' := 61) (L' := [some (.ref 1), some (.int x1161), none]) (st' := [.int 2, .int x1161]) (h' := (HX w T)) (cs' := 0) (sl' := 0) rfl ?_
        rcases ai_ifE h with ⟨hc, h⟩ | ⟨hc, h⟩
        · refine ev_ic_ne (t := 77) rfl rfl (fun c9 => absurd hc c9) (fun _ => ?_)
          refine ev_go 5 (pc' := 71) (L' := [some (.ref 1), some (.int x1161), some (.int (a_s1_towns w))]) (st' := [.int 0, .ref 1]) (h' := (HX w T)) (cs' := 0) (sl' := 0) rfl ?_
          refine ev_step rfl rfl rfl (PFX_2_51_1 rfl) ?_
          refine ev_go 2 (pc' := 88) (L' := [some (.ref 1), some (.int x1161), some (.int (a_s1_towns w))]) (st' := [.int (a_s1_towns w)]) (h' := (HX (u_s1_towns w 0) T)) (cs' := 0) (sl' := 0) rfl ?_
          obtain ⟨rfl, rfl⟩ := ai_smP h
          exact ev_end rfl
        · refine ev_ic_ne (t := 77) rfl rfl (fun _ => ?_) (fun c9 => absurd c9 hc)
          refine ev_go 5 (pc' := 84) (L' := [some (.ref 1), some (.int x1161), some (.int (a_s1_drops w))]) (st' := [.int 0, .ref 1]) (h' := (HX w T)) (cs' := 0) (sl' := 0) rfl ?_
          refine ev_step rfl rfl rfl (PFX_2_57_1 rfl) ?_
          refine ev_go 1 (pc' := 88) (L' := [some (.ref 1), some (.int x1161), some (.int (a_s1_drops w))]) (st' := [.int (a_s1_drops w)]) (h' := (HX (u_s1_drops w 0) T)) (cs' := 0) (sl' := 0) rfl ?_
          obtain ⟨rfl, rfl⟩ := ai_smP h
          exact ev_end rfl
set_option maxHeartbeats 40000000 in
set_option maxRecDepth 100000 in
theorem Ef_clean_0 (x1160 : Int32) (w : WX) (r : Int32) (w' : WX) (h : Ff_clean_0 x1160 w = some (r, w')) (T : ai_H) : ai_ev D1 mf_clean 0 [some (.ref 0), some (.int x1160)] [] (HX w T) 0 0 (some (.int r), HX w' T) := by
  unfold Ff_clean_0 at h
  refine ev_go 4 (pc' := 6) (L' := [some (.ref 0), some (.int x1160)]) (st' := [.int x1160, .ref 1, .ref 0]) (h' := (HX w T)) (cs' := 0) (sl' := 0) rfl ?_
  obtain ⟨c1163, hq, h⟩ := ai_bdE h
  refine ev_call (M' := msea_empty) (L' := [some (.ref 1), some (.int x1160), none]) (rest := [.ref 0]) (rv := some (.int c1163.1)) (h' := (HX c1163.2 T)) rfl (Esea_empty_1 x1160 w _ _ hq T) ?_
  show ai_ev D1 mf_clean 9 [some (.ref 0), some (.int x1160)] [.int c1163.1, .ref 0] (HX c1163.2 T) 0 0 _
  obtain ⟨c1164, hq, h⟩ := ai_bdE h
  refine ev_call (M' := mf_counted) (L' := [some (.ref 0), some (.int c1163.1)]) (rest := []) (rv := some (.int c1164.1)) (h' := (HX c1164.2 T)) rfl (Ef_counted_0 c1163.1 c1163.2 _ _ hq T) ?_
  show ai_ev D1 mf_clean 12 [some (.ref 0), some (.int x1160)] [.int c1164.1] (HX c1164.2 T) 0 0 _
  obtain ⟨rfl, rfl⟩ := ai_smP h
  exact ev_end rfl
set_option maxHeartbeats 40000000 in
set_option maxRecDepth 100000 in
theorem Etxt_add_78 (x1166 : Int32) (w : WX) (r : Int32) (w' : WX) (h : Ftxt_add_78 x1166 w = some (r, w')) (T : ai_H) : ai_ev D1 mtxt_add 0 [some (.ref 78), some (.int x1166)] [] (HX w T) 0 0 (some (.int r), HX w' T) := by
  unfold Ftxt_add_78 at h
  refine ev_go 3 (pc' := 4) (L' := [some (.ref 78), some (.int x1166)]) (st' := [.int 127, .int 0, .int x1166]) (h' := (HX w T)) (cs' := 0) (sl' := 0) rfl ?_
  obtain ⟨c1167, hq, h⟩ := ai_bdE h
  refine ev_call (M' := mf_within) (L' := [some (.int x1166), some (.int 0), some (.int 127)]) (rest := []) (rv := some (.int c1167)) (h' := (HX w T)) rfl (Ef_within x1166 0 127 _ hq (HX w T)) ?_
  show ai_ev D1 mtxt_add 7 [some (.ref 78), some (.int x1166)] [.int c1167] (HX w T) 0 0 _
  rcases ai_ifE h with ⟨hc, h⟩ | ⟨hc, h⟩
  · refine ev_if_ne (t := 13) rfl rfl (fun c9 => absurd hc c9) (fun _ => ?_)
    refine ev_go 1 (pc' := 12) (L' := [some (.ref 78), some (.int x1166)]) (st' := [.int (-2)]) (h' := (HX w T)) (cs' := 0) (sl' := 0) rfl ?_
    obtain ⟨rfl, rfl⟩ := ai_smP h
    exact ev_end rfl
  · refine ev_if_ne (t := 13) rfl rfl (fun _ => ?_) (fun c9 => absurd c9 hc)
    refine ev_go 3 (pc' := 20) (L' := [some (.ref 78), some (.int x1166)]) (st' := [.int 150, .int (a_text_length w)]) (h' := (HX w T)) (cs' := 0) (sl' := 0) rfl ?_
    rcases ai_ifE h with ⟨hc, h⟩ | ⟨hc, h⟩
    · refine ev_ic_lt (t := 26) rfl rfl (fun _ => ?_) (fun c9 => absurd hc c9)
      refine ev_go 5 (pc' := 35) (L' := [some (.ref 78), some (.int x1166)]) (st' := [.int x1166, .int (a_text_length w), .ref 79]) (h' := (HX w T)) (cs' := 0) (sl' := 0) rfl ?_
      obtain ⟨q1168, hq, h⟩ := ai_bdE h
      refine ev_iast rfl rfl hq ?_
      rw [HXs_79]
      refine ev_go 5 (pc' := 43) (L' := [some (.ref 78), some (.int x1166)]) (st' := [.int ((a_text_length w) + 1), .ref 78]) (h' := (HX (u_text_bytes w q1168) T)) (cs' := 0) (sl' := 0) rfl ?_
      refine ev_step rfl rfl rfl (PFX_4_9_78 rfl) ?_
      refine ev_go 2 (pc' := 50) (L' := [some (.ref 78), some (.int x1166)]) (st' := [.int ((a_text_length w) + 1)]) (h' := (HX (u_text_length (u_text_bytes w q1168) ((a_text_length w) + 1)) T)) (cs' := 0) (sl' := 0) rfl ?_
      obtain ⟨rfl, rfl⟩ := ai_smP h
      exact ev_end rfl
    · refine ev_ic_lt (t := 26) rfl rfl (fun c9 => absurd c9 hc) (fun _ => ?_)
      refine ev_go 1 (pc' := 25) (L' := [some (.ref 78), some (.int x1166)]) (st' := [.int (-4)]) (h' := (HX w T)) (cs' := 0) (sl' := 0) rfl ?_
      obtain ⟨rfl, rfl⟩ := ai_smP h
      exact ev_end rfl
set_option maxHeartbeats 40000000 in
set_option maxRecDepth 100000 in
theorem Ef_type_0 (x1165 : Int32) (w : WX) (r : Int32) (w' : WX) (h : Ff_type_0 x1165 w = some (r, w')) (T : ai_H) : ai_ev D1 mf_type 0 [some (.ref 0), some (.int x1165)] [] (HX w T) 0 0 (some (.int r), HX w' T) := by
  unfold Ff_type_0 at h
  refine ev_go 4 (pc' := 6) (L' := [some (.ref 0), some (.int x1165)]) (st' := [.int x1165, .ref 78, .ref 0]) (h' := (HX w T)) (cs' := 0) (sl' := 0) rfl ?_
  obtain ⟨c1169, hq, h⟩ := ai_bdE h
  refine ev_call (M' := mtxt_add) (L' := [some (.ref 78), some (.int x1165)]) (rest := [.ref 0]) (rv := some (.int c1169.1)) (h' := (HX c1169.2 T)) rfl (Etxt_add_78 x1165 w _ _ hq T) ?_
  show ai_ev D1 mf_type 9 [some (.ref 0), some (.int x1165)] [.int c1169.1, .ref 0] (HX c1169.2 T) 0 0 _
  obtain ⟨c1170, hq, h⟩ := ai_bdE h
  refine ev_call (M' := mf_counted) (L' := [some (.ref 0), some (.int c1169.1)]) (rest := []) (rv := some (.int c1170.1)) (h' := (HX c1170.2 T)) rfl (Ef_counted_0 c1169.1 c1169.2 _ _ hq T) ?_
  show ai_ev D1 mf_type 12 [some (.ref 0), some (.int x1165)] [.int c1170.1] (HX c1170.2 T) 0 0 _
  obtain ⟨rfl, rfl⟩ := ai_smP h
  exact ev_end rfl
set_option maxHeartbeats 40000000 in
set_option maxRecDepth 100000 in
theorem Ef_clear_0 (w : WX) (r : Int32) (w' : WX) (h : Ff_clear_0 w = some (r, w')) (T : ai_H) : ai_ev D1 mf_clear 0 [some (.ref 0), none] [] (HX w T) 0 0 (some (.int r), HX w' T) := by
  unfold Ff_clear_0 at h
  refine ev_go 7 (pc' := 13) (L' := [some (.ref 0), some (.int (a_text_length w))]) (st' := [.int 0, .ref 78]) (h' := (HX w T)) (cs' := 0) (sl' := 0) rfl ?_
  refine ev_step rfl rfl rfl (PFX_7_146_78 rfl) ?_
  refine ev_go 1 (pc' := 17) (L' := [some (.ref 0), some (.int (a_text_length w))]) (st' := [.int (a_text_length w)]) (h' := (HX (u_text_length w 0) T)) (cs' := 0) (sl' := 0) rfl ?_
  obtain ⟨rfl, rfl⟩ := ai_smP h
  exact ev_end rfl
set_option maxHeartbeats 40000000 in
set_option maxRecDepth 100000 in
theorem EGtxt_skipBlanks_78 : ∀ n : Nat, (∀ (w : WX) (w' : WX), Gtxt_skipBlanks_78 n 0  w = some w' → ∀ (T : ai_H), ai_ev D1 mtxt_skipBlanks 0 [some (.ref 78)] [] (HX w T) 0 0 (none, HX w' T)) := by
  intro n
  induction n with
  | zero =>
    exact (fun _ _ h => by cases h)
  | succ n ih0 =>
    intro w w' h T
    simp only [Gtxt_skipBlanks_78] at h
    refine ev_go 4 (pc' := 8) (L' := [some (.ref 78)]) (st' := [.int (a_text_length w), .int (a_text_at w)]) (h' := (HX w T)) (cs' := 0) (sl' := 0) rfl ?_
    rcases ai_ifE h with ⟨hc, h⟩ | ⟨hc, h⟩
    · refine ev_ic_ge (t := 38) rfl rfl (fun _ => ?_) (fun c9 => absurd hc c9)
      obtain rfl := Option.some.inj h
      exact ev_end rfl
    · refine ev_ic_ge (t := 38) rfl rfl (fun c9 => absurd c9 hc) (fun _ => ?_)
      refine ev_go 4 (pc' := 19) (L' := [some (.ref 78)]) (st' := [.int (a_text_at w), .ref 79]) (h' := (HX w T)) (cs' := 0) (sl' := 0) rfl ?_
      obtain ⟨v1171, hq, h⟩ := ai_bdE h
      refine ev_iald rfl rfl hq ?_
      refine ev_go 1 (pc' := 22) (L' := [some (.ref 78)]) (st' := [.int 32, .int v1171]) (h' := (HX w T)) (cs' := 0) (sl' := 0) rfl ?_
      rcases ai_ifE h with ⟨hc, h⟩ | ⟨hc, h⟩
      · refine ev_ic_ne (t := 38) rfl rfl (fun c9 => absurd hc c9) (fun _ => ?_)
        refine ev_go 5 (pc' := 32) (L' := [some (.ref 78)]) (st' := [.int ((a_text_at w) + 1), .ref 78]) (h' := (HX w T)) (cs' := 0) (sl' := 0) rfl ?_
        refine ev_step rfl rfl rfl (PFX_4_28_78 rfl) ?_
        refine ev_go 1 (pc' := 0) (L' := [some (.ref 78)]) (st' := []) (h' := (HX (u_text_at w ((a_text_at w) + 1)) T)) (cs' := 0) (sl' := 0) rfl ?_
        exact ih0 _ _ h T
      · refine ev_ic_ne (t := 38) rfl rfl (fun _ => ?_) (fun c9 => absurd c9 hc)
        obtain rfl := Option.some.inj h
        exact ev_end rfl
set_option maxHeartbeats 40000000 in
set_option maxRecDepth 100000 in
theorem Etxt_skipBlanks_78 (n : Nat) (w : WX) (w' : WX) (h : Ftxt_skipBlanks_78 n w = some w') (T : ai_H) : ai_ev D1 mtxt_skipBlanks 0 [some (.ref 78)] [] (HX w T) 0 0 (none, HX w' T) := by
  unfold Ftxt_skipBlanks_78 at h
  have ih0 := EGtxt_skipBlanks_78 n
  exact ih0 _ _ h T
set_option maxHeartbeats 40000000 in
set_option maxRecDepth 100000 in
theorem EGtxt_isWord_78 : ∀ n : Nat, (∀ (y1183 : Nat) (y1184 : Int32) (y1185 : Int32) (y1186 : Int32) (w : WX) (r : Int32) (w' : WX), Gtxt_isWord_78 n 0 y1184 y1185 y1186 y1183 w = some (r, w') → ∀ (T : ai_H), ai_ev D1 mtxt_isWord 15 [some (.ref 78), some (.retAddr y1183), some (.int y1184), some (.int y1185), some (.int y1186)] [] (HX w T) 0 0 (some (.int r), HX w' T)) := by
  intro n
  induction n with
  | zero =>
    exact (fun _ _ _ _ _ _ _ h => by cases h)
  | succ n ih0 =>
    intro y1183 y1184 y1185 y1186 w r w' h T
    simp only [Gtxt_isWord_78] at h
    refine ev_go 2 (pc' := 18) (L' := [some (.ref 78), some (.retAddr y1183), some (.int y1184), some (.int y1185), some (.int y1186)]) (st' := [.retAddr y1183, .int y1186]) (h' := (HX w T)) (cs' := 0) (sl' := 0) rfl ?_
    obtain ⟨v1187, hq, h⟩ := ai_bdE h
    refine ev_sln rfl rfl rfl rfl hq ?_
    rcases ai_ifE h with ⟨hc, h⟩ | ⟨hc, h⟩
    · refine ev_ic_ge (t := 50) rfl rfl (fun _ => ?_) (fun c9 => absurd hc c9)
      refine ev_go 1 (pc' := 51) (L' := [some (.ref 78), some (.retAddr y1183), some (.int y1184), some (.int y1185), some (.int y1186)]) (st' := [.int 1]) (h' := (HX w T)) (cs' := 0) (sl' := 0) rfl ?_
      obtain ⟨rfl, rfl⟩ := ai_smP h
      exact ev_end rfl
    · refine ev_ic_ge (t := 50) rfl rfl (fun c9 => absurd c9 hc) (fun _ => ?_)
      refine ev_go 5 (pc' := 32) (L' := [some (.ref 78), some (.retAddr y1183), some (.int y1184), some (.int y1185), some (.int y1186)]) (st' := [.int (y1184 + y1186), .ref 79]) (h' := (HX w T)) (cs' := 0) (sl' := 0) rfl ?_
      obtain ⟨v1188, hq, h⟩ := ai_bdE h
      refine ev_iald rfl rfl hq ?_
      refine ev_go 2 (pc' := 36) (L' := [some (.ref 78), some (.retAddr y1183), some (.int y1184), some (.int y1185), some (.int y1186)]) (st' := [.int y1186, .retAddr y1183, .int v1188]) (h' := (HX w T)) (cs' := 0) (sl' := 0) rfl ?_
      obtain ⟨v1189, hq, h⟩ := ai_bdE h
      refine ev_sch rfl rfl rfl rfl hq ?_
      rcases ai_ifE h with ⟨hc, h⟩ | ⟨hc, h⟩
      · refine ev_ic_eq (t := 44) rfl rfl (fun _ => ?_) (fun c9 => absurd hc c9)
        refine ev_go 2 (pc' := 15) (L' := [some (.ref 78), some (.retAddr y1183), some (.int y1184), some (.int y1185), some (.int (y1186 + 1))]) (st' := []) (h' := (HX w T)) (cs' := 0) (sl' := 0) rfl ?_
        exact ih0 _ _ _ _ _ _ _ h T
      · refine ev_ic_eq (t := 44) rfl rfl (fun c9 => absurd c9 hc) (fun _ => ?_)
        refine ev_go 1 (pc' := 43) (L' := [some (.ref 78), some (.retAddr y1183), some (.int y1184), some (.int y1185), some (.int y1186)]) (st' := [.int 0]) (h' := (HX w T)) (cs' := 0) (sl' := 0) rfl ?_
        obtain ⟨rfl, rfl⟩ := ai_smP h
        exact ev_end rfl
set_option maxHeartbeats 40000000 in
set_option maxRecDepth 100000 in
theorem Etxt_isWord_78 (n : Nat) (x1179 : Nat) (x1180 : Int32) (x1181 : Int32) (w : WX) (r : Int32) (w' : WX) (h : Ftxt_isWord_78 n x1179 x1180 x1181 w = some (r, w')) (T : ai_H) : ai_ev D1 mtxt_isWord 0 [some (.ref 78), some (.retAddr x1179), some (.int x1180), some (.int x1181), none] [] (HX w T) 0 0 (some (.int r), HX w' T) := by
  unfold Ftxt_isWord_78 at h
  have ih0 := EGtxt_isWord_78 n
  refine ev_go 1 (pc' := 1) (L' := [some (.ref 78), some (.retAddr x1179), some (.int x1180), some (.int x1181), none]) (st' := [.retAddr x1179]) (h' := (HX w T)) (cs' := 0) (sl' := 0) rfl ?_
  obtain ⟨v1182, hq, h⟩ := ai_bdE h
  refine ev_sln rfl rfl rfl rfl hq ?_
  refine ev_go 3 (pc' := 7) (L' := [some (.ref 78), some (.retAddr x1179), some (.int x1180), some (.int x1181), none]) (st' := [.int (x1181 - x1180), .int v1182]) (h' := (HX w T)) (cs' := 0) (sl' := 0) rfl ?_
  rcases ai_ifE h with ⟨hc, h⟩ | ⟨hc, h⟩
  · refine ev_ic_eq (t := 12) rfl rfl (fun _ => ?_) (fun c9 => absurd hc c9)
    refine ev_go 2 (pc' := 15) (L' := [some (.ref 78), some (.retAddr x1179), some (.int x1180), some (.int x1181), some (.int 0)]) (st' := []) (h' := (HX w T)) (cs' := 0) (sl' := 0) rfl ?_
    exact ih0 _ _ _ _ _ _ _ h T
  · refine ev_ic_eq (t := 12) rfl rfl (fun c9 => absurd c9 hc) (fun _ => ?_)
    refine ev_go 1 (pc' := 11) (L' := [some (.ref 78), some (.retAddr x1179), some (.int x1180), some (.int x1181), none]) (st' := [.int 0]) (h' := (HX w T)) (cs' := 0) (sl' := 0) rfl ?_
    obtain ⟨rfl, rfl⟩ := ai_smP h
    exact ev_end rfl
set_option maxHeartbeats 40000000 in
set_option maxRecDepth 100000 in
theorem EGtxt_takeWord_78 : ∀ n : Nat, (∀ (y1174 : Int32) (w : WX) (r : Int32) (w' : WX), Gtxt_takeWord_78 n 0 y1174 0 w = some (r, w') → ∀ (T : ai_H) (o2 : Option Value), ai_ev D1 mtxt_takeWord 5 [some (.ref 78), some (.int y1174), o2] [] (HX w T) 0 0 (some (.int r), HX w' T)) ∧ (∀ (y1177 : Int32) (y1178 : Int32) (w : WX) (r : Int32) (w' : WX), Gtxt_takeWord_78 n 1 y1177 y1178 w = some (r, w') → ∀ (T : ai_H), ai_ev D1 mtxt_takeWord 50 [some (.ref 78), some (.int y1177), some (.int y1178)] [] (HX w T) 0 0 (some (.int r), HX w' T)) := by
  intro n
  induction n with
  | zero =>
    exact ⟨(fun _ _ _ _ h => by cases h), (fun _ _ _ _ _ h => by cases h)⟩
  | succ n ih =>
    obtain ⟨ih0, ih1⟩ := ih
    refine ⟨?_, ?_⟩
    · intro y1174 w r w' h T o2
      simp only [Gtxt_takeWord_78] at h
      refine ev_go 4 (pc' := 13) (L' := [some (.ref 78), some (.int y1174), o2]) (st' := [.int (a_text_length w), .int (a_text_at w)]) (h' := (HX w T)) (cs' := 0) (sl' := 0) rfl ?_
      rcases ai_ifE h with ⟨hc, h⟩ | ⟨hc, h⟩
      · refine ev_ic_ge (t := 48) rfl rfl (fun _ => ?_) (fun c9 => absurd hc c9)
        refine ev_go 2 (pc' := 50) (L' := [some (.ref 78), some (.int y1174), some (.int 0)]) (st' := []) (h' := (HX w T)) (cs' := 0) (sl' := 0) rfl ?_
        exact ih1 _ _ _ _ _ h T
      · refine ev_ic_ge (t := 48) rfl rfl (fun c9 => absurd c9 hc) (fun _ => ?_)
        refine ev_go 4 (pc' := 24) (L' := [some (.ref 78), some (.int y1174), o2]) (st' := [.int (a_text_at w), .ref 79]) (h' := (HX w T)) (cs' := 0) (sl' := 0) rfl ?_
        obtain ⟨v1175, hq, h⟩ := ai_bdE h
        refine ev_iald rfl rfl hq ?_
        refine ev_go 2 (pc' := 29) (L' := [some (.ref 78), some (.int y1174), o2]) (st' := [.int 122, .int 97, .int v1175]) (h' := (HX w T)) (cs' := 0) (sl' := 0) rfl ?_
        obtain ⟨c1176, hq, h⟩ := ai_bdE h
        refine ev_call (M' := mf_within) (L' := [some (.int v1175), some (.int 97), some (.int 122)]) (rest := []) (rv := some (.int c1176)) (h' := (HX w T)) rfl (Ef_within v1175 97 122 _ hq (HX w T)) ?_
        show ai_ev D1 mtxt_takeWord 32 [some (.ref 78), some (.int y1174), o2] [.int c1176] (HX w T) 0 0 _
        rcases ai_ifE h with ⟨hc, h⟩ | ⟨hc, h⟩
        · refine ev_if_eq (t := 48) rfl rfl (fun _ => ?_) (fun c9 => absurd hc c9)
          refine ev_go 2 (pc' := 50) (L' := [some (.ref 78), some (.int y1174), some (.int 0)]) (st' := []) (h' := (HX w T)) (cs' := 0) (sl' := 0) rfl ?_
          exact ih1 _ _ _ _ _ h T
        · refine ev_if_eq (t := 48) rfl rfl (fun c9 => absurd c9 hc) (fun _ => ?_)
          refine ev_go 5 (pc' := 42) (L' := [some (.ref 78), some (.int y1174), o2]) (st' := [.int ((a_text_at w) + 1), .ref 78]) (h' := (HX w T)) (cs' := 0) (sl' := 0) rfl ?_
          refine ev_step rfl rfl rfl (PFX_4_28_78 rfl) ?_
          refine ev_go 1 (pc' := 5) (L' := [some (.ref 78), some (.int y1174), o2]) (st' := []) (h' := (HX (u_text_at w ((a_text_at w) + 1)) T)) (cs' := 0) (sl' := 0) rfl ?_
          exact ih0 _ _ _ _ h T _
    · intro y1177 y1178 w r w' h T
      simp only [Gtxt_takeWord_78] at h
      refine ev_go 2 (pc' := 53) (L' := [some (.ref 78), some (.int y1177), some (.int y1178)]) (st' := [.int 8, .int y1178]) (h' := (HX w T)) (cs' := 0) (sl' := 0) rfl ?_
      rcases ai_ifE h with ⟨hc, h⟩ | ⟨hc, h⟩
      · refine ev_ic_ge (t := 80) rfl rfl (fun _ => ?_) (fun c9 => absurd hc c9)
        refine ev_go 1 (pc' := 81) (L' := [some (.ref 78), some (.int y1177), some (.int y1178)]) (st' := [.int (-1)]) (h' := (HX w T)) (cs' := 0) (sl' := 0) rfl ?_
        obtain ⟨rfl, rfl⟩ := ai_smP h
        exact ev_end rfl
      · refine ev_ic_ge (t := 80) rfl rfl (fun c9 => absurd c9 hc) (fun _ => ?_)
        refine ev_go 2 (pc' := 58) (L' := [some (.ref 78), some (.int y1177), some (.int y1178)]) (st' := [.int y1178, .ref 78]) (h' := (HX w T)) (cs' := 0) (sl' := 0) rfl ?_
        refine ev_call (M' := mtxt_nameOf) (L' := [some (.int y1178)]) (rest := [.ref 78]) (rv := some (.retAddr (ai_nm y1178))) (h' := (HX w T)) rfl (Enam y1178 _) ?_
        show ai_ev D1 mtxt_takeWord 61 [some (.ref 78), some (.int y1177), some (.int y1178)] [.retAddr (ai_nm y1178), .ref 78] (HX w T) 0 0 _
        refine ev_go 3 (pc' := 66) (L' := [some (.ref 78), some (.int y1177), some (.int y1178)]) (st' := [.int (a_text_at w), .int y1177, .retAddr (ai_nm y1178), .ref 78]) (h' := (HX w T)) (cs' := 0) (sl' := 0) rfl ?_
        obtain ⟨c1190, hq, h⟩ := ai_bdE h
        refine ev_call (M' := mtxt_isWord) (L' := [some (.ref 78), some (.retAddr (ai_nm y1178)), some (.int y1177), some (.int (a_text_at w)), none]) (rest := []) (rv := some (.int c1190.1)) (h' := (HX c1190.2 T)) rfl (Etxt_isWord_78 n (ai_nm y1178) y1177 (a_text_at w) w _ _ hq T) ?_
        show ai_ev D1 mtxt_takeWord 69 [some (.ref 78), some (.int y1177), some (.int y1178)] [.int c1190.1] (HX c1190.2 T) 0 0 _
        rcases ai_ifE h with ⟨hc, h⟩ | ⟨hc, h⟩
        · refine ev_if_eq (t := 74) rfl rfl (fun _ => ?_) (fun c9 => absurd hc c9)
          refine ev_go 2 (pc' := 50) (L' := [some (.ref 78), some (.int y1177), some (.int (y1178 + 1))]) (st' := []) (h' := (HX c1190.2 T)) (cs' := 0) (sl' := 0) rfl ?_
          exact ih1 _ _ _ _ _ h T
        · refine ev_if_eq (t := 74) rfl rfl (fun c9 => absurd c9 hc) (fun _ => ?_)
          refine ev_go 1 (pc' := 73) (L' := [some (.ref 78), some (.int y1177), some (.int y1178)]) (st' := [.int y1178]) (h' := (HX c1190.2 T)) (cs' := 0) (sl' := 0) rfl ?_
          obtain ⟨rfl, rfl⟩ := ai_smP h
          exact ev_end rfl
set_option maxHeartbeats 40000000 in
set_option maxRecDepth 100000 in
theorem Etxt_takeWord_78 (n : Nat) (w : WX) (r : Int32) (w' : WX) (h : Ftxt_takeWord_78 n w = some (r, w')) (T : ai_H) : ai_ev D1 mtxt_takeWord 0 [some (.ref 78), none, none] [] (HX w T) 0 0 (some (.int r), HX w' T) := by
  unfold Ftxt_takeWord_78 at h
  obtain ⟨ih0, ih1⟩ := EGtxt_takeWord_78 n
  refine ev_go 3 (pc' := 5) (L' := [some (.ref 78), some (.int (a_text_at w)), none]) (st' := []) (h' := (HX w T)) (cs' := 0) (sl' := 0) rfl ?_
  exact ih0 _ _ _ _ h T _
set_option maxHeartbeats 40000000 in
set_option maxRecDepth 100000 in
theorem Etxt_numbersBehind (x1192 : Int32) (r : Int32) (h : Ftxt_numbersBehind x1192 = some r) (hh : ai_H) : ai_ev D1 mtxt_numbersBehind 0 [some (.int x1192)] [] hh 0 0 (some (.int r), hh) := by
  unfold Ftxt_numbersBehind at h
  refine ev_go 1 (pc' := 1) (L' := [some (.int x1192)]) (st' := [.int x1192]) (h' := hh) (cs' := 0) (sl' := 0) rfl ?_
  rcases ai_ifE h with ⟨hc, h⟩ | ⟨hs0, h⟩
  · refine ev_swi (k := 0) (t := 48) rfl hc (by decide) (by decide) rfl rfl ?_
    refine ev_go 1 (pc' := 49) (L' := [some (.int x1192)]) (st' := [.int 1]) (h' := hh) (cs' := 0) (sl' := 0) rfl ?_
    obtain rfl := Option.some.inj h
    exact ev_end rfl
  rcases ai_ifE h with ⟨hc, h⟩ | ⟨hs1, h⟩
  · refine ev_swi (k := 1) (t := 50) rfl hc (by decide) (by decide) rfl rfl ?_
    refine ev_go 1 (pc' := 51) (L' := [some (.int x1192)]) (st' := [.int 2]) (h' := hh) (cs' := 0) (sl' := 0) rfl ?_
    obtain rfl := Option.some.inj h
    exact ev_end rfl
  rcases ai_ifE h with ⟨hc, h⟩ | ⟨hs2, h⟩
  · refine ev_swi (k := 2) (t := 52) rfl hc (by decide) (by decide) rfl rfl ?_
    refine ev_go 1 (pc' := 53) (L' := [some (.int x1192)]) (st' := [.int 3]) (h' := hh) (cs' := 0) (sl' := 0) rfl ?_
    obtain rfl := Option.some.inj h
    exact ev_end rfl
  rcases ai_ifE h with ⟨hc, h⟩ | ⟨hs3, h⟩
  · refine ev_swi (k := 3) (t := 50) rfl hc (by decide) (by decide) rfl rfl ?_
    refine ev_go 1 (pc' := 51) (L' := [some (.int x1192)]) (st' := [.int 2]) (h' := hh) (cs' := 0) (sl' := 0) rfl ?_
    obtain rfl := Option.some.inj h
    exact ev_end rfl
  rcases ai_ifE h with ⟨hc, h⟩ | ⟨hs4, h⟩
  · refine ev_swi (k := 4) (t := 52) rfl hc (by decide) (by decide) rfl rfl ?_
    refine ev_go 1 (pc' := 53) (L' := [some (.int x1192)]) (st' := [.int 3]) (h' := hh) (cs' := 0) (sl' := 0) rfl ?_
    obtain rfl := Option.some.inj h
    exact ev_end rfl
  rcases ai_ifE h with ⟨hc, h⟩ | ⟨hs5, h⟩
  · refine ev_swi (k := 5) (t := 52) rfl hc (by decide) (by decide) rfl rfl ?_
    refine ev_go 1 (pc' := 53) (L' := [some (.int x1192)]) (st' := [.int 3]) (h' := hh) (cs' := 0) (sl' := 0) rfl ?_
    obtain rfl := Option.some.inj h
    exact ev_end rfl
  rcases ai_ifE h with ⟨hc, h⟩ | ⟨hs6, h⟩
  · refine ev_swi (k := 6) (t := 48) rfl hc (by decide) (by decide) rfl rfl ?_
    refine ev_go 1 (pc' := 49) (L' := [some (.int x1192)]) (st' := [.int 1]) (h' := hh) (cs' := 0) (sl' := 0) rfl ?_
    obtain rfl := Option.some.inj h
    exact ev_end rfl
  rcases ai_ifE h with ⟨hc, h⟩ | ⟨hs7, h⟩
  · refine ev_swi (k := 7) (t := 48) rfl hc (by decide) (by decide) rfl rfl ?_
    refine ev_go 1 (pc' := 49) (L' := [some (.int x1192)]) (st' := [.int 1]) (h' := hh) (cs' := 0) (sl' := 0) rfl ?_
    obtain rfl := Option.some.inj h
    exact ev_end rfl
  refine ev_swo (t := 52) (lo := 0) (n := 8) rfl (sw_out 0 8 (fun k hk => by match k, hk with | 0, _ => exact hs0 | 1, _ => exact hs1 | 2, _ => exact hs2 | 3, _ => exact hs3 | 4, _ => exact hs4 | 5, _ => exact hs5 | 6, _ => exact hs6 | 7, _ => exact hs7 | k + 8, hk => exact absurd hk (by omega))) ⟨rfl, by decide⟩ rfl ?_
  refine ev_go 1 (pc' := 53) (L' := [some (.int x1192)]) (st' := [.int 3]) (h' := hh) (cs' := 0) (sl' := 0) rfl ?_
  obtain rfl := Option.some.inj h
  exact ev_end rfl
set_option maxHeartbeats 40000000 in
set_option maxRecDepth 100000 in
theorem Etxt_isFigure_78 (w : WX) (r : Int32) (w' : WX) (h : Ftxt_isFigure_78 w = some (r, w')) (T : ai_H) : ai_ev D1 mtxt_isFigure 0 [some (.ref 78)] [] (HX w T) 0 0 (some (.int r), HX w' T) := by
  unfold Ftxt_isFigure_78 at h
  refine ev_go 4 (pc' := 8) (L' := [some (.ref 78)]) (st' := [.int (a_text_length w), .int (a_text_at w)]) (h' := (HX w T)) (cs' := 0) (sl' := 0) rfl ?_
  rcases ai_ifE h with ⟨hc, h⟩ | ⟨hc, h⟩
  · refine ev_ic_ge (t := 34) rfl rfl (fun _ => ?_) (fun c9 => absurd hc c9)
    refine ev_go 1 (pc' := 35) (L' := [some (.ref 78)]) (st' := [.int 0]) (h' := (HX w T)) (cs' := 0) (sl' := 0) rfl ?_
    obtain ⟨rfl, rfl⟩ := ai_smP h
    exact ev_end rfl
  · refine ev_ic_ge (t := 34) rfl rfl (fun c9 => absurd c9 hc) (fun _ => ?_)
    refine ev_go 4 (pc' := 19) (L' := [some (.ref 78)]) (st' := [.int (a_text_at w), .ref 79]) (h' := (HX w T)) (cs' := 0) (sl' := 0) rfl ?_
    obtain ⟨v1198, hq, h⟩ := ai_bdE h
    refine ev_iald rfl rfl hq ?_
    refine ev_go 2 (pc' := 24) (L' := [some (.ref 78)]) (st' := [.int 57, .int 48, .int v1198]) (h' := (HX w T)) (cs' := 0) (sl' := 0) rfl ?_
    obtain ⟨c1199, hq, h⟩ := ai_bdE h
    refine ev_call (M' := mf_within) (L' := [some (.int v1198), some (.int 48), some (.int 57)]) (rest := []) (rv := some (.int c1199)) (h' := (HX w T)) rfl (Ef_within v1198 48 57 _ hq (HX w T)) ?_
    show ai_ev D1 mtxt_isFigure 27 [some (.ref 78)] [.int c1199] (HX w T) 0 0 _
    rcases ai_ifE h with ⟨hc, h⟩ | ⟨hc, h⟩
    · refine ev_if_eq (t := 34) rfl rfl (fun _ => ?_) (fun c9 => absurd hc c9)
      refine ev_go 1 (pc' := 35) (L' := [some (.ref 78)]) (st' := [.int 0]) (h' := (HX w T)) (cs' := 0) (sl' := 0) rfl ?_
      obtain ⟨rfl, rfl⟩ := ai_smP h
      exact ev_end rfl
    · refine ev_if_eq (t := 34) rfl rfl (fun c9 => absurd c9 hc) (fun _ => ?_)
      refine ev_go 2 (pc' := 35) (L' := [some (.ref 78)]) (st' := [.int 1]) (h' := (HX w T)) (cs' := 0) (sl' := 0) rfl ?_
      obtain ⟨rfl, rfl⟩ := ai_smP h
      exact ev_end rfl
set_option maxHeartbeats 40000000 in
set_option maxRecDepth 100000 in
theorem EGtxt_takeNumbers_78 : ∀ n : Nat, (∀ (y1196 : Int32) (y1197 : Int32) (w : WX) (r : Int32) (w' : WX), Gtxt_takeNumbers_78 n 0 y1196 y1197 w = some (r, w') → ∀ (T : ai_H), ai_ev D1 mtxt_takeNumbers 6 [some (.ref 78), some (.int y1196), some (.int y1197)] [] (HX w T) 0 0 (some (.int r), HX w' T)) := by
  intro n
  induction n with
  | zero =>
    exact (fun _ _ _ _ _ h => by cases h)
  | succ n ih0 =>
    intro y1196 y1197 w r w' h T
    simp only [Gtxt_takeNumbers_78] at h
    refine ev_go 2 (pc' := 8) (L' := [some (.ref 78), some (.int y1196), some (.int y1197)]) (st' := [.int y1196, .int y1197]) (h' := (HX w T)) (cs' := 0) (sl' := 0) rfl ?_
    rcases ai_ifE h with ⟨hc, h⟩ | ⟨hc, h⟩
    · refine ev_ic_ge (t := 118) rfl rfl (fun _ => ?_) (fun c9 => absurd hc c9)
      refine ev_go 1 (pc' := 119) (L' := [some (.ref 78), some (.int y1196), some (.int y1197)]) (st' := [.int (-1)]) (h' := (HX w T)) (cs' := 0) (sl' := 0) rfl ?_
      obtain ⟨rfl, rfl⟩ := ai_smP h
      exact ev_end rfl
    · refine ev_ic_ge (t := 118) rfl rfl (fun c9 => absurd c9 hc) (fun _ => ?_)
      refine ev_go 1 (pc' := 12) (L' := [some (.ref 78), some (.int y1196), some (.int y1197)]) (st' := [.ref 78]) (h' := (HX w T)) (cs' := 0) (sl' := 0) rfl ?_
      obtain ⟨c1200, hq, h⟩ := ai_bdE h
      refine ev_call (M' := mtxt_isFigure) (L' := [some (.ref 78)]) (rest := []) (rv := some (.int c1200.1)) (h' := (HX c1200.2 T)) rfl (Etxt_isFigure_78 w _ _ hq T) ?_
      show ai_ev D1 mtxt_takeNumbers 15 [some (.ref 78), some (.int y1196), some (.int y1197)] [.int c1200.1] (HX c1200.2 T) 0 0 _
      rcases ai_ifE h with ⟨hc, h⟩ | ⟨hc, h⟩
      · refine ev_if_ne (t := 23) rfl rfl (fun c9 => absurd hc c9) (fun _ => ?_)
        refine ev_go 2 (pc' := 22) (L' := [some (.ref 78), some (.int y1196), some (.int y1197)]) (st' := [.int (a_text_at c1200.2)]) (h' := (HX c1200.2 T)) (cs' := 0) (sl' := 0) rfl ?_
        obtain ⟨rfl, rfl⟩ := ai_smP h
        exact ev_end rfl
      · refine ev_if_ne (t := 23) rfl rfl (fun _ => ?_) (fun c9 => absurd c9 hc)
        refine ev_go 7 (pc' := 36) (L' := [some (.ref 78), some (.int y1196), some (.int y1197)]) (st' := [.int (a_text_at c1200.2), .ref 79, .int y1197, .ref 80]) (h' := (HX c1200.2 T)) (cs' := 0) (sl' := 0) rfl ?_
        obtain ⟨v1201, hq, h⟩ := ai_bdE h
        refine ev_iald rfl rfl hq ?_
        refine ev_go 2 (pc' := 40) (L' := [some (.ref 78), some (.int y1196), some (.int y1197)]) (st' := [.int (v1201 - 48), .int y1197, .ref 80]) (h' := (HX c1200.2 T)) (cs' := 0) (sl' := 0) rfl ?_
        obtain ⟨q1202, hq, h⟩ := ai_bdE h
        refine ev_iast rfl rfl hq ?_
        rw [HXs_80]
        refine ev_go 5 (pc' := 48) (L' := [some (.ref 78), some (.int y1196), some (.int y1197)]) (st' := [.int ((a_text_at c1200.2) + 1), .ref 78]) (h' := (HX (u_text_numbers c1200.2 q1202) T)) (cs' := 0) (sl' := 0) rfl ?_
        refine ev_step rfl rfl rfl (PFX_4_28_78 rfl) ?_
        refine ev_go 1 (pc' := 52) (L' := [some (.ref 78), some (.int y1196), some (.int y1197)]) (st' := [.ref 78]) (h' := (HX (u_text_at (u_text_numbers c1200.2 q1202) ((a_text_at c1200.2) + 1)) T)) (cs' := 0) (sl' := 0) rfl ?_
        obtain ⟨c1203, hq, h⟩ := ai_bdE h
        refine ev_call (M' := mtxt_isFigure) (L' := [some (.ref 78)]) (rest := []) (rv := some (.int c1203.1)) (h' := (HX c1203.2 T)) rfl (Etxt_isFigure_78 (u_text_at (u_text_numbers c1200.2 q1202) ((a_text_at c1200.2) + 1)) _ _ hq T) ?_
        show ai_ev D1 mtxt_takeNumbers 55 [some (.ref 78), some (.int y1196), some (.int y1197)] [.int c1203.1] (HX c1203.2 T) 0 0 _
        rcases ai_ifE h with ⟨hc, h⟩ | ⟨hc, h⟩
        · refine ev_if_eq (t := 96) rfl rfl (fun _ => ?_) (fun c9 => absurd hc c9)
          refine ev_go 1 (pc' := 97) (L' := [some (.ref 78), some (.int y1196), some (.int y1197)]) (st' := [.ref 78]) (h' := (HX c1203.2 T)) (cs' := 0) (sl' := 0) rfl ?_
          obtain ⟨c1204, hq, h⟩ := ai_bdE h
          refine ev_call (M' := mtxt_isFigure) (L' := [some (.ref 78)]) (rest := []) (rv := some (.int c1204.1)) (h' := (HX c1204.2 T)) rfl (Etxt_isFigure_78 c1203.2 _ _ hq T) ?_
          show ai_ev D1 mtxt_takeNumbers 100 [some (.ref 78), some (.int y1196), some (.int y1197)] [.int c1204.1] (HX c1204.2 T) 0 0 _
          rcases ai_ifE h with ⟨hc, h⟩ | ⟨hc, h⟩
          · refine ev_if_eq (t := 108) rfl rfl (fun _ => ?_) (fun c9 => absurd hc c9)
            refine ev_go 1 (pc' := 109) (L' := [some (.ref 78), some (.int y1196), some (.int y1197)]) (st' := [.ref 78]) (h' := (HX c1204.2 T)) (cs' := 0) (sl' := 0) rfl ?_
            obtain ⟨c1205, hq, h⟩ := ai_bdE h
            refine ev_call (M' := mtxt_skipBlanks) (L' := [some (.ref 78)]) (rest := []) (rv := none) (h' := (HX c1205 T)) rfl (Etxt_skipBlanks_78 n c1204.2 _ hq T) ?_
            show ai_ev D1 mtxt_takeNumbers 112 [some (.ref 78), some (.int y1196), some (.int y1197)] [] (HX c1205 T) 0 0 _
            refine ev_go 2 (pc' := 6) (L' := [some (.ref 78), some (.int y1196), some (.int (y1197 + 1))]) (st' := []) (h' := (HX c1205 T)) (cs' := 0) (sl' := 0) rfl ?_
            exact ih0 _ _ _ _ _ h T
          · refine ev_if_eq (t := 108) rfl rfl (fun c9 => absurd c9 hc) (fun _ => ?_)
            refine ev_go 2 (pc' := 107) (L' := [some (.ref 78), some (.int y1196), some (.int y1197)]) (st' := [.int (a_text_at c1204.2)]) (h' := (HX c1204.2 T)) (cs' := 0) (sl' := 0) rfl ?_
            obtain ⟨rfl, rfl⟩ := ai_smP h
            exact ev_end rfl
        · refine ev_if_eq (t := 96) rfl rfl (fun c9 => absurd c9 hc) (fun _ => ?_)
          refine ev_go 7 (pc' := 70) (L' := [some (.ref 78), some (.int y1196), some (.int y1197)]) (st' := [.int y1197, .ref 80, .int 10, .int y1197, .ref 80]) (h' := (HX c1203.2 T)) (cs' := 0) (sl' := 0) rfl ?_
          obtain ⟨v1206, hq, h⟩ := ai_bdE h
          refine ev_iald rfl rfl hq ?_
          refine ev_go 5 (pc' := 80) (L' := [some (.ref 78), some (.int y1196), some (.int y1197)]) (st' := [.int (a_text_at c1203.2), .ref 79, .int (10 * v1206), .int y1197, .ref 80]) (h' := (HX c1203.2 T)) (cs' := 0) (sl' := 0) rfl ?_
          obtain ⟨v1207, hq, h⟩ := ai_bdE h
          refine ev_iald rfl rfl hq ?_
          refine ev_go 3 (pc' := 85) (L' := [some (.ref 78), some (.int y1196), some (.int y1197)]) (st' := [.int (((10 * v1206) + v1207) - 48), .int y1197, .ref 80]) (h' := (HX c1203.2 T)) (cs' := 0) (sl' := 0) rfl ?_
          obtain ⟨q1208, hq, h⟩ := ai_bdE h
          refine ev_iast rfl rfl hq ?_
          rw [HXs_80]
          refine ev_go 5 (pc' := 93) (L' := [some (.ref 78), some (.int y1196), some (.int y1197)]) (st' := [.int ((a_text_at c1203.2) + 1), .ref 78]) (h' := (HX (u_text_numbers c1203.2 q1208) T)) (cs' := 0) (sl' := 0) rfl ?_
          refine ev_step rfl rfl rfl (PFX_4_28_78 rfl) ?_
          refine ev_go 1 (pc' := 97) (L' := [some (.ref 78), some (.int y1196), some (.int y1197)]) (st' := [.ref 78]) (h' := (HX (u_text_at (u_text_numbers c1203.2 q1208) ((a_text_at c1203.2) + 1)) T)) (cs' := 0) (sl' := 0) rfl ?_
          obtain ⟨c1209, hq, h⟩ := ai_bdE h
          refine ev_call (M' := mtxt_isFigure) (L' := [some (.ref 78)]) (rest := []) (rv := some (.int c1209.1)) (h' := (HX c1209.2 T)) rfl (Etxt_isFigure_78 (u_text_at (u_text_numbers c1203.2 q1208) ((a_text_at c1203.2) + 1)) _ _ hq T) ?_
          show ai_ev D1 mtxt_takeNumbers 100 [some (.ref 78), some (.int y1196), some (.int y1197)] [.int c1209.1] (HX c1209.2 T) 0 0 _
          rcases ai_ifE h with ⟨hc, h⟩ | ⟨hc, h⟩
          · refine ev_if_eq (t := 108) rfl rfl (fun _ => ?_) (fun c9 => absurd hc c9)
            refine ev_go 1 (pc' := 109) (L' := [some (.ref 78), some (.int y1196), some (.int y1197)]) (st' := [.ref 78]) (h' := (HX c1209.2 T)) (cs' := 0) (sl' := 0) rfl ?_
            obtain ⟨c1210, hq, h⟩ := ai_bdE h
            refine ev_call (M' := mtxt_skipBlanks) (L' := [some (.ref 78)]) (rest := []) (rv := none) (h' := (HX c1210 T)) rfl (Etxt_skipBlanks_78 n c1209.2 _ hq T) ?_
            show ai_ev D1 mtxt_takeNumbers 112 [some (.ref 78), some (.int y1196), some (.int y1197)] [] (HX c1210 T) 0 0 _
            refine ev_go 2 (pc' := 6) (L' := [some (.ref 78), some (.int y1196), some (.int (y1197 + 1))]) (st' := []) (h' := (HX c1210 T)) (cs' := 0) (sl' := 0) rfl ?_
            exact ih0 _ _ _ _ _ h T
          · refine ev_if_eq (t := 108) rfl rfl (fun c9 => absurd c9 hc) (fun _ => ?_)
            refine ev_go 2 (pc' := 107) (L' := [some (.ref 78), some (.int y1196), some (.int y1197)]) (st' := [.int (a_text_at c1209.2)]) (h' := (HX c1209.2 T)) (cs' := 0) (sl' := 0) rfl ?_
            obtain ⟨rfl, rfl⟩ := ai_smP h
            exact ev_end rfl
set_option maxHeartbeats 40000000 in
set_option maxRecDepth 100000 in
theorem Etxt_takeNumbers_78 (n : Nat) (x1194 : Int32) (w : WX) (r : Int32) (w' : WX) (h : Ftxt_takeNumbers_78 n x1194 w = some (r, w')) (T : ai_H) : ai_ev D1 mtxt_takeNumbers 0 [some (.ref 78), some (.int x1194), none] [] (HX w T) 0 0 (some (.int r), HX w' T) := by
  unfold Ftxt_takeNumbers_78 at h
  have ih0 := EGtxt_takeNumbers_78 n
  refine ev_go 1 (pc' := 1) (L' := [some (.ref 78), some (.int x1194), none]) (st' := [.ref 78]) (h' := (HX w T)) (cs' := 0) (sl' := 0) rfl ?_
  obtain ⟨c1195, hq, h⟩ := ai_bdE h
  refine ev_call (M' := mtxt_skipBlanks) (L' := [some (.ref 78)]) (rest := []) (rv := none) (h' := (HX c1195 T)) rfl (Etxt_skipBlanks_78 n w _ hq T) ?_
  show ai_ev D1 mtxt_takeNumbers 4 [some (.ref 78), some (.int x1194), none] [] (HX c1195 T) 0 0 _
  refine ev_go 2 (pc' := 6) (L' := [some (.ref 78), some (.int x1194), some (.int 0)]) (st' := []) (h' := (HX c1195 T)) (cs' := 0) (sl' := 0) rfl ?_
  exact ih0 _ _ _ _ _ h T
set_option maxHeartbeats 40000000 in
set_option maxRecDepth 100000 in
theorem EGarr_fill_22 : ∀ n : Nat, (∀ (y1220 : Int32) (y1221 : Int32) (y1222 : Int32) (w : WX) (w' : WX), Garr_fill_22 n 0 y1220 y1221 y1222 w = some w' → ∀ (T : ai_H), ai_ev D1 marr_fill 5 [some (.ref 22), some (.int y1220), some (.int y1221), some (.int y1222)] [] (HX w T) 0 0 (none, HX w' T)) := by
  intro n
  induction n with
  | zero =>
    exact (fun _ _ _ _ _ h => by cases h)
  | succ n ih0 =>
    intro y1220 y1221 y1222 w w' h T
    simp only [Garr_fill_22] at h
    refine ev_go 2 (pc' := 7) (L' := [some (.ref 22), some (.int y1220), some (.int y1221), some (.int y1222)]) (st' := [.int y1222, .int y1221]) (h' := (HX w T)) (cs' := 0) (sl' := 0) rfl ?_
    rcases ai_ifE h with ⟨hc, h⟩ | ⟨hc, h⟩
    · refine ev_ic_ge (t := 20) rfl rfl (fun _ => ?_) (fun c9 => absurd hc c9)
      obtain rfl := Option.some.inj h
      exact ev_end rfl
    · refine ev_ic_ge (t := 20) rfl rfl (fun c9 => absurd c9 hc) (fun _ => ?_)
      refine ev_go 3 (pc' := 13) (L' := [some (.ref 22), some (.int y1220), some (.int y1221), some (.int y1222)]) (st' := [.int y1220, .int y1221, .ref 22]) (h' := (HX w T)) (cs' := 0) (sl' := 0) rfl ?_
      obtain ⟨q1223, hq, h⟩ := ai_bdE h
      refine ev_iast rfl rfl hq ?_
      rw [HXs_22]
      refine ev_go 2 (pc' := 5) (L' := [some (.ref 22), some (.int y1220), some (.int (y1221 + 1)), some (.int y1222)]) (st' := []) (h' := (HX (u_s2_currents w q1223) T)) (cs' := 0) (sl' := 0) rfl ?_
      exact ih0 _ _ _ _ _ h T
set_option maxHeartbeats 40000000 in
set_option maxRecDepth 100000 in
theorem Earr_fill_22 (n : Nat) (x1219 : Int32) (w : WX) (w' : WX) (h : Farr_fill_22 n x1219 w = some w') (T : ai_H) : ai_ev D1 marr_fill 0 [some (.ref 22), some (.int x1219), none, none] [] (HX w T) 0 0 (none, HX w' T) := by
  unfold Farr_fill_22 at h
  have ih0 := EGarr_fill_22 n
  refine ev_go 5 (pc' := 5) (L' := [some (.ref 22), some (.int x1219), some (.int 0), some (.int (Int32.ofNat (List.length (a_s2_currents w))))]) (st' := []) (h' := (HX w T)) (cs' := 0) (sl' := 0) rfl ?_
  exact ih0 _ _ _ _ _ h T
set_option maxHeartbeats 40000000 in
set_option maxRecDepth 100000 in
theorem EGarr_fill_23 : ∀ n : Nat, (∀ (y1226 : Int32) (y1227 : Int32) (y1228 : Int32) (w : WX) (w' : WX), Garr_fill_23 n 0 y1226 y1227 y1228 w = some w' → ∀ (T : ai_H), ai_ev D1 marr_fill 5 [some (.ref 23), some (.int y1226), some (.int y1227), some (.int y1228)] [] (HX w T) 0 0 (none, HX w' T)) := by
  intro n
  induction n with
  | zero =>
    exact (fun _ _ _ _ _ h => by cases h)
  | succ n ih0 =>
    intro y1226 y1227 y1228 w w' h T
    simp only [Garr_fill_23] at h
    refine ev_go 2 (pc' := 7) (L' := [some (.ref 23), some (.int y1226), some (.int y1227), some (.int y1228)]) (st' := [.int y1228, .int y1227]) (h' := (HX w T)) (cs' := 0) (sl' := 0) rfl ?_
    rcases ai_ifE h with ⟨hc, h⟩ | ⟨hc, h⟩
    · refine ev_ic_ge (t := 20) rfl rfl (fun _ => ?_) (fun c9 => absurd hc c9)
      obtain rfl := Option.some.inj h
      exact ev_end rfl
    · refine ev_ic_ge (t := 20) rfl rfl (fun c9 => absurd c9 hc) (fun _ => ?_)
      refine ev_go 3 (pc' := 13) (L' := [some (.ref 23), some (.int y1226), some (.int y1227), some (.int y1228)]) (st' := [.int y1226, .int y1227, .ref 23]) (h' := (HX w T)) (cs' := 0) (sl' := 0) rfl ?_
      obtain ⟨q1229, hq, h⟩ := ai_bdE h
      refine ev_iast rfl rfl hq ?_
      rw [HXs_23]
      refine ev_go 2 (pc' := 5) (L' := [some (.ref 23), some (.int y1226), some (.int (y1227 + 1)), some (.int y1228)]) (st' := []) (h' := (HX (u_s2_tides w q1229) T)) (cs' := 0) (sl' := 0) rfl ?_
      exact ih0 _ _ _ _ _ h T
set_option maxHeartbeats 40000000 in
set_option maxRecDepth 100000 in
theorem Earr_fill_23 (n : Nat) (x1225 : Int32) (w : WX) (w' : WX) (h : Farr_fill_23 n x1225 w = some w') (T : ai_H) : ai_ev D1 marr_fill 0 [some (.ref 23), some (.int x1225), none, none] [] (HX w T) 0 0 (none, HX w' T) := by
  unfold Farr_fill_23 at h
  have ih0 := EGarr_fill_23 n
  refine ev_go 5 (pc' := 5) (L' := [some (.ref 23), some (.int x1225), some (.int 0), some (.int (Int32.ofNat (List.length (a_s2_tides w))))]) (st' := []) (h' := (HX w T)) (cs' := 0) (sl' := 0) rfl ?_
  exact ih0 _ _ _ _ _ h T
set_option maxHeartbeats 40000000 in
set_option maxRecDepth 100000 in
theorem EGarr_fill_24 : ∀ n : Nat, (∀ (y1232 : Int32) (y1233 : Int32) (y1234 : Int32) (w : WX) (w' : WX), Garr_fill_24 n 0 y1232 y1233 y1234 w = some w' → ∀ (T : ai_H), ai_ev D1 marr_fill 5 [some (.ref 24), some (.int y1232), some (.int y1233), some (.int y1234)] [] (HX w T) 0 0 (none, HX w' T)) := by
  intro n
  induction n with
  | zero =>
    exact (fun _ _ _ _ _ h => by cases h)
  | succ n ih0 =>
    intro y1232 y1233 y1234 w w' h T
    simp only [Garr_fill_24] at h
    refine ev_go 2 (pc' := 7) (L' := [some (.ref 24), some (.int y1232), some (.int y1233), some (.int y1234)]) (st' := [.int y1234, .int y1233]) (h' := (HX w T)) (cs' := 0) (sl' := 0) rfl ?_
    rcases ai_ifE h with ⟨hc, h⟩ | ⟨hc, h⟩
    · refine ev_ic_ge (t := 20) rfl rfl (fun _ => ?_) (fun c9 => absurd hc c9)
      obtain rfl := Option.some.inj h
      exact ev_end rfl
    · refine ev_ic_ge (t := 20) rfl rfl (fun c9 => absurd c9 hc) (fun _ => ?_)
      refine ev_go 3 (pc' := 13) (L' := [some (.ref 24), some (.int y1232), some (.int y1233), some (.int y1234)]) (st' := [.int y1232, .int y1233, .ref 24]) (h' := (HX w T)) (cs' := 0) (sl' := 0) rfl ?_
      obtain ⟨q1235, hq, h⟩ := ai_bdE h
      refine ev_iast rfl rfl hq ?_
      rw [HXs_24]
      refine ev_go 2 (pc' := 5) (L' := [some (.ref 24), some (.int y1232), some (.int (y1233 + 1)), some (.int y1234)]) (st' := []) (h' := (HX (u_s2_thicks w q1235) T)) (cs' := 0) (sl' := 0) rfl ?_
      exact ih0 _ _ _ _ _ h T
set_option maxHeartbeats 40000000 in
set_option maxRecDepth 100000 in
theorem Earr_fill_24 (n : Nat) (x1231 : Int32) (w : WX) (w' : WX) (h : Farr_fill_24 n x1231 w = some w') (T : ai_H) : ai_ev D1 marr_fill 0 [some (.ref 24), some (.int x1231), none, none] [] (HX w T) 0 0 (none, HX w' T) := by
  unfold Farr_fill_24 at h
  have ih0 := EGarr_fill_24 n
  refine ev_go 5 (pc' := 5) (L' := [some (.ref 24), some (.int x1231), some (.int 0), some (.int (Int32.ofNat (List.length (a_s2_thicks w))))]) (st' := []) (h' := (HX w T)) (cs' := 0) (sl' := 0) rfl ?_
  exact ih0 _ _ _ _ _ h T
