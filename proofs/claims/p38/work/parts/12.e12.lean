set_option maxHeartbeats 40000000 in
set_option maxRecDepth 100000 in
theorem EGarr_fill_25 : ∀ n : Nat, (∀ (y1238 : Int32) (y1239 : Int32) (y1240 : Int32) (w : WX) (w' : WX), Garr_fill_25 n 0 y1238 y1239 y1240 w = some w' → ∀ (T : ai_H), ai_ev D1 marr_fill 5 [some (.ref 25), some (.int y1238), some (.int y1239), some (.int y1240)] [] (HX w T) 0 0 (none, HX w' T)) := by
  intro n
  induction n with
  | zero =>
    exact (fun _ _ _ _ _ h => by cases h)
  | succ n ih0 =>
    intro y1238 y1239 y1240 w w' h T
    simp only [Garr_fill_25] at h
    refine ev_go 2 (pc' := 7) (L' := [some (.ref 25), some (.int y1238), some (.int y1239), some (.int y1240)]) (st' := [.int y1240, .int y1239]) (h' := (HX w T)) (cs' := 0) (sl' := 0) rfl ?_
    rcases ai_ifE h with ⟨hc, h⟩ | ⟨hc, h⟩
    · refine ev_ic_ge (t := 20) rfl rfl (fun _ => ?_) (fun c9 => absurd hc c9)
      obtain rfl := Option.some.inj h
      exact ev_end rfl
    · refine ev_ic_ge (t := 20) rfl rfl (fun c9 => absurd c9 hc) (fun _ => ?_)
      refine ev_go 3 (pc' := 13) (L' := [some (.ref 25), some (.int y1238), some (.int y1239), some (.int y1240)]) (st' := [.int y1238, .int y1239, .ref 25]) (h' := (HX w T)) (cs' := 0) (sl' := 0) rfl ?_
      obtain ⟨q1241, hq, h⟩ := ai_bdE h
      refine ev_iast rfl rfl hq ?_
      rw [HXs_25]
      refine ev_go 2 (pc' := 5) (L' := [some (.ref 25), some (.int y1238), some (.int (y1239 + 1)), some (.int y1240)]) (st' := []) (h' := (HX (u_s2_skins w q1241) T)) (cs' := 0) (sl' := 0) rfl ?_
      exact ih0 _ _ _ _ _ h T
set_option maxHeartbeats 40000000 in
set_option maxRecDepth 100000 in
theorem Earr_fill_25 (n : Nat) (x1237 : Int32) (w : WX) (w' : WX) (h : Farr_fill_25 n x1237 w = some w') (T : ai_H) : ai_ev D1 marr_fill 0 [some (.ref 25), some (.int x1237), none, none] [] (HX w T) 0 0 (none, HX w' T) := by
  unfold Farr_fill_25 at h
  have ih0 := EGarr_fill_25 n
  refine ev_go 5 (pc' := 5) (L' := [some (.ref 25), some (.int x1237), some (.int 0), some (.int (Int32.ofNat (List.length (a_s2_skins w))))]) (st' := []) (h' := (HX w T)) (cs' := 0) (sl' := 0) rfl ?_
  exact ih0 _ _ _ _ _ h T
set_option maxHeartbeats 40000000 in
set_option maxRecDepth 100000 in
theorem Esea_startAnew_20 (n : Nat) (x1216 : Int32) (w : WX) (r : Int32) (w' : WX) (h : Fsea_startAnew_20 n x1216 w = some (r, w')) (T : ai_H) : ai_ev D1 msea_startAnew 0 [some (.ref 20), some (.int x1216), none] [] (HX w T) 0 0 (some (.int r), HX w' T) := by
  unfold Fsea_startAnew_20 at h
  refine ev_go 3 (pc' := 4) (L' := [some (.ref 20), some (.int x1216), none]) (st' := [.int 6, .int 1, .int x1216]) (h' := (HX w T)) (cs' := 0) (sl' := 0) rfl ?_
  obtain ⟨c1217, hq, h⟩ := ai_bdE h
  refine ev_call (M' := mf_within) (L' := [some (.int x1216), some (.int 1), some (.int 6)]) (rest := []) (rv := some (.int c1217)) (h' := (HX w T)) rfl (Ef_within x1216 1 6 _ hq (HX w T)) ?_
  show ai_ev D1 msea_startAnew 7 [some (.ref 20), some (.int x1216), none] [.int c1217] (HX w T) 0 0 _
  rcases ai_ifE h with ⟨hc, h⟩ | ⟨hc, h⟩
  · refine ev_if_ne (t := 13) rfl rfl (fun c9 => absurd hc c9) (fun _ => ?_)
    refine ev_go 1 (pc' := 12) (L' := [some (.ref 20), some (.int x1216), none]) (st' := [.int (-2)]) (h' := (HX w T)) (cs' := 0) (sl' := 0) rfl ?_
    obtain ⟨rfl, rfl⟩ := ai_smP h
    exact ev_end rfl
  · refine ev_if_ne (t := 13) rfl rfl (fun _ => ?_) (fun c9 => absurd c9 hc)
    refine ev_go 5 (pc' := 20) (L' := [some (.ref 20), some (.int x1216), some (.int (a_s2_cells w))]) (st' := [.int x1216, .ref 20]) (h' := (HX w T)) (cs' := 0) (sl' := 0) rfl ?_
    refine ev_step rfl rfl rfl (PFX_2_9_20 rfl) ?_
    refine ev_go 2 (pc' := 25) (L' := [some (.ref 20), some (.int x1216), some (.int (a_s2_cells w))]) (st' := [.int 0, .ref 20]) (h' := (HX (u_s2_cells w x1216) T)) (cs' := 0) (sl' := 0) rfl ?_
    refine ev_step rfl rfl rfl (PFX_2_15_20 rfl) ?_
    refine ev_go 2 (pc' := 30) (L' := [some (.ref 20), some (.int x1216), some (.int (a_s2_cells w))]) (st' := [.int 0, .ref 20]) (h' := (HX (u_s2_hour (u_s2_cells w x1216) 0) T)) (cs' := 0) (sl' := 0) rfl ?_
    refine ev_step rfl rfl rfl (PFX_2_18_20 rfl) ?_
    refine ev_go 6 (pc' := 43) (L' := [some (.ref 20), some (.int x1216), some (.int (a_s2_cells w))]) (st' := [.int 4, .int 0, .ref 21, .int 0, .retAddr 0]) (h' := (HX (u_s2_dams (u_s2_hour (u_s2_cells w x1216) 0) 0) T)) (cs' := 0) (sl' := 0) rfl ?_
    obtain ⟨q1218, hq, h⟩ := ai_bdE h
    refine ev_cpx rfl rfl rfl rfl rfl rfl hq ?_
    rw [HXs_21]
    refine ev_go 3 (pc' := 51) (L' := [some (.ref 20), some (.int x1216), some (.int (a_s2_cells w))]) (st' := [.int 0, .ref 22]) (h' := (HX (u_s2_densities (u_s2_dams (u_s2_hour (u_s2_cells w x1216) 0) 0) q1218) T)) (cs' := 0) (sl' := 0) rfl ?_
    obtain ⟨c1224, hq, h⟩ := ai_bdE h
    refine ev_call (M' := marr_fill) (L' := [some (.ref 22), some (.int 0), none, none]) (rest := []) (rv := none) (h' := (HX c1224 T)) rfl (Earr_fill_22 n 0 (u_s2_densities (u_s2_dams (u_s2_hour (u_s2_cells w x1216) 0) 0) q1218) _ hq T) ?_
    show ai_ev D1 msea_startAnew 54 [some (.ref 20), some (.int x1216), some (.int (a_s2_cells w))] [] (HX c1224 T) 0 0 _
    refine ev_go 3 (pc' := 59) (L' := [some (.ref 20), some (.int x1216), some (.int (a_s2_cells w))]) (st' := [.int 0, .ref 23]) (h' := (HX c1224 T)) (cs' := 0) (sl' := 0) rfl ?_
    obtain ⟨c1230, hq, h⟩ := ai_bdE h
    refine ev_call (M' := marr_fill) (L' := [some (.ref 23), some (.int 0), none, none]) (rest := []) (rv := none) (h' := (HX c1230 T)) rfl (Earr_fill_23 n 0 c1224 _ hq T) ?_
    show ai_ev D1 msea_startAnew 62 [some (.ref 20), some (.int x1216), some (.int (a_s2_cells w))] [] (HX c1230 T) 0 0 _
    refine ev_go 3 (pc' := 67) (L' := [some (.ref 20), some (.int x1216), some (.int (a_s2_cells w))]) (st' := [.int 3, .ref 24]) (h' := (HX c1230 T)) (cs' := 0) (sl' := 0) rfl ?_
    obtain ⟨c1236, hq, h⟩ := ai_bdE h
    refine ev_call (M' := marr_fill) (L' := [some (.ref 24), some (.int 3), none, none]) (rest := []) (rv := none) (h' := (HX c1236 T)) rfl (Earr_fill_24 n 3 c1230 _ hq T) ?_
    show ai_ev D1 msea_startAnew 70 [some (.ref 20), some (.int x1216), some (.int (a_s2_cells w))] [] (HX c1236 T) 0 0 _
    refine ev_go 3 (pc' := 75) (L' := [some (.ref 20), some (.int x1216), some (.int (a_s2_cells w))]) (st' := [.int 0, .ref 25]) (h' := (HX c1236 T)) (cs' := 0) (sl' := 0) rfl ?_
    obtain ⟨c1242, hq, h⟩ := ai_bdE h
    refine ev_call (M' := marr_fill) (L' := [some (.ref 25), some (.int 0), none, none]) (rest := []) (rv := none) (h' := (HX c1242 T)) rfl (Earr_fill_25 n 0 c1236 _ hq T) ?_
    show ai_ev D1 msea_startAnew 78 [some (.ref 20), some (.int x1216), some (.int (a_s2_cells w))] [] (HX c1242 T) 0 0 _
    refine ev_go 3 (pc' := 83) (L' := [some (.ref 20), some (.int x1216), some (.int (a_s2_cells w))]) (st' := [.int 0, .ref 26]) (h' := (HX c1242 T)) (cs' := 0) (sl' := 0) rfl ?_
    refine ev_step rfl rfl rfl (PFX_2_95_26 rfl) ?_
    refine ev_go 3 (pc' := 91) (L' := [some (.ref 20), some (.int x1216), some (.int (a_s2_cells w))]) (st' := [.int 0, .ref 31]) (h' := (HX (u_s2things_count c1242 0) T)) (cs' := 0) (sl' := 0) rfl ?_
    refine ev_step rfl rfl rfl (PFX_2_98_31 rfl) ?_
    refine ev_go 2 (pc' := 96) (L' := [some (.ref 20), some (.int x1216), some (.int (a_s2_cells w))]) (st' := [.int 0, .ref 20]) (h' := (HX (u_s2lifts_count (u_s2things_count c1242 0) 0) T)) (cs' := 0) (sl' := 0) rfl ?_
    refine ev_step rfl rfl rfl (PFX_2_51_20 rfl) ?_
    refine ev_go 2 (pc' := 101) (L' := [some (.ref 20), some (.int x1216), some (.int (a_s2_cells w))]) (st' := [.int 0, .ref 20]) (h' := (HX (u_s2_towns (u_s2lifts_count (u_s2things_count c1242 0) 0) 0) T)) (cs' := 0) (sl' := 0) rfl ?_
    refine ev_step rfl rfl rfl (PFX_2_57_20 rfl) ?_
    refine ev_go 2 (pc' := 106) (L' := [some (.ref 20), some (.int x1216), some (.int (a_s2_cells w))]) (st' := [.int 0, .ref 20]) (h' := (HX (u_s2_drops (u_s2_towns (u_s2lifts_count (u_s2things_count c1242 0) 0) 0) 0) T)) (cs' := 0) (sl' := 0) rfl ?_
    refine ev_step rfl rfl rfl (PFX_2_66_20 rfl) ?_
    refine ev_go 1 (pc' := 110) (L' := [some (.ref 20), some (.int x1216), some (.int (a_s2_cells w))]) (st' := [.int (a_s2_cells w)]) (h' := (HX (u_s2_undos (u_s2_drops (u_s2_towns (u_s2lifts_count (u_s2things_count c1242 0) 0) 0) 0) 0) T)) (cs' := 0) (sl' := 0) rfl ?_
    obtain ⟨rfl, rfl⟩ := ai_smP h
    exact ev_end rfl
set_option maxHeartbeats 40000000 in
set_option maxRecDepth 100000 in
theorem Esea_putDensity_20 (x1246 : Int32) (x1247 : Int32) (w : WX) (r : Int32) (w' : WX) (h : Fsea_putDensity_20 x1246 x1247 w = some (r, w')) (T : ai_H) : ai_ev D1 msea_putDensity 0 [some (.ref 20), some (.int x1246), some (.int x1247), none, none, none] [] (HX w T) 0 0 (some (.int r), HX w' T) := by
  unfold Fsea_putDensity_20 at h
  refine ev_go 1 (pc' := 1) (L' := [some (.ref 20), some (.int x1246), some (.int x1247), none, none, none]) (st' := [.int x1246]) (h' := (HX w T)) (cs' := 0) (sl' := 0) rfl ?_
  obtain ⟨c1248, hq, h⟩ := ai_bdE h
  refine ev_call (M' := mf_isLayer) (L' := [some (.int x1246)]) (rest := []) (rv := some (.int c1248)) (h' := (HX w T)) rfl (Ef_isLayer x1246 _ hq (HX w T)) ?_
  show ai_ev D1 msea_putDensity 4 [some (.ref 20), some (.int x1246), some (.int x1247), none, none, none] [.int c1248] (HX w T) 0 0 _
  rcases ai_ifE h with ⟨hc, h⟩ | ⟨hc, h⟩
  · refine ev_if_eq (t := 17) rfl rfl (fun _ => ?_) (fun c9 => absurd hc c9)
    refine ev_go 1 (pc' := 19) (L' := [some (.ref 20), some (.int x1246), some (.int x1247), none, none, none]) (st' := [.int (-2)]) (h' := (HX w T)) (cs' := 0) (sl' := 0) rfl ?_
    obtain ⟨rfl, rfl⟩ := ai_smP h
    exact ev_end rfl
  · refine ev_if_eq (t := 17) rfl rfl (fun c9 => absurd c9 hc) (fun _ => ?_)
    refine ev_go 3 (pc' := 11) (L' := [some (.ref 20), some (.int x1246), some (.int x1247), none, none, none]) (st' := [.int 99, .int 1, .int x1247]) (h' := (HX w T)) (cs' := 0) (sl' := 0) rfl ?_
    obtain ⟨c1249, hq, h⟩ := ai_bdE h
    refine ev_call (M' := mf_within) (L' := [some (.int x1247), some (.int 1), some (.int 99)]) (rest := []) (rv := some (.int c1249)) (h' := (HX w T)) rfl (Ef_within x1247 1 99 _ hq (HX w T)) ?_
    show ai_ev D1 msea_putDensity 14 [some (.ref 20), some (.int x1246), some (.int x1247), none, none, none] [.int c1249] (HX w T) 0 0 _
    rcases ai_ifE h with ⟨hc, h⟩ | ⟨hc, h⟩
    · refine ev_if_ne (t := 20) rfl rfl (fun c9 => absurd hc c9) (fun _ => ?_)
      refine ev_go 1 (pc' := 19) (L' := [some (.ref 20), some (.int x1246), some (.int x1247), none, none, none]) (st' := [.int (-2)]) (h' := (HX w T)) (cs' := 0) (sl' := 0) rfl ?_
      obtain ⟨rfl, rfl⟩ := ai_smP h
      exact ev_end rfl
    · refine ev_if_ne (t := 20) rfl rfl (fun _ => ?_) (fun c9 => absurd c9 hc)
      refine ev_go 1 (pc' := 21) (L' := [some (.ref 20), some (.int x1246), some (.int x1247), none, none, none]) (st' := [.int x1246]) (h' := (HX w T)) (cs' := 0) (sl' := 0) rfl ?_
      rcases ai_ifE h with ⟨hc, h⟩ | ⟨hc, h⟩
      · refine ev_if_eq (t := 36) rfl rfl (fun _ => ?_) (fun c9 => absurd hc c9)
        refine ev_go 5 (pc' := 44) (L' := [some (.ref 20), some (.int x1246), some (.int x1247), some (.int 1), none, none]) (st' := [.int 3, .int x1246]) (h' := (HX w T)) (cs' := 0) (sl' := 0) rfl ?_
        rcases ai_ifE h with ⟨hc, h⟩ | ⟨hc, h⟩
        · refine ev_ic_eq (t := 59) rfl rfl (fun _ => ?_) (fun c9 => absurd hc c9)
          refine ev_go 10 (pc' := 83) (L' := [some (.ref 20), some (.int x1246), some (.int x1247), some (.int 1), some (.int 1), none]) (st' := [.int x1246, .ref 21]) (h' := (HX w T)) (cs' := 0) (sl' := 0) rfl ?_
          obtain ⟨v1250, hq, h⟩ := ai_bdE h
          refine ev_iald rfl rfl hq ?_
          refine ev_go 5 (pc' := 92) (L' := [some (.ref 20), some (.int x1246), some (.int x1247), some (.int 1), some (.int 1), some (.int v1250)]) (st' := [.int x1247, .int x1246, .ref 21]) (h' := (HX w T)) (cs' := 0) (sl' := 0) rfl ?_
          obtain ⟨q1251, hq, h⟩ := ai_bdE h
          refine ev_iast rfl rfl hq ?_
          rw [HXs_21]
          refine ev_go 1 (pc' := 95) (L' := [some (.ref 20), some (.int x1246), some (.int x1247), some (.int 1), some (.int 1), some (.int v1250)]) (st' := [.int v1250]) (h' := (HX (u_s2_densities w q1251) T)) (cs' := 0) (sl' := 0) rfl ?_
          obtain ⟨rfl, rfl⟩ := ai_smP h
          exact ev_end rfl
        · refine ev_ic_eq (t := 59) rfl rfl (fun c9 => absurd c9 hc) (fun _ => ?_)
          refine ev_go 5 (pc' := 54) (L' := [some (.ref 20), some (.int x1246), some (.int x1247), some (.int 1), none, none]) (st' := [.int (x1246 + 1), .ref 21]) (h' := (HX w T)) (cs' := 0) (sl' := 0) rfl ?_
          obtain ⟨v1252, hq, h⟩ := ai_bdE h
          refine ev_iald rfl rfl hq ?_
          refine ev_go 1 (pc' := 56) (L' := [some (.ref 20), some (.int x1246), some (.int x1247), some (.int 1), none, none]) (st' := [.int x1247, .int v1252]) (h' := (HX w T)) (cs' := 0) (sl' := 0) rfl ?_
          rcases ai_ifE h with ⟨hc, h⟩ | ⟨hc, h⟩
          · refine ev_ic_le (t := 63) rfl rfl (fun _ => ?_) (fun c9 => absurd hc c9)
            refine ev_go 7 (pc' := 77) (L' := [some (.ref 20), some (.int x1246), some (.int x1247), some (.int 1), some (.int 0), none]) (st' := [.int (-3)]) (h' := (HX w T)) (cs' := 0) (sl' := 0) rfl ?_
            obtain ⟨rfl, rfl⟩ := ai_smP h
            exact ev_end rfl
          · refine ev_ic_le (t := 63) rfl rfl (fun c9 => absurd c9 hc) (fun _ => ?_)
            refine ev_go 10 (pc' := 83) (L' := [some (.ref 20), some (.int x1246), some (.int x1247), some (.int 1), some (.int 1), none]) (st' := [.int x1246, .ref 21]) (h' := (HX w T)) (cs' := 0) (sl' := 0) rfl ?_
            obtain ⟨v1253, hq, h⟩ := ai_bdE h
            refine ev_iald rfl rfl hq ?_
            refine ev_go 5 (pc' := 92) (L' := [some (.ref 20), some (.int x1246), some (.int x1247), some (.int 1), some (.int 1), some (.int v1253)]) (st' := [.int x1247, .int x1246, .ref 21]) (h' := (HX w T)) (cs' := 0) (sl' := 0) rfl ?_
            obtain ⟨q1254, hq, h⟩ := ai_bdE h
            refine ev_iast rfl rfl hq ?_
            rw [HXs_21]
            refine ev_go 1 (pc' := 95) (L' := [some (.ref 20), some (.int x1246), some (.int x1247), some (.int 1), some (.int 1), some (.int v1253)]) (st' := [.int v1253]) (h' := (HX (u_s2_densities w q1254) T)) (cs' := 0) (sl' := 0) rfl ?_
            obtain ⟨rfl, rfl⟩ := ai_smP h
            exact ev_end rfl
      · refine ev_if_eq (t := 36) rfl rfl (fun c9 => absurd c9 hc) (fun _ => ?_)
        refine ev_go 5 (pc' := 31) (L' := [some (.ref 20), some (.int x1246), some (.int x1247), none, none, none]) (st' := [.int (x1246 - 1), .ref 21]) (h' := (HX w T)) (cs' := 0) (sl' := 0) rfl ?_
        obtain ⟨v1255, hq, h⟩ := ai_bdE h
        refine ev_iald rfl rfl hq ?_
        refine ev_go 1 (pc' := 33) (L' := [some (.ref 20), some (.int x1246), some (.int x1247), none, none, none]) (st' := [.int x1247, .int v1255]) (h' := (HX w T)) (cs' := 0) (sl' := 0) rfl ?_
        rcases ai_ifE h with ⟨hc, h⟩ | ⟨hc, h⟩
        · refine ev_ic_ge (t := 40) rfl rfl (fun _ => ?_) (fun c9 => absurd hc c9)
          refine ev_go 4 (pc' := 44) (L' := [some (.ref 20), some (.int x1246), some (.int x1247), some (.int 0), none, none]) (st' := [.int 3, .int x1246]) (h' := (HX w T)) (cs' := 0) (sl' := 0) rfl ?_
          rcases ai_ifE h with ⟨hc, h⟩ | ⟨hc, h⟩
          · refine ev_ic_eq (t := 59) rfl rfl (fun _ => ?_) (fun c9 => absurd hc c9)
            refine ev_go 6 (pc' := 77) (L' := [some (.ref 20), some (.int x1246), some (.int x1247), some (.int 0), some (.int 1), none]) (st' := [.int (-3)]) (h' := (HX w T)) (cs' := 0) (sl' := 0) rfl ?_
            obtain ⟨rfl, rfl⟩ := ai_smP h
            exact ev_end rfl
          · refine ev_ic_eq (t := 59) rfl rfl (fun c9 => absurd c9 hc) (fun _ => ?_)
            refine ev_go 5 (pc' := 54) (L' := [some (.ref 20), some (.int x1246), some (.int x1247), some (.int 0), none, none]) (st' := [.int (x1246 + 1), .ref 21]) (h' := (HX w T)) (cs' := 0) (sl' := 0) rfl ?_
            obtain ⟨v1256, hq, h⟩ := ai_bdE h
            refine ev_iald rfl rfl hq ?_
            refine ev_go 1 (pc' := 56) (L' := [some (.ref 20), some (.int x1246), some (.int x1247), some (.int 0), none, none]) (st' := [.int x1247, .int v1256]) (h' := (HX w T)) (cs' := 0) (sl' := 0) rfl ?_
            rcases ai_ifE h with ⟨hc, h⟩ | ⟨hc, h⟩
            · refine ev_ic_le (t := 63) rfl rfl (fun _ => ?_) (fun c9 => absurd hc c9)
              refine ev_go 5 (pc' := 77) (L' := [some (.ref 20), some (.int x1246), some (.int x1247), some (.int 0), some (.int 0), none]) (st' := [.int (-3)]) (h' := (HX w T)) (cs' := 0) (sl' := 0) rfl ?_
              obtain ⟨rfl, rfl⟩ := ai_smP h
              exact ev_end rfl
            · refine ev_ic_le (t := 63) rfl rfl (fun c9 => absurd c9 hc) (fun _ => ?_)
              refine ev_go 6 (pc' := 77) (L' := [some (.ref 20), some (.int x1246), some (.int x1247), some (.int 0), some (.int 1), none]) (st' := [.int (-3)]) (h' := (HX w T)) (cs' := 0) (sl' := 0) rfl ?_
              obtain ⟨rfl, rfl⟩ := ai_smP h
              exact ev_end rfl
        · refine ev_ic_ge (t := 40) rfl rfl (fun c9 => absurd c9 hc) (fun _ => ?_)
          refine ev_go 5 (pc' := 44) (L' := [some (.ref 20), some (.int x1246), some (.int x1247), some (.int 1), none, none]) (st' := [.int 3, .int x1246]) (h' := (HX w T)) (cs' := 0) (sl' := 0) rfl ?_
          rcases ai_ifE h with ⟨hc, h⟩ | ⟨hc, h⟩
          · refine ev_ic_eq (t := 59) rfl rfl (fun _ => ?_) (fun c9 => absurd hc c9)
            refine ev_go 10 (pc' := 83) (L' := [some (.ref 20), some (.int x1246), some (.int x1247), some (.int 1), some (.int 1), none]) (st' := [.int x1246, .ref 21]) (h' := (HX w T)) (cs' := 0) (sl' := 0) rfl ?_
            obtain ⟨v1257, hq, h⟩ := ai_bdE h
            refine ev_iald rfl rfl hq ?_
            refine ev_go 5 (pc' := 92) (L' := [some (.ref 20), some (.int x1246), some (.int x1247), some (.int 1), some (.int 1), some (.int v1257)]) (st' := [.int x1247, .int x1246, .ref 21]) (h' := (HX w T)) (cs' := 0) (sl' := 0) rfl ?_
            obtain ⟨q1258, hq, h⟩ := ai_bdE h
            refine ev_iast rfl rfl hq ?_
            rw [HXs_21]
            refine ev_go 1 (pc' := 95) (L' := [some (.ref 20), some (.int x1246), some (.int x1247), some (.int 1), some (.int 1), some (.int v1257)]) (st' := [.int v1257]) (h' := (HX (u_s2_densities w q1258) T)) (cs' := 0) (sl' := 0) rfl ?_
            obtain ⟨rfl, rfl⟩ := ai_smP h
            exact ev_end rfl
          · refine ev_ic_eq (t := 59) rfl rfl (fun c9 => absurd c9 hc) (fun _ => ?_)
            refine ev_go 5 (pc' := 54) (L' := [some (.ref 20), some (.int x1246), some (.int x1247), some (.int 1), none, none]) (st' := [.int (x1246 + 1), .ref 21]) (h' := (HX w T)) (cs' := 0) (sl' := 0) rfl ?_
            obtain ⟨v1259, hq, h⟩ := ai_bdE h
            refine ev_iald rfl rfl hq ?_
            refine ev_go 1 (pc' := 56) (L' := [some (.ref 20), some (.int x1246), some (.int x1247), some (.int 1), none, none]) (st' := [.int x1247, .int v1259]) (h' := (HX w T)) (cs' := 0) (sl' := 0) rfl ?_
            rcases ai_ifE h with ⟨hc, h⟩ | ⟨hc, h⟩
            · refine ev_ic_le (t := 63) rfl rfl (fun _ => ?_) (fun c9 => absurd hc c9)
              refine ev_go 7 (pc' := 77) (L' := [some (.ref 20), some (.int x1246), some (.int x1247), some (.int 1), some (.int 0), none]) (st' := [.int (-3)]) (h' := (HX w T)) (cs' := 0) (sl' := 0) rfl ?_
              obtain ⟨rfl, rfl⟩ := ai_smP h
              exact ev_end rfl
            · refine ev_ic_le (t := 63) rfl rfl (fun c9 => absurd c9 hc) (fun _ => ?_)
              refine ev_go 10 (pc' := 83) (L' := [some (.ref 20), some (.int x1246), some (.int x1247), some (.int 1), some (.int 1), none]) (st' := [.int x1246, .ref 21]) (h' := (HX w T)) (cs' := 0) (sl' := 0) rfl ?_
              obtain ⟨v1260, hq, h⟩ := ai_bdE h
              refine ev_iald rfl rfl hq ?_
              refine ev_go 5 (pc' := 92) (L' := [some (.ref 20), some (.int x1246), some (.int x1247), some (.int 1), some (.int 1), some (.int v1260)]) (st' := [.int x1247, .int x1246, .ref 21]) (h' := (HX w T)) (cs' := 0) (sl' := 0) rfl ?_
              obtain ⟨q1261, hq, h⟩ := ai_bdE h
              refine ev_iast rfl rfl hq ?_
              rw [HXs_21]
              refine ev_go 1 (pc' := 95) (L' := [some (.ref 20), some (.int x1246), some (.int x1247), some (.int 1), some (.int 1), some (.int v1260)]) (st' := [.int v1260]) (h' := (HX (u_s2_densities w q1261) T)) (cs' := 0) (sl' := 0) rfl ?_
              obtain ⟨rfl, rfl⟩ := ai_smP h
              exact ev_end rfl
set_option maxHeartbeats 40000000 in
set_option maxRecDepth 100000 in
theorem Esea_hasCell_20 (x1270 : Int32) (w : WX) (r : Int32) (w' : WX) (h : Fsea_hasCell_20 x1270 w = some (r, w')) (T : ai_H) : ai_ev D1 msea_hasCell 0 [some (.ref 20), some (.int x1270)] [] (HX w T) 0 0 (some (.int r), HX w' T) := by
  unfold Fsea_hasCell_20 at h
  refine ev_go 6 (pc' := 8) (L' := [some (.ref 20), some (.int x1270)]) (st' := [.int ((a_s2_cells w) - 1), .int 0, .int x1270]) (h' := (HX w T)) (cs' := 0) (sl' := 0) rfl ?_
  obtain ⟨c1271, hq, h⟩ := ai_bdE h
  refine ev_call (M' := mf_within) (L' := [some (.int x1270), some (.int 0), some (.int ((a_s2_cells w) - 1))]) (rest := []) (rv := some (.int c1271)) (h' := (HX w T)) rfl (Ef_within x1270 0 ((a_s2_cells w) - 1) _ hq (HX w T)) ?_
  show ai_ev D1 msea_hasCell 11 [some (.ref 20), some (.int x1270)] [.int c1271] (HX w T) 0 0 _
  obtain ⟨hv, h⟩ := ai_ifS h
  obtain ⟨rfl, rfl⟩ := ai_smP h
  exact ev_zend rfl rfl rfl hv
set_option maxHeartbeats 40000000 in
set_option maxRecDepth 100000 in
theorem Esea_putThick_20 (x1266 : Int32) (x1267 : Int32) (x1268 : Int32) (w : WX) (r : Int32) (w' : WX) (h : Fsea_putThick_20 x1266 x1267 x1268 w = some (r, w')) (T : ai_H) : ai_ev D1 msea_putThick 0 [some (.ref 20), some (.int x1266), some (.int x1267), some (.int x1268), none, none] [] (HX w T) 0 0 (some (.int r), HX w' T) := by
  unfold Fsea_putThick_20 at h
  refine ev_go 1 (pc' := 1) (L' := [some (.ref 20), some (.int x1266), some (.int x1267), some (.int x1268), none, none]) (st' := [.int x1266]) (h' := (HX w T)) (cs' := 0) (sl' := 0) rfl ?_
  obtain ⟨c1269, hq, h⟩ := ai_bdE h
  refine ev_call (M' := mf_isLayer) (L' := [some (.int x1266)]) (rest := []) (rv := some (.int c1269)) (h' := (HX w T)) rfl (Ef_isLayer x1266 _ hq (HX w T)) ?_
  show ai_ev D1 msea_putThick 4 [some (.ref 20), some (.int x1266), some (.int x1267), some (.int x1268), none, none] [.int c1269] (HX w T) 0 0 _
  rcases ai_ifE h with ⟨hc, h⟩ | ⟨hc, h⟩
  · refine ev_if_eq (t := 25) rfl rfl (fun _ => ?_) (fun c9 => absurd hc c9)
    refine ev_go 1 (pc' := 27) (L' := [some (.ref 20), some (.int x1266), some (.int x1267), some (.int x1268), none, none]) (st' := [.int (-2)]) (h' := (HX w T)) (cs' := 0) (sl' := 0) rfl ?_
    obtain ⟨rfl, rfl⟩ := ai_smP h
    exact ev_end rfl
  · refine ev_if_eq (t := 25) rfl rfl (fun c9 => absurd c9 hc) (fun _ => ?_)
    refine ev_go 2 (pc' := 9) (L' := [some (.ref 20), some (.int x1266), some (.int x1267), some (.int x1268), none, none]) (st' := [.int x1267, .ref 20]) (h' := (HX w T)) (cs' := 0) (sl' := 0) rfl ?_
    obtain ⟨c1272, hq, h⟩ := ai_bdE h
    refine ev_call (M' := msea_hasCell) (L' := [some (.ref 20), some (.int x1267)]) (rest := []) (rv := some (.int c1272.1)) (h' := (HX c1272.2 T)) rfl (Esea_hasCell_20 x1267 w _ _ hq T) ?_
    show ai_ev D1 msea_putThick 12 [some (.ref 20), some (.int x1266), some (.int x1267), some (.int x1268), none, none] [.int c1272.1] (HX c1272.2 T) 0 0 _
    rcases ai_ifE h with ⟨hc, h⟩ | ⟨hc, h⟩
    · refine ev_if_eq (t := 25) rfl rfl (fun _ => ?_) (fun c9 => absurd hc c9)
      refine ev_go 1 (pc' := 27) (L' := [some (.ref 20), some (.int x1266), some (.int x1267), some (.int x1268), none, none]) (st' := [.int (-2)]) (h' := (HX c1272.2 T)) (cs' := 0) (sl' := 0) rfl ?_
      obtain ⟨rfl, rfl⟩ := ai_smP h
      exact ev_end rfl
    · refine ev_if_eq (t := 25) rfl rfl (fun c9 => absurd c9 hc) (fun _ => ?_)
      refine ev_go 3 (pc' := 19) (L' := [some (.ref 20), some (.int x1266), some (.int x1267), some (.int x1268), none, none]) (st' := [.int 9, .int 0, .int x1268]) (h' := (HX c1272.2 T)) (cs' := 0) (sl' := 0) rfl ?_
      obtain ⟨c1273, hq, h⟩ := ai_bdE h
      refine ev_call (M' := mf_within) (L' := [some (.int x1268), some (.int 0), some (.int 9)]) (rest := []) (rv := some (.int c1273)) (h' := (HX c1272.2 T)) rfl (Ef_within x1268 0 9 _ hq (HX c1272.2 T)) ?_
      show ai_ev D1 msea_putThick 22 [some (.ref 20), some (.int x1266), some (.int x1267), some (.int x1268), none, none] [.int c1273] (HX c1272.2 T) 0 0 _
      rcases ai_ifE h with ⟨hc, h⟩ | ⟨hc, h⟩
      · refine ev_if_ne (t := 28) rfl rfl (fun c9 => absurd hc c9) (fun _ => ?_)
        refine ev_go 1 (pc' := 27) (L' := [some (.ref 20), some (.int x1266), some (.int x1267), some (.int x1268), none, none]) (st' := [.int (-2)]) (h' := (HX c1272.2 T)) (cs' := 0) (sl' := 0) rfl ?_
        obtain ⟨rfl, rfl⟩ := ai_smP h
        exact ev_end rfl
      · refine ev_if_ne (t := 28) rfl rfl (fun _ => ?_) (fun c9 => absurd c9 hc)
        refine ev_go 9 (pc' := 42) (L' := [some (.ref 20), some (.int x1266), some (.int x1267), some (.int x1268), some (.int ((x1266 * 6) + x1267)), none]) (st' := [.int ((x1266 * 6) + x1267), .ref 24]) (h' := (HX c1272.2 T)) (cs' := 0) (sl' := 0) rfl ?_
        obtain ⟨v1274, hq, h⟩ := ai_bdE h
        refine ev_iald rfl rfl hq ?_
        refine ev_go 5 (pc' := 52) (L' := [some (.ref 20), some (.int x1266), some (.int x1267), some (.int x1268), some (.int ((x1266 * 6) + x1267)), some (.int v1274)]) (st' := [.int x1268, .int ((x1266 * 6) + x1267), .ref 24]) (h' := (HX c1272.2 T)) (cs' := 0) (sl' := 0) rfl ?_
        obtain ⟨q1275, hq, h⟩ := ai_bdE h
        refine ev_iast rfl rfl hq ?_
        rw [HXs_24]
        refine ev_go 1 (pc' := 55) (L' := [some (.ref 20), some (.int x1266), some (.int x1267), some (.int x1268), some (.int ((x1266 * 6) + x1267)), some (.int v1274)]) (st' := [.int v1274]) (h' := (HX (u_s2_thicks c1272.2 q1275) T)) (cs' := 0) (sl' := 0) rfl ?_
        obtain ⟨rfl, rfl⟩ := ai_smP h
        exact ev_end rfl
set_option maxHeartbeats 40000000 in
set_option maxRecDepth 100000 in
theorem Esea_putSkin_20 (x1279 : Int32) (x1280 : Int32) (w : WX) (r : Int32) (w' : WX) (h : Fsea_putSkin_20 x1279 x1280 w = some (r, w')) (T : ai_H) : ai_ev D1 msea_putSkin 0 [some (.ref 20), some (.int x1279), some (.int x1280), none] [] (HX w T) 0 0 (some (.int r), HX w' T) := by
  unfold Fsea_putSkin_20 at h
  refine ev_go 3 (pc' := 3) (L' := [some (.ref 20), some (.int x1279), some (.int x1280), none]) (st' := [.int 2, .int 0, .int x1279]) (h' := (HX w T)) (cs' := 0) (sl' := 0) rfl ?_
  obtain ⟨c1281, hq, h⟩ := ai_bdE h
  refine ev_call (M' := mf_within) (L' := [some (.int x1279), some (.int 0), some (.int 2)]) (rest := []) (rv := some (.int c1281)) (h' := (HX w T)) rfl (Ef_within x1279 0 2 _ hq (HX w T)) ?_
  show ai_ev D1 msea_putSkin 6 [some (.ref 20), some (.int x1279), some (.int x1280), none] [.int c1281] (HX w T) 0 0 _
  rcases ai_ifE h with ⟨hc, h⟩ | ⟨hc, h⟩
  · refine ev_if_eq (t := 19) rfl rfl (fun _ => ?_) (fun c9 => absurd hc c9)
    refine ev_go 1 (pc' := 21) (L' := [some (.ref 20), some (.int x1279), some (.int x1280), none]) (st' := [.int (-2)]) (h' := (HX w T)) (cs' := 0) (sl' := 0) rfl ?_
    obtain ⟨rfl, rfl⟩ := ai_smP h
    exact ev_end rfl
  · refine ev_if_eq (t := 19) rfl rfl (fun c9 => absurd c9 hc) (fun _ => ?_)
    refine ev_go 3 (pc' := 13) (L' := [some (.ref 20), some (.int x1279), some (.int x1280), none]) (st' := [.int 99, .int 0, .int x1280]) (h' := (HX w T)) (cs' := 0) (sl' := 0) rfl ?_
    obtain ⟨c1282, hq, h⟩ := ai_bdE h
    refine ev_call (M' := mf_within) (L' := [some (.int x1280), some (.int 0), some (.int 99)]) (rest := []) (rv := some (.int c1282)) (h' := (HX w T)) rfl (Ef_within x1280 0 99 _ hq (HX w T)) ?_
    show ai_ev D1 msea_putSkin 16 [some (.ref 20), some (.int x1279), some (.int x1280), none] [.int c1282] (HX w T) 0 0 _
    rcases ai_ifE h with ⟨hc, h⟩ | ⟨hc, h⟩
    · refine ev_if_ne (t := 22) rfl rfl (fun c9 => absurd hc c9) (fun _ => ?_)
      refine ev_go 1 (pc' := 21) (L' := [some (.ref 20), some (.int x1279), some (.int x1280), none]) (st' := [.int (-2)]) (h' := (HX w T)) (cs' := 0) (sl' := 0) rfl ?_
      obtain ⟨rfl, rfl⟩ := ai_smP h
      exact ev_end rfl
    · refine ev_if_ne (t := 22) rfl rfl (fun _ => ?_) (fun c9 => absurd c9 hc)
      refine ev_go 3 (pc' := 27) (L' := [some (.ref 20), some (.int x1279), some (.int x1280), none]) (st' := [.int x1279, .ref 25]) (h' := (HX w T)) (cs' := 0) (sl' := 0) rfl ?_
      obtain ⟨v1283, hq, h⟩ := ai_bdE h
      refine ev_iald rfl rfl hq ?_
      refine ev_go 5 (pc' := 35) (L' := [some (.ref 20), some (.int x1279), some (.int x1280), some (.int v1283)]) (st' := [.int x1280, .int x1279, .ref 25]) (h' := (HX w T)) (cs' := 0) (sl' := 0) rfl ?_
      obtain ⟨q1284, hq, h⟩ := ai_bdE h
      refine ev_iast rfl rfl hq ?_
      rw [HXs_25]
      refine ev_go 1 (pc' := 37) (L' := [some (.ref 20), some (.int x1279), some (.int x1280), some (.int v1283)]) (st' := [.int v1283]) (h' := (HX (u_s2_skins w q1284) T)) (cs' := 0) (sl' := 0) rfl ?_
      obtain ⟨rfl, rfl⟩ := ai_smP h
      exact ev_end rfl
set_option maxHeartbeats 40000000 in
set_option maxRecDepth 100000 in
theorem Ethg_add_26 (x1289 : Int32) (x1290 : Int32) (x1291 : Int32) (w : WX) (r : Int32) (w' : WX) (h : Fthg_add_26 x1289 x1290 x1291 w = some (r, w')) (T : ai_H) : ai_ev D1 mthg_add 0 [some (.ref 26), some (.int x1289), some (.int x1290), some (.int x1291)] [] (HX w T) 0 0 (some (.int r), HX w' T) := by
  unfold Fthg_add_26 at h
  refine ev_go 3 (pc' := 3) (L' := [some (.ref 26), some (.int x1289), some (.int x1290), some (.int x1291)]) (st' := [.int 5, .int 0, .int x1289]) (h' := (HX w T)) (cs' := 0) (sl' := 0) rfl ?_
  obtain ⟨c1292, hq, h⟩ := ai_bdE h
  refine ev_call (M' := mf_within) (L' := [some (.int x1289), some (.int 0), some (.int 5)]) (rest := []) (rv := some (.int c1292)) (h' := (HX w T)) rfl (Ef_within x1289 0 5 _ hq (HX w T)) ?_
  show ai_ev D1 mthg_add 6 [some (.ref 26), some (.int x1289), some (.int x1290), some (.int x1291)] [.int c1292] (HX w T) 0 0 _
  rcases ai_ifE h with ⟨hc, h⟩ | ⟨hc, h⟩
  · refine ev_if_eq (t := 29) rfl rfl (fun _ => ?_) (fun c9 => absurd hc c9)
    refine ev_go 1 (pc' := 31) (L' := [some (.ref 26), some (.int x1289), some (.int x1290), some (.int x1291)]) (st' := [.int (-2)]) (h' := (HX w T)) (cs' := 0) (sl' := 0) rfl ?_
    obtain ⟨rfl, rfl⟩ := ai_smP h
    exact ev_end rfl
  · refine ev_if_eq (t := 29) rfl rfl (fun c9 => absurd c9 hc) (fun _ => ?_)
    refine ev_go 3 (pc' := 13) (L' := [some (.ref 26), some (.int x1289), some (.int x1290), some (.int x1291)]) (st' := [.int 99, .int 1, .int x1290]) (h' := (HX w T)) (cs' := 0) (sl' := 0) rfl ?_
    obtain ⟨c1293, hq, h⟩ := ai_bdE h
    refine ev_call (M' := mf_within) (L' := [some (.int x1290), some (.int 1), some (.int 99)]) (rest := []) (rv := some (.int c1293)) (h' := (HX w T)) rfl (Ef_within x1290 1 99 _ hq (HX w T)) ?_
    show ai_ev D1 mthg_add 16 [some (.ref 26), some (.int x1289), some (.int x1290), some (.int x1291)] [.int c1293] (HX w T) 0 0 _
    rcases ai_ifE h with ⟨hc, h⟩ | ⟨hc, h⟩
    · refine ev_if_eq (t := 29) rfl rfl (fun _ => ?_) (fun c9 => absurd hc c9)
      refine ev_go 1 (pc' := 31) (L' := [some (.ref 26), some (.int x1289), some (.int x1290), some (.int x1291)]) (st' := [.int (-2)]) (h' := (HX w T)) (cs' := 0) (sl' := 0) rfl ?_
      obtain ⟨rfl, rfl⟩ := ai_smP h
      exact ev_end rfl
    · refine ev_if_eq (t := 29) rfl rfl (fun c9 => absurd c9 hc) (fun _ => ?_)
      refine ev_go 3 (pc' := 23) (L' := [some (.ref 26), some (.int x1289), some (.int x1290), some (.int x1291)]) (st' := [.int 9, .int 1, .int x1291]) (h' := (HX w T)) (cs' := 0) (sl' := 0) rfl ?_
      obtain ⟨c1294, hq, h⟩ := ai_bdE h
      refine ev_call (M' := mf_within) (L' := [some (.int x1291), some (.int 1), some (.int 9)]) (rest := []) (rv := some (.int c1294)) (h' := (HX w T)) rfl (Ef_within x1291 1 9 _ hq (HX w T)) ?_
      show ai_ev D1 mthg_add 26 [some (.ref 26), some (.int x1289), some (.int x1290), some (.int x1291)] [.int c1294] (HX w T) 0 0 _
      rcases ai_ifE h with ⟨hc, h⟩ | ⟨hc, h⟩
      · refine ev_if_ne (t := 32) rfl rfl (fun c9 => absurd hc c9) (fun _ => ?_)
        refine ev_go 1 (pc' := 31) (L' := [some (.ref 26), some (.int x1289), some (.int x1290), some (.int x1291)]) (st' := [.int (-2)]) (h' := (HX w T)) (cs' := 0) (sl' := 0) rfl ?_
        obtain ⟨rfl, rfl⟩ := ai_smP h
        exact ev_end rfl
      · refine ev_if_ne (t := 32) rfl rfl (fun _ => ?_) (fun c9 => absurd c9 hc)
        refine ev_go 3 (pc' := 38) (L' := [some (.ref 26), some (.int x1289), some (.int x1290), some (.int x1291)]) (st' := [.int 6, .int (a_s2things_count w)]) (h' := (HX w T)) (cs' := 0) (sl' := 0) rfl ?_
        rcases ai_ifE h with ⟨hc, h⟩ | ⟨hc, h⟩
        · refine ev_ic_lt (t := 44) rfl rfl (fun _ => ?_) (fun c9 => absurd hc c9)
          refine ev_go 5 (pc' := 53) (L' := [some (.ref 26), some (.int x1289), some (.int x1290), some (.int x1291)]) (st' := [.int x1289, .int (a_s2things_count w), .ref 27]) (h' := (HX w T)) (cs' := 0) (sl' := 0) rfl ?_
          obtain ⟨q1295, hq, h⟩ := ai_bdE h
          refine ev_iast rfl rfl hq ?_
          rw [HXs_27]
          refine ev_go 5 (pc' := 63) (L' := [some (.ref 26), some (.int x1289), some (.int x1290), some (.int x1291)]) (st' := [.int x1290, .int (a_s2things_count w), .ref 28]) (h' := (HX (u_s2things_kinds w q1295) T)) (cs' := 0) (sl' := 0) rfl ?_
          obtain ⟨q1296, hq, h⟩ := ai_bdE h
          refine ev_iast rfl rfl hq ?_
          rw [HXs_28]
          refine ev_go 5 (pc' := 73) (L' := [some (.ref 26), some (.int x1289), some (.int x1290), some (.int x1291)]) (st' := [.int x1291, .int (a_s2things_count w), .ref 29]) (h' := (HX (u_s2things_weights (u_s2things_kinds w q1295) q1296) T)) (cs' := 0) (sl' := 0) rfl ?_
          obtain ⟨q1297, hq, h⟩ := ai_bdE h
          refine ev_iast rfl rfl hq ?_
          rw [HXs_29]
          refine ev_go 5 (pc' := 83) (L' := [some (.ref 26), some (.int x1289), some (.int x1290), some (.int x1291)]) (st' := [.int 0, .int (a_s2things_count w), .ref 30]) (h' := (HX (u_s2things_volumes (u_s2things_weights (u_s2things_kinds w q1295) q1296) q1297) T)) (cs' := 0) (sl' := 0) rfl ?_
          obtain ⟨q1298, hq, h⟩ := ai_bdE h
          refine ev_iast rfl rfl hq ?_
          rw [HXs_30]
          refine ev_go 6 (pc' := 92) (L' := [some (.ref 26), some (.int x1289), some (.int x1290), some (.int x1291)]) (st' := [.int ((a_s2things_count w) + 1), .ref 26, .int (a_s2things_count w)]) (h' := (HX (u_s2things_ballasts (u_s2things_volumes (u_s2things_weights (u_s2things_kinds w q1295) q1296) q1297) q1298) T)) (cs' := 0) (sl' := 0) rfl ?_
          refine ev_step rfl rfl rfl (PFX_5_9_26 rfl) ?_
          obtain ⟨rfl, rfl⟩ := ai_smP h
          exact ev_end rfl
        · refine ev_ic_lt (t := 44) rfl rfl (fun c9 => absurd c9 hc) (fun _ => ?_)
          refine ev_go 1 (pc' := 43) (L' := [some (.ref 26), some (.int x1289), some (.int x1290), some (.int x1291)]) (st' := [.int (-4)]) (h' := (HX w T)) (cs' := 0) (sl' := 0) rfl ?_
          obtain ⟨rfl, rfl⟩ := ai_smP h
          exact ev_end rfl
set_option maxHeartbeats 40000000 in
set_option maxRecDepth 100000 in
theorem Esea_hasPlace_20 (x1306 : Int32) (w : WX) (r : Int32) (w' : WX) (h : Fsea_hasPlace_20 x1306 w = some (r, w')) (T : ai_H) : ai_ev D1 msea_hasPlace 0 [some (.ref 20), some (.int x1306)] [] (HX w T) 0 0 (some (.int r), HX w' T) := by
  unfold Fsea_hasPlace_20 at h
  refine ev_go 1 (pc' := 1) (L' := [some (.ref 20), some (.int x1306)]) (st' := [.int x1306]) (h' := (HX w T)) (cs' := 0) (sl' := 0) rfl ?_
  rcases ai_ifE h with ⟨hc, h⟩ | ⟨hc, h⟩
  · refine ev_if_lt (t := 29) rfl rfl (fun _ => ?_) (fun c9 => absurd hc c9)
    refine ev_go 1 (pc' := 30) (L' := [some (.ref 20), some (.int x1306)]) (st' := [.int 0]) (h' := (HX w T)) (cs' := 0) (sl' := 0) rfl ?_
    obtain ⟨rfl, rfl⟩ := ai_smP h
    exact ev_end rfl
  · refine ev_if_lt (t := 29) rfl rfl (fun c9 => absurd c9 hc) (fun _ => ?_)
    refine ev_go 4 (pc' := 9) (L' := [some (.ref 20), some (.int x1306)]) (st' := [.int (x1306 / 10), .ref 20]) (h' := (HX w T)) (cs' := 0) (sl' := 0) rfl ?_
    obtain ⟨c1307, hq, h⟩ := ai_bdE h
    refine ev_call (M' := msea_hasCell) (L' := [some (.ref 20), some (.int (x1306 / 10))]) (rest := []) (rv := some (.int c1307.1)) (h' := (HX c1307.2 T)) rfl (Esea_hasCell_20 (x1306 / 10) w _ _ hq T) ?_
    show ai_ev D1 msea_hasPlace 12 [some (.ref 20), some (.int x1306)] [.int c1307.1] (HX c1307.2 T) 0 0 _
    rcases ai_ifE h with ⟨hc, h⟩ | ⟨hc, h⟩
    · refine ev_if_eq (t := 29) rfl rfl (fun _ => ?_) (fun c9 => absurd hc c9)
      refine ev_go 1 (pc' := 30) (L' := [some (.ref 20), some (.int x1306)]) (st' := [.int 0]) (h' := (HX c1307.2 T)) (cs' := 0) (sl' := 0) rfl ?_
      obtain ⟨rfl, rfl⟩ := ai_smP h
      exact ev_end rfl
    · refine ev_if_eq (t := 29) rfl rfl (fun c9 => absurd c9 hc) (fun _ => ?_)
      refine ev_go 3 (pc' := 19) (L' := [some (.ref 20), some (.int x1306)]) (st' := [.int (x1306 - x1306 / 10 * 10)]) (h' := (HX c1307.2 T)) (cs' := 0) (sl' := 0) rfl ?_
      obtain ⟨c1308, hq, h⟩ := ai_bdE h
      refine ev_call (M' := mf_isLayer) (L' := [some (.int (x1306 - x1306 / 10 * 10))]) (rest := []) (rv := some (.int c1308)) (h' := (HX c1307.2 T)) rfl (Ef_isLayer (x1306 - x1306 / 10 * 10) _ hq (HX c1307.2 T)) ?_
      show ai_ev D1 msea_hasPlace 22 [some (.ref 20), some (.int x1306)] [.int c1308] (HX c1307.2 T) 0 0 _
      rcases ai_ifE h with ⟨hc, h⟩ | ⟨hc, h⟩
      · refine ev_if_eq (t := 29) rfl rfl (fun _ => ?_) (fun c9 => absurd hc c9)
        refine ev_go 1 (pc' := 30) (L' := [some (.ref 20), some (.int x1306)]) (st' := [.int 0]) (h' := (HX c1307.2 T)) (cs' := 0) (sl' := 0) rfl ?_
        obtain ⟨rfl, rfl⟩ := ai_smP h
        exact ev_end rfl
      · refine ev_if_eq (t := 29) rfl rfl (fun c9 => absurd c9 hc) (fun _ => ?_)
        refine ev_go 2 (pc' := 30) (L' := [some (.ref 20), some (.int x1306)]) (st' := [.int 1]) (h' := (HX c1307.2 T)) (cs' := 0) (sl' := 0) rfl ?_
        obtain ⟨rfl, rfl⟩ := ai_smP h
        exact ev_end rfl
set_option maxHeartbeats 40000000 in
set_option maxRecDepth 100000 in
theorem Elift_add_31 (x1312 : Int32) (x1313 : Int32) (x1314 : Int32) (w : WX) (r : Int32) (w' : WX) (h : Flift_add_31 x1312 x1313 x1314 w = some (r, w')) (T : ai_H) : ai_ev D1 mlift_add 0 [some (.ref 31), some (.int x1312), some (.int x1313), some (.int x1314)] [] (HX w T) 0 0 (some (.int r), HX w' T) := by
  unfold Flift_add_31 at h
  refine ev_go 3 (pc' := 6) (L' := [some (.ref 31), some (.int x1312), some (.int x1313), some (.int x1314)]) (st' := [.int 10, .int (a_s2lifts_count w)]) (h' := (HX w T)) (cs' := 0) (sl' := 0) rfl ?_
  rcases ai_ifE h with ⟨hc, h⟩ | ⟨hc, h⟩
  · refine ev_ic_lt (t := 12) rfl rfl (fun _ => ?_) (fun c9 => absurd hc c9)
    refine ev_go 5 (pc' := 21) (L' := [some (.ref 31), some (.int x1312), some (.int x1313), some (.int x1314)]) (st' := [.int x1312, .int (a_s2lifts_count w), .ref 32]) (h' := (HX w T)) (cs' := 0) (sl' := 0) rfl ?_
    obtain ⟨q1315, hq, h⟩ := ai_bdE h
    refine ev_iast rfl rfl hq ?_
    rw [HXs_32]
    refine ev_go 5 (pc' := 31) (L' := [some (.ref 31), some (.int x1312), some (.int x1313), some (.int x1314)]) (st' := [.int x1313, .int (a_s2lifts_count w), .ref 33]) (h' := (HX (u_s2lifts_froms w q1315) T)) (cs' := 0) (sl' := 0) rfl ?_
    obtain ⟨q1316, hq, h⟩ := ai_bdE h
    refine ev_iast rfl rfl hq ?_
    rw [HXs_33]
    refine ev_go 5 (pc' := 41) (L' := [some (.ref 31), some (.int x1312), some (.int x1313), some (.int x1314)]) (st' := [.int x1314, .int (a_s2lifts_count w), .ref 34]) (h' := (HX (u_s2lifts_tos (u_s2lifts_froms w q1315) q1316) T)) (cs' := 0) (sl' := 0) rfl ?_
    obtain ⟨q1317, hq, h⟩ := ai_bdE h
    refine ev_iast rfl rfl hq ?_
    rw [HXs_34]
    refine ev_go 6 (pc' := 50) (L' := [some (.ref 31), some (.int x1312), some (.int x1313), some (.int x1314)]) (st' := [.int ((a_s2lifts_count w) + 1), .ref 31, .int (a_s2lifts_count w)]) (h' := (HX (u_s2lifts_times (u_s2lifts_tos (u_s2lifts_froms w q1315) q1316) q1317) T)) (cs' := 0) (sl' := 0) rfl ?_
    refine ev_step rfl rfl rfl (PFX_1_9_31 rfl) ?_
    obtain ⟨rfl, rfl⟩ := ai_smP h
    exact ev_end rfl
  · refine ev_ic_lt (t := 12) rfl rfl (fun c9 => absurd c9 hc) (fun _ => ?_)
    refine ev_go 1 (pc' := 11) (L' := [some (.ref 31), some (.int x1312), some (.int x1313), some (.int x1314)]) (st' := [.int (-4)]) (h' := (HX w T)) (cs' := 0) (sl' := 0) rfl ?_
    obtain ⟨rfl, rfl⟩ := ai_smP h
    exact ev_end rfl
set_option maxHeartbeats 40000000 in
set_option maxRecDepth 100000 in
theorem Esea_addLift_20 (x1303 : Int32) (x1304 : Int32) (x1305 : Int32) (w : WX) (r : Int32) (w' : WX) (h : Fsea_addLift_20 x1303 x1304 x1305 w = some (r, w')) (T : ai_H) : ai_ev D1 msea_addLift 0 [some (.ref 20), some (.int x1303), some (.int x1304), some (.int x1305)] [] (HX w T) 0 0 (some (.int r), HX w' T) := by
  unfold Fsea_addLift_20 at h
  refine ev_go 2 (pc' := 2) (L' := [some (.ref 20), some (.int x1303), some (.int x1304), some (.int x1305)]) (st' := [.int x1303, .ref 20]) (h' := (HX w T)) (cs' := 0) (sl' := 0) rfl ?_
  obtain ⟨c1309, hq, h⟩ := ai_bdE h
  refine ev_call (M' := msea_hasPlace) (L' := [some (.ref 20), some (.int x1303)]) (rest := []) (rv := some (.int c1309.1)) (h' := (HX c1309.2 T)) rfl (Esea_hasPlace_20 x1303 w _ _ hq T) ?_
  show ai_ev D1 msea_addLift 5 [some (.ref 20), some (.int x1303), some (.int x1304), some (.int x1305)] [.int c1309.1] (HX c1309.2 T) 0 0 _
  rcases ai_ifE h with ⟨hc, h⟩ | ⟨hc, h⟩
  · refine ev_if_eq (t := 31) rfl rfl (fun _ => ?_) (fun c9 => absurd hc c9)
    refine ev_go 1 (pc' := 33) (L' := [some (.ref 20), some (.int x1303), some (.int x1304), some (.int x1305)]) (st' := [.int (-2)]) (h' := (HX c1309.2 T)) (cs' := 0) (sl' := 0) rfl ?_
    obtain ⟨rfl, rfl⟩ := ai_smP h
    exact ev_end rfl
  · refine ev_if_eq (t := 31) rfl rfl (fun c9 => absurd c9 hc) (fun _ => ?_)
    refine ev_go 2 (pc' := 10) (L' := [some (.ref 20), some (.int x1303), some (.int x1304), some (.int x1305)]) (st' := [.int x1304, .ref 20]) (h' := (HX c1309.2 T)) (cs' := 0) (sl' := 0) rfl ?_
    obtain ⟨c1310, hq, h⟩ := ai_bdE h
    refine ev_call (M' := msea_hasPlace) (L' := [some (.ref 20), some (.int x1304)]) (rest := []) (rv := some (.int c1310.1)) (h' := (HX c1310.2 T)) rfl (Esea_hasPlace_20 x1304 c1309.2 _ _ hq T) ?_
    show ai_ev D1 msea_addLift 13 [some (.ref 20), some (.int x1303), some (.int x1304), some (.int x1305)] [.int c1310.1] (HX c1310.2 T) 0 0 _
    rcases ai_ifE h with ⟨hc, h⟩ | ⟨hc, h⟩
    · refine ev_if_eq (t := 31) rfl rfl (fun _ => ?_) (fun c9 => absurd hc c9)
      refine ev_go 1 (pc' := 33) (L' := [some (.ref 20), some (.int x1303), some (.int x1304), some (.int x1305)]) (st' := [.int (-2)]) (h' := (HX c1310.2 T)) (cs' := 0) (sl' := 0) rfl ?_
      obtain ⟨rfl, rfl⟩ := ai_smP h
      exact ev_end rfl
    · refine ev_if_eq (t := 31) rfl rfl (fun c9 => absurd c9 hc) (fun _ => ?_)
      refine ev_go 2 (pc' := 18) (L' := [some (.ref 20), some (.int x1303), some (.int x1304), some (.int x1305)]) (st' := [.int x1304, .int x1303]) (h' := (HX c1310.2 T)) (cs' := 0) (sl' := 0) rfl ?_
      rcases ai_ifE h with ⟨hc, h⟩ | ⟨hc, h⟩
      · refine ev_ic_eq (t := 31) rfl rfl (fun _ => ?_) (fun c9 => absurd hc c9)
        refine ev_go 1 (pc' := 33) (L' := [some (.ref 20), some (.int x1303), some (.int x1304), some (.int x1305)]) (st' := [.int (-2)]) (h' := (HX c1310.2 T)) (cs' := 0) (sl' := 0) rfl ?_
        obtain ⟨rfl, rfl⟩ := ai_smP h
        exact ev_end rfl
      · refine ev_ic_eq (t := 31) rfl rfl (fun c9 => absurd c9 hc) (fun _ => ?_)
        refine ev_go 3 (pc' := 25) (L' := [some (.ref 20), some (.int x1303), some (.int x1304), some (.int x1305)]) (st' := [.int 9, .int 1, .int x1305]) (h' := (HX c1310.2 T)) (cs' := 0) (sl' := 0) rfl ?_
        obtain ⟨c1311, hq, h⟩ := ai_bdE h
        refine ev_call (M' := mf_within) (L' := [some (.int x1305), some (.int 1), some (.int 9)]) (rest := []) (rv := some (.int c1311)) (h' := (HX c1310.2 T)) rfl (Ef_within x1305 1 9 _ hq (HX c1310.2 T)) ?_
        show ai_ev D1 msea_addLift 28 [some (.ref 20), some (.int x1303), some (.int x1304), some (.int x1305)] [.int c1311] (HX c1310.2 T) 0 0 _
        rcases ai_ifE h with ⟨hc, h⟩ | ⟨hc, h⟩
        · refine ev_if_ne (t := 34) rfl rfl (fun c9 => absurd hc c9) (fun _ => ?_)
          refine ev_go 1 (pc' := 33) (L' := [some (.ref 20), some (.int x1303), some (.int x1304), some (.int x1305)]) (st' := [.int (-2)]) (h' := (HX c1310.2 T)) (cs' := 0) (sl' := 0) rfl ?_
          obtain ⟨rfl, rfl⟩ := ai_smP h
          exact ev_end rfl
        · refine ev_if_ne (t := 34) rfl rfl (fun _ => ?_) (fun c9 => absurd c9 hc)
          refine ev_go 5 (pc' := 41) (L' := [some (.ref 20), some (.int x1303), some (.int x1304), some (.int x1305)]) (st' := [.int x1305, .int x1304, .int x1303, .ref 31]) (h' := (HX c1310.2 T)) (cs' := 0) (sl' := 0) rfl ?_
          obtain ⟨c1318, hq, h⟩ := ai_bdE h
          refine ev_call (M' := mlift_add) (L' := [some (.ref 31), some (.int x1303), some (.int x1304), some (.int x1305)]) (rest := []) (rv := some (.int c1318.1)) (h' := (HX c1318.2 T)) rfl (Elift_add_31 x1303 x1304 x1305 c1310.2 _ _ hq T) ?_
          show ai_ev D1 msea_addLift 44 [some (.ref 20), some (.int x1303), some (.int x1304), some (.int x1305)] [.int c1318.1] (HX c1318.2 T) 0 0 _
          obtain ⟨rfl, rfl⟩ := ai_smP h
          exact ev_end rfl
set_option maxHeartbeats 40000000 in
set_option maxRecDepth 100000 in
theorem EGsea_addTown_20 : ∀ n : Nat, (∀ (y1323 : Int32) (y1324 : Int32) (w : WX) (r : Int32) (w' : WX), Gsea_addTown_20 n 0 y1323 y1324 w = some (r, w') → ∀ (T : ai_H), ai_ev D1 msea_addTown 13 [some (.ref 20), some (.int y1323), some (.int y1324)] [] (HX w T) 0 0 (some (.int r), HX w' T)) := by
  intro n
  induction n with
  | zero =>
    exact (fun _ _ _ _ _ h => by cases h)
  | succ n ih0 =>
    intro y1323 y1324 w r w' h T
    simp only [Gsea_addTown_20] at h
    refine ev_go 3 (pc' := 18) (L' := [some (.ref 20), some (.int y1323), some (.int y1324)]) (st' := [.int (a_s2_towns w), .int y1324]) (h' := (HX w T)) (cs' := 0) (sl' := 0) rfl ?_
    rcases ai_ifE h with ⟨hc, h⟩ | ⟨hc, h⟩
    · refine ev_ic_ge (t := 40) rfl rfl (fun _ => ?_) (fun c9 => absurd hc c9)
      refine ev_go 3 (pc' := 46) (L' := [some (.ref 20), some (.int y1323), some (.int y1324)]) (st' := [.int 6, .int (a_s2_towns w)]) (h' := (HX w T)) (cs' := 0) (sl' := 0) rfl ?_
      rcases ai_ifE h with ⟨hc, h⟩ | ⟨hc, h⟩
      · refine ev_ic_lt (t := 52) rfl rfl (fun _ => ?_) (fun c9 => absurd hc c9)
        refine ev_go 5 (pc' := 61) (L' := [some (.ref 20), some (.int y1323), some (.int y1324)]) (st' := [.int y1323, .int (a_s2_towns w), .ref 35]) (h' := (HX w T)) (cs' := 0) (sl' := 0) rfl ?_
        obtain ⟨q1325, hq, h⟩ := ai_bdE h
        refine ev_iast rfl rfl hq ?_
        rw [HXs_35]
        refine ev_go 6 (pc' := 70) (L' := [some (.ref 20), some (.int y1323), some (.int y1324)]) (st' := [.int ((a_s2_towns w) + 1), .ref 20, .int (a_s2_towns w)]) (h' := (HX (u_s2_townPlaces w q1325) T)) (cs' := 0) (sl' := 0) rfl ?_
        refine ev_step rfl rfl rfl (PFX_2_51_20 rfl) ?_
        obtain ⟨rfl, rfl⟩ := ai_smP h
        exact ev_end rfl
      · refine ev_ic_lt (t := 52) rfl rfl (fun c9 => absurd c9 hc) (fun _ => ?_)
        refine ev_go 1 (pc' := 51) (L' := [some (.ref 20), some (.int y1323), some (.int y1324)]) (st' := [.int (-4)]) (h' := (HX w T)) (cs' := 0) (sl' := 0) rfl ?_
        obtain ⟨rfl, rfl⟩ := ai_smP h
        exact ev_end rfl
    · refine ev_ic_ge (t := 40) rfl rfl (fun c9 => absurd c9 hc) (fun _ => ?_)
      refine ev_go 3 (pc' := 26) (L' := [some (.ref 20), some (.int y1323), some (.int y1324)]) (st' := [.int y1324, .ref 35]) (h' := (HX w T)) (cs' := 0) (sl' := 0) rfl ?_
      obtain ⟨v1326, hq, h⟩ := ai_bdE h
      refine ev_iald rfl rfl hq ?_
      refine ev_go 1 (pc' := 28) (L' := [some (.ref 20), some (.int y1323), some (.int y1324)]) (st' := [.int y1323, .int v1326]) (h' := (HX w T)) (cs' := 0) (sl' := 0) rfl ?_
      rcases ai_ifE h with ⟨hc, h⟩ | ⟨hc, h⟩
      · refine ev_ic_ne (t := 34) rfl rfl (fun c9 => absurd hc c9) (fun _ => ?_)
        refine ev_go 1 (pc' := 33) (L' := [some (.ref 20), some (.int y1323), some (.int y1324)]) (st' := [.int (-3)]) (h' := (HX w T)) (cs' := 0) (sl' := 0) rfl ?_
        obtain ⟨rfl, rfl⟩ := ai_smP h
        exact ev_end rfl
      · refine ev_ic_ne (t := 34) rfl rfl (fun _ => ?_) (fun c9 => absurd c9 hc)
        refine ev_go 2 (pc' := 13) (L' := [some (.ref 20), some (.int y1323), some (.int (y1324 + 1))]) (st' := []) (h' := (HX w T)) (cs' := 0) (sl' := 0) rfl ?_
        exact ih0 _ _ _ _ _ h T
set_option maxHeartbeats 40000000 in
set_option maxRecDepth 100000 in
theorem Esea_addTown_20 (n : Nat) (x1321 : Int32) (w : WX) (r : Int32) (w' : WX) (h : Fsea_addTown_20 n x1321 w = some (r, w')) (T : ai_H) : ai_ev D1 msea_addTown 0 [some (.ref 20), some (.int x1321), none] [] (HX w T) 0 0 (some (.int r), HX w' T) := by
  unfold Fsea_addTown_20 at h
  have ih0 := EGsea_addTown_20 n
  refine ev_go 2 (pc' := 2) (L' := [some (.ref 20), some (.int x1321), none]) (st' := [.int x1321, .ref 20]) (h' := (HX w T)) (cs' := 0) (sl' := 0) rfl ?_
  obtain ⟨c1322, hq, h⟩ := ai_bdE h
  refine ev_call (M' := msea_hasPlace) (L' := [some (.ref 20), some (.int x1321)]) (rest := []) (rv := some (.int c1322.1)) (h' := (HX c1322.2 T)) rfl (Esea_hasPlace_20 x1321 w _ _ hq T) ?_
  show ai_ev D1 msea_addTown 5 [some (.ref 20), some (.int x1321), none] [.int c1322.1] (HX c1322.2 T) 0 0 _
  rcases ai_ifE h with ⟨hc, h⟩ | ⟨hc, h⟩
  · refine ev_if_ne (t := 11) rfl rfl (fun c9 => absurd hc c9) (fun _ => ?_)
    refine ev_go 1 (pc' := 10) (L' := [some (.ref 20), some (.int x1321), none]) (st' := [.int (-2)]) (h' := (HX c1322.2 T)) (cs' := 0) (sl' := 0) rfl ?_
    obtain ⟨rfl, rfl⟩ := ai_smP h
    exact ev_end rfl
  · refine ev_if_ne (t := 11) rfl rfl (fun _ => ?_) (fun c9 => absurd c9 hc)
    refine ev_go 2 (pc' := 13) (L' := [some (.ref 20), some (.int x1321), some (.int 0)]) (st' := []) (h' := (HX c1322.2 T)) (cs' := 0) (sl' := 0) rfl ?_
    exact ih0 _ _ _ _ _ h T
set_option maxHeartbeats 40000000 in
set_option maxRecDepth 100000 in
theorem Esea_putDam_20 (x1329 : Int32) (x1330 : Int32) (w : WX) (r : Int32) (w' : WX) (h : Fsea_putDam_20 x1329 x1330 w = some (r, w')) (T : ai_H) : ai_ev D1 msea_putDam 0 [some (.ref 20), some (.int x1329), some (.int x1330)] [] (HX w T) 0 0 (some (.int r), HX w' T) := by
  unfold Fsea_putDam_20 at h
  refine ev_go 6 (pc' := 8) (L' := [some (.ref 20), some (.int x1329), some (.int x1330)]) (st' := [.int ((a_s2_cells w) - 2), .int 0, .int x1329]) (h' := (HX w T)) (cs' := 0) (sl' := 0) rfl ?_
  obtain ⟨c1331, hq, h⟩ := ai_bdE h
  refine ev_call (M' := mf_within) (L' := [some (.int x1329), some (.int 0), some (.int ((a_s2_cells w) - 2))]) (rest := []) (rv := some (.int c1331)) (h' := (HX w T)) rfl (Ef_within x1329 0 ((a_s2_cells w) - 2) _ hq (HX w T)) ?_
  show ai_ev D1 msea_putDam 11 [some (.ref 20), some (.int x1329), some (.int x1330)] [.int c1331] (HX w T) 0 0 _
  rcases ai_ifE h with ⟨hc, h⟩ | ⟨hc, h⟩
  · refine ev_if_ne (t := 17) rfl rfl (fun c9 => absurd hc c9) (fun _ => ?_)
    refine ev_go 1 (pc' := 16) (L' := [some (.ref 20), some (.int x1329), some (.int x1330)]) (st' := [.int (-2)]) (h' := (HX w T)) (cs' := 0) (sl' := 0) rfl ?_
    obtain ⟨rfl, rfl⟩ := ai_smP h
    exact ev_end rfl
  · refine ev_if_ne (t := 17) rfl rfl (fun _ => ?_) (fun c9 => absurd c9 hc)
    refine ev_go 7 (pc' := 26) (L' := [some (.ref 20), some (.int x1329), some (.int x1330)]) (st' := [.int x1330, .int (((a_s2_dams w) >>> (x1329 &&& 31)) &&& 1)]) (h' := (HX w T)) (cs' := 0) (sl' := 0) rfl ?_
    rcases ai_ifE h with ⟨hc, h⟩ | ⟨hc, h⟩
    · refine ev_if_eq (t := 33) rfl rfl (fun _ => ?_) (fun c9 => absurd hc c9)
      refine ev_go 1 (pc' := 34) (L' := [some (.ref 20), some (.int x1329), some (.int x1330)]) (st' := [.int 0, .int (((a_s2_dams w) >>> (x1329 &&& 31)) &&& 1)]) (h' := (HX w T)) (cs' := 0) (sl' := 0) rfl ?_
      rcases ai_ifE h with ⟨hc, h⟩ | ⟨hc, h⟩
      · refine ev_ic_ne (t := 40) rfl rfl (fun c9 => absurd hc c9) (fun _ => ?_)
        refine ev_go 1 (pc' := 39) (L' := [some (.ref 20), some (.int x1329), some (.int x1330)]) (st' := [.int (-3)]) (h' := (HX w T)) (cs' := 0) (sl' := 0) rfl ?_
        obtain ⟨rfl, rfl⟩ := ai_smP h
        exact ev_end rfl
      · refine ev_ic_ne (t := 40) rfl rfl (fun _ => ?_) (fun c9 => absurd c9 hc)
        refine ev_go 7 (pc' := 49) (L' := [some (.ref 20), some (.int x1329), some (.int x1330)]) (st' := [.int ((a_s2_dams w) ^^^ (1 <<< (x1329 &&& 31))), .ref 20]) (h' := (HX w T)) (cs' := 0) (sl' := 0) rfl ?_
        refine ev_step rfl rfl rfl (PFX_2_18_20 rfl) ?_
        refine ev_go 1 (pc' := 53) (L' := [some (.ref 20), some (.int x1329), some (.int x1330)]) (st' := [.int 1]) (h' := (HX (u_s2_dams w ((a_s2_dams w) ^^^ (1 <<< (x1329 &&& 31)))) T)) (cs' := 0) (sl' := 0) rfl ?_
        obtain ⟨rfl, rfl⟩ := ai_smP h
        exact ev_end rfl
    · refine ev_if_eq (t := 33) rfl rfl (fun c9 => absurd c9 hc) (fun _ => ?_)
      refine ev_go 2 (pc' := 34) (L' := [some (.ref 20), some (.int x1329), some (.int x1330)]) (st' := [.int 1, .int (((a_s2_dams w) >>> (x1329 &&& 31)) &&& 1)]) (h' := (HX w T)) (cs' := 0) (sl' := 0) rfl ?_
      rcases ai_ifE h with ⟨hc, h⟩ | ⟨hc, h⟩
      · refine ev_ic_ne (t := 40) rfl rfl (fun c9 => absurd hc c9) (fun _ => ?_)
        refine ev_go 1 (pc' := 39) (L' := [some (.ref 20), some (.int x1329), some (.int x1330)]) (st' := [.int (-3)]) (h' := (HX w T)) (cs' := 0) (sl' := 0) rfl ?_
        obtain ⟨rfl, rfl⟩ := ai_smP h
        exact ev_end rfl
      · refine ev_ic_ne (t := 40) rfl rfl (fun _ => ?_) (fun c9 => absurd c9 hc)
        refine ev_go 7 (pc' := 49) (L' := [some (.ref 20), some (.int x1329), some (.int x1330)]) (st' := [.int ((a_s2_dams w) ^^^ (1 <<< (x1329 &&& 31))), .ref 20]) (h' := (HX w T)) (cs' := 0) (sl' := 0) rfl ?_
        refine ev_step rfl rfl rfl (PFX_2_18_20 rfl) ?_
        refine ev_go 1 (pc' := 53) (L' := [some (.ref 20), some (.int x1329), some (.int x1330)]) (st' := [.int 1]) (h' := (HX (u_s2_dams w ((a_s2_dams w) ^^^ (1 <<< (x1329 &&& 31)))) T)) (cs' := 0) (sl' := 0) rfl ?_
        obtain ⟨rfl, rfl⟩ := ai_smP h
        exact ev_end rfl
set_option maxHeartbeats 40000000 in
set_option maxRecDepth 100000 in
theorem Etxt_tellItem_78_20 (n : Nat) (x1214 : Int32) (w : WX) (r : Int32) (w' : WX) (h : Ftxt_tellItem_78_20 n x1214 w = some (r, w')) (T : ai_H) : ai_ev D1 mtxt_tellItem 0 [some (.ref 78), some (.ref 20), some (.int x1214)] [] (HX w T) 0 0 (some (.int r), HX w' T) := by
  unfold Ftxt_tellItem_78_20 at h
  refine ev_go 1 (pc' := 1) (L' := [some (.ref 78), some (.ref 20), some (.int x1214)]) (st' := [.int x1214]) (h' := (HX w T)) (cs' := 0) (sl' := 0) rfl ?_
  rcases ai_ifE h with ⟨hc, h⟩ | ⟨hs0, h⟩
  · refine ev_swi (k := 0) (t := 44) rfl hc (by decide) (by decide) rfl rfl ?_
    refine ev_go 4 (pc' := 50) (L' := [some (.ref 78), some (.ref 20), some (.int x1214)]) (st' := [.int 0, .ref 80, .ref 20]) (h' := (HX w T)) (cs' := 0) (sl' := 0) rfl ?_
    obtain ⟨v1215, hq, h⟩ := ai_bdE h
    refine ev_iald rfl rfl hq ?_
    obtain ⟨c1243, hq, h⟩ := ai_bdE h
    refine ev_call (M' := msea_startAnew) (L' := [some (.ref 20), some (.int v1215), none]) (rest := []) (rv := some (.int c1243.1)) (h' := (HX c1243.2 T)) rfl (Esea_startAnew_20 n v1215 w _ _ hq T) ?_
    show ai_ev D1 mtxt_tellItem 54 [some (.ref 78), some (.ref 20), some (.int x1214)] [.int c1243.1] (HX c1243.2 T) 0 0 _
    obtain ⟨rfl, rfl⟩ := ai_smP h
    exact ev_end rfl
  rcases ai_ifE h with ⟨hc, h⟩ | ⟨hs1, h⟩
  · refine ev_swi (k := 1) (t := 55) rfl hc (by decide) (by decide) rfl rfl ?_
    refine ev_go 4 (pc' := 61) (L' := [some (.ref 78), some (.ref 20), some (.int x1214)]) (st' := [.int 0, .ref 80, .ref 20]) (h' := (HX w T)) (cs' := 0) (sl' := 0) rfl ?_
    obtain ⟨v1244, hq, h⟩ := ai_bdE h
    refine ev_iald rfl rfl hq ?_
    refine ev_go 3 (pc' := 67) (L' := [some (.ref 78), some (.ref 20), some (.int x1214)]) (st' := [.int 1, .ref 80, .int v1244, .ref 20]) (h' := (HX w T)) (cs' := 0) (sl' := 0) rfl ?_
    obtain ⟨v1245, hq, h⟩ := ai_bdE h
    refine ev_iald rfl rfl hq ?_
    obtain ⟨c1262, hq, h⟩ := ai_bdE h
    refine ev_call (M' := msea_putDensity) (L' := [some (.ref 20), some (.int v1244), some (.int v1245), none, none, none]) (rest := []) (rv := some (.int c1262.1)) (h' := (HX c1262.2 T)) rfl (Esea_putDensity_20 v1244 v1245 w _ _ hq T) ?_
    show ai_ev D1 mtxt_tellItem 71 [some (.ref 78), some (.ref 20), some (.int x1214)] [.int c1262.1] (HX c1262.2 T) 0 0 _
    obtain ⟨rfl, rfl⟩ := ai_smP h
    exact ev_end rfl
  rcases ai_ifE h with ⟨hc, h⟩ | ⟨hs2, h⟩
  · refine ev_swi (k := 2) (t := 72) rfl hc (by decide) (by decide) rfl rfl ?_
    refine ev_go 4 (pc' := 78) (L' := [some (.ref 78), some (.ref 20), some (.int x1214)]) (st' := [.int 0, .ref 80, .ref 20]) (h' := (HX w T)) (cs' := 0) (sl' := 0) rfl ?_
    obtain ⟨v1263, hq, h⟩ := ai_bdE h
    refine ev_iald rfl rfl hq ?_
    refine ev_go 3 (pc' := 84) (L' := [some (.ref 78), some (.ref 20), some (.int x1214)]) (st' := [.int 1, .ref 80, .int v1263, .ref 20]) (h' := (HX w T)) (cs' := 0) (sl' := 0) rfl ?_
    obtain ⟨v1264, hq, h⟩ := ai_bdE h
    refine ev_iald rfl rfl hq ?_
    refine ev_go 3 (pc' := 90) (L' := [some (.ref 78), some (.ref 20), some (.int x1214)]) (st' := [.int 2, .ref 80, .int v1264, .int v1263, .ref 20]) (h' := (HX w T)) (cs' := 0) (sl' := 0) rfl ?_
    obtain ⟨v1265, hq, h⟩ := ai_bdE h
    refine ev_iald rfl rfl hq ?_
    obtain ⟨c1276, hq, h⟩ := ai_bdE h
    refine ev_call (M' := msea_putThick) (L' := [some (.ref 20), some (.int v1263), some (.int v1264), some (.int v1265), none, none]) (rest := []) (rv := some (.int c1276.1)) (h' := (HX c1276.2 T)) rfl (Esea_putThick_20 v1263 v1264 v1265 w _ _ hq T) ?_
    show ai_ev D1 mtxt_tellItem 94 [some (.ref 78), some (.ref 20), some (.int x1214)] [.int c1276.1] (HX c1276.2 T) 0 0 _
    obtain ⟨rfl, rfl⟩ := ai_smP h
    exact ev_end rfl
  rcases ai_ifE h with ⟨hc, h⟩ | ⟨hs3, h⟩
  · refine ev_swi (k := 3) (t := 95) rfl hc (by decide) (by decide) rfl rfl ?_
    refine ev_go 4 (pc' := 101) (L' := [some (.ref 78), some (.ref 20), some (.int x1214)]) (st' := [.int 0, .ref 80, .ref 20]) (h' := (HX w T)) (cs' := 0) (sl' := 0) rfl ?_
    obtain ⟨v1277, hq, h⟩ := ai_bdE h
    refine ev_iald rfl rfl hq ?_
    refine ev_go 3 (pc' := 107) (L' := [some (.ref 78), some (.ref 20), some (.int x1214)]) (st' := [.int 1, .ref 80, .int v1277, .ref 20]) (h' := (HX w T)) (cs' := 0) (sl' := 0) rfl ?_
    obtain ⟨v1278, hq, h⟩ := ai_bdE h
    refine ev_iald rfl rfl hq ?_
    obtain ⟨c1285, hq, h⟩ := ai_bdE h
    refine ev_call (M' := msea_putSkin) (L' := [some (.ref 20), some (.int v1277), some (.int v1278), none]) (rest := []) (rv := some (.int c1285.1)) (h' := (HX c1285.2 T)) rfl (Esea_putSkin_20 v1277 v1278 w _ _ hq T) ?_
    show ai_ev D1 mtxt_tellItem 111 [some (.ref 78), some (.ref 20), some (.int x1214)] [.int c1285.1] (HX c1285.2 T) 0 0 _
    obtain ⟨rfl, rfl⟩ := ai_smP h
    exact ev_end rfl
  rcases ai_ifE h with ⟨hc, h⟩ | ⟨hs4, h⟩
  · refine ev_swi (k := 4) (t := 112) rfl hc (by decide) (by decide) rfl rfl ?_
    refine ev_go 5 (pc' := 121) (L' := [some (.ref 78), some (.ref 20), some (.int x1214)]) (st' := [.int 0, .ref 80, .ref 26]) (h' := (HX w T)) (cs' := 0) (sl' := 0) rfl ?_
    obtain ⟨v1286, hq, h⟩ := ai_bdE h
    refine ev_iald rfl rfl hq ?_
    refine ev_go 3 (pc' := 127) (L' := [some (.ref 78), some (.ref 20), some (.int x1214)]) (st' := [.int 1, .ref 80, .int v1286, .ref 26]) (h' := (HX w T)) (cs' := 0) (sl' := 0) rfl ?_
    obtain ⟨v1287, hq, h⟩ := ai_bdE h
    refine ev_iald rfl rfl hq ?_
    refine ev_go 3 (pc' := 133) (L' := [some (.ref 78), some (.ref 20), some (.int x1214)]) (st' := [.int 2, .ref 80, .int v1287, .int v1286, .ref 26]) (h' := (HX w T)) (cs' := 0) (sl' := 0) rfl ?_
    obtain ⟨v1288, hq, h⟩ := ai_bdE h
    refine ev_iald rfl rfl hq ?_
    obtain ⟨c1299, hq, h⟩ := ai_bdE h
    refine ev_call (M' := mthg_add) (L' := [some (.ref 26), some (.int v1286), some (.int v1287), some (.int v1288)]) (rest := []) (rv := some (.int c1299.1)) (h' := (HX c1299.2 T)) rfl (Ethg_add_26 v1286 v1287 v1288 w _ _ hq T) ?_
    show ai_ev D1 mtxt_tellItem 137 [some (.ref 78), some (.ref 20), some (.int x1214)] [.int c1299.1] (HX c1299.2 T) 0 0 _
    obtain ⟨rfl, rfl⟩ := ai_smP h
    exact ev_end rfl
  rcases ai_ifE h with ⟨hc, h⟩ | ⟨hs5, h⟩
  · refine ev_swi (k := 5) (t := 138) rfl hc (by decide) (by decide) rfl rfl ?_
    refine ev_go 4 (pc' := 144) (L' := [some (.ref 78), some (.ref 20), some (.int x1214)]) (st' := [.int 0, .ref 80, .ref 20]) (h' := (HX w T)) (cs' := 0) (sl' := 0) rfl ?_
    obtain ⟨v1300, hq, h⟩ := ai_bdE h
    refine ev_iald rfl rfl hq ?_
    refine ev_go 3 (pc' := 150) (L' := [some (.ref 78), some (.ref 20), some (.int x1214)]) (st' := [.int 1, .ref 80, .int v1300, .ref 20]) (h' := (HX w T)) (cs' := 0) (sl' := 0) rfl ?_
    obtain ⟨v1301, hq, h⟩ := ai_bdE h
    refine ev_iald rfl rfl hq ?_
    refine ev_go 3 (pc' := 156) (L' := [some (.ref 78), some (.ref 20), some (.int x1214)]) (st' := [.int 2, .ref 80, .int v1301, .int v1300, .ref 20]) (h' := (HX w T)) (cs' := 0) (sl' := 0) rfl ?_
    obtain ⟨v1302, hq, h⟩ := ai_bdE h
    refine ev_iald rfl rfl hq ?_
    obtain ⟨c1319, hq, h⟩ := ai_bdE h
    refine ev_call (M' := msea_addLift) (L' := [some (.ref 20), some (.int v1300), some (.int v1301), some (.int v1302)]) (rest := []) (rv := some (.int c1319.1)) (h' := (HX c1319.2 T)) rfl (Esea_addLift_20 v1300 v1301 v1302 w _ _ hq T) ?_
    show ai_ev D1 mtxt_tellItem 160 [some (.ref 78), some (.ref 20), some (.int x1214)] [.int c1319.1] (HX c1319.2 T) 0 0 _
    obtain ⟨rfl, rfl⟩ := ai_smP h
    exact ev_end rfl
  rcases ai_ifE h with ⟨hc, h⟩ | ⟨hs6, h⟩
  · refine ev_swi (k := 6) (t := 161) rfl hc (by decide) (by decide) rfl rfl ?_
    refine ev_go 4 (pc' := 167) (L' := [some (.ref 78), some (.ref 20), some (.int x1214)]) (st' := [.int 0, .ref 80, .ref 20]) (h' := (HX w T)) (cs' := 0) (sl' := 0) rfl ?_
    obtain ⟨v1320, hq, h⟩ := ai_bdE h
    refine ev_iald rfl rfl hq ?_
    obtain ⟨c1327, hq, h⟩ := ai_bdE h
    refine ev_call (M' := msea_addTown) (L' := [some (.ref 20), some (.int v1320), none]) (rest := []) (rv := some (.int c1327.1)) (h' := (HX c1327.2 T)) rfl (Esea_addTown_20 n v1320 w _ _ hq T) ?_
    show ai_ev D1 mtxt_tellItem 171 [some (.ref 78), some (.ref 20), some (.int x1214)] [.int c1327.1] (HX c1327.2 T) 0 0 _
    obtain ⟨rfl, rfl⟩ := ai_smP h
    exact ev_end rfl
  refine ev_swo (t := 172) (lo := 0) (n := 7) rfl (sw_out 0 7 (fun k hk => by match k, hk with | 0, _ => exact hs0 | 1, _ => exact hs1 | 2, _ => exact hs2 | 3, _ => exact hs3 | 4, _ => exact hs4 | 5, _ => exact hs5 | 6, _ => exact hs6 | k + 7, hk => exact absurd hk (by omega))) ⟨rfl, by decide⟩ rfl ?_
  refine ev_go 4 (pc' := 178) (L' := [some (.ref 78), some (.ref 20), some (.int x1214)]) (st' := [.int 0, .ref 80, .ref 20]) (h' := (HX w T)) (cs' := 0) (sl' := 0) rfl ?_
  obtain ⟨v1328, hq, h⟩ := ai_bdE h
  refine ev_iald rfl rfl hq ?_
  refine ev_go 1 (pc' := 180) (L' := [some (.ref 78), some (.ref 20), some (.int x1214)]) (st' := [.int 1, .int v1328, .ref 20]) (h' := (HX w T)) (cs' := 0) (sl' := 0) rfl ?_
  obtain ⟨c1332, hq, h⟩ := ai_bdE h
  refine ev_call (M' := msea_putDam) (L' := [some (.ref 20), some (.int v1328), some (.int 1)]) (rest := []) (rv := some (.int c1332.1)) (h' := (HX c1332.2 T)) rfl (Esea_putDam_20 v1328 1 w _ _ hq T) ?_
  show ai_ev D1 mtxt_tellItem 183 [some (.ref 78), some (.ref 20), some (.int x1214)] [.int c1332.1] (HX c1332.2 T) 0 0 _
  obtain ⟨rfl, rfl⟩ := ai_smP h
  exact ev_end rfl
