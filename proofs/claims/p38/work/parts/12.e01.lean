set_option maxHeartbeats 40000000 in
set_option maxRecDepth 100000 in
theorem Em_bad_89 (w : WM) (r : Int32) (w' : WM) (h : Fm_bad_89 w = some (r, w')) (P : Nat → ai_E) (T : ai_H) : ai_ev D1 mm_bad 0 [some (.ref 89)] [] (HM P w T) 0 0 (some (.int r), HM P w' T) := by
  unfold Fm_bad_89 at h
  refine ev_go 2 (pc' := 3) (L' := [some (.ref 89)]) (st' := [.int (-2), .ref 89]) (h' := (HM P w T)) (cs' := 0) (sl' := 0) rfl ?_
  obtain ⟨c128, hq, h⟩ := ai_bdE h
  refine ev_call (M' := mm_met) (L' := [some (.ref 89), some (.int (-2))]) (rest := []) (rv := some (.int c128.1)) (h' := (HM P c128.2 T)) rfl (Em_met_89 (-2) w _ _ hq P T) ?_
  show ai_ev D1 mm_bad 6 [some (.ref 89)] [.int c128.1] (HM P c128.2 T) 0 0 _
  obtain ⟨rfl, rfl⟩ := ai_smP h
  exact ev_end rfl
set_option maxHeartbeats 40000000 in
set_option maxRecDepth 100000 in
theorem Em_ballast_89 (x122 : Int32) (x123 : Int32) (w : WM) (r : Int32) (w' : WM) (h : Fm_ballast_89 x122 x123 w = some (r, w')) (P : Nat → ai_E) (T : ai_H) : ai_ev D1 mm_ballast 0 [some (.ref 89), some (.int x122), some (.int x123)] [] (HM P w T) 0 0 (some (.int r), HM P w' T) := by
  unfold Fm_ballast_89 at h
  refine ev_go 2 (pc' := 2) (L' := [some (.ref 89), some (.int x122), some (.int x123)]) (st' := [.int x122, .ref 89]) (h' := (HM P w T)) (cs' := 0) (sl' := 0) rfl ?_
  obtain ⟨c127, hq, h⟩ := ai_bdE h
  refine ev_call (M' := mm_isThing) (L' := [some (.ref 89), some (.int x122)]) (rest := []) (rv := some (.int c127.1)) (h' := (HM P c127.2 T)) rfl (Em_isThing_89 x122 w _ _ hq P T) ?_
  show ai_ev D1 mm_ballast 5 [some (.ref 89), some (.int x122), some (.int x123)] [.int c127.1] (HM P c127.2 T) 0 0 _
  rcases ai_ifE h with ⟨hc, h⟩ | ⟨hc, h⟩
  · refine ev_if_eq (t := 32) rfl rfl (fun _ => ?_) (fun c9 => absurd hc c9)
    refine ev_go 1 (pc' := 33) (L' := [some (.ref 89), some (.int x122), some (.int x123)]) (st' := [.ref 89]) (h' := (HM P c127.2 T)) (cs' := 0) (sl' := 0) rfl ?_
    obtain ⟨c129, hq, h⟩ := ai_bdE h
    refine ev_call (M' := mm_bad) (L' := [some (.ref 89)]) (rest := []) (rv := some (.int c129.1)) (h' := (HM P c129.2 T)) rfl (Em_bad_89 c127.2 _ _ hq P T) ?_
    show ai_ev D1 mm_ballast 36 [some (.ref 89), some (.int x122), some (.int x123)] [.int c129.1] (HM P c129.2 T) 0 0 _
    obtain ⟨rfl, rfl⟩ := ai_smP h
    exact ev_end rfl
  · refine ev_if_eq (t := 32) rfl rfl (fun c9 => absurd c9 hc) (fun _ => ?_)
    refine ev_go 4 (pc' := 14) (L' := [some (.ref 89), some (.int x122), some (.int x123)]) (st' := [.long 99, .long 0, .long (x123).toInt64]) (h' := (HM P c127.2 T)) (cs' := 0) (sl' := 0) rfl ?_
    obtain ⟨c130, hq, h⟩ := ai_bdE h
    refine ev_call (M' := mm_in) (L' := [some (.long (x123).toInt64), none, some (.long 0), none, some (.long 99), none]) (rest := []) (rv := some (.int c130)) (h' := (HM P c127.2 T)) rfl (Em_in (x123).toInt64 0 99 _ hq (HM P c127.2 T)) ?_
    show ai_ev D1 mm_ballast 17 [some (.ref 89), some (.int x122), some (.int x123)] [.int c130] (HM P c127.2 T) 0 0 _
    rcases ai_ifE h with ⟨hc, h⟩ | ⟨hc, h⟩
    · refine ev_if_eq (t := 32) rfl rfl (fun _ => ?_) (fun c9 => absurd hc c9)
      refine ev_go 1 (pc' := 33) (L' := [some (.ref 89), some (.int x122), some (.int x123)]) (st' := [.ref 89]) (h' := (HM P c127.2 T)) (cs' := 0) (sl' := 0) rfl ?_
      obtain ⟨c131, hq, h⟩ := ai_bdE h
      refine ev_call (M' := mm_bad) (L' := [some (.ref 89)]) (rest := []) (rv := some (.int c131.1)) (h' := (HM P c131.2 T)) rfl (Em_bad_89 c127.2 _ _ hq P T) ?_
      show ai_ev D1 mm_ballast 36 [some (.ref 89), some (.int x122), some (.int x123)] [.int c131.1] (HM P c131.2 T) 0 0 _
      obtain ⟨rfl, rfl⟩ := ai_smP h
      exact ev_end rfl
    · refine ev_if_eq (t := 32) rfl rfl (fun c9 => absurd c9 hc) (fun _ => ?_)
      refine ev_go 5 (pc' := 26) (L' := [some (.ref 89), some (.int x122), some (.int x123)]) (st' := [.int x123, .int (85 + x122), .ref 89]) (h' := (HM P c127.2 T)) (cs' := 0) (sl' := 0) rfl ?_
      obtain ⟨c132, hq, h⟩ := ai_bdE h
      refine ev_call (M' := mm_becomes) (L' := [some (.ref 89), some (.int (85 + x122)), some (.int x123), none]) (rest := []) (rv := some (.int c132.1)) (h' := (HM P c132.2 T)) rfl (Em_becomes_89 (85 + x122) x123 c127.2 _ _ hq P T) ?_
      show ai_ev D1 mm_ballast 29 [some (.ref 89), some (.int x122), some (.int x123)] [.int c132.1] (HM P c132.2 T) 0 0 _
      refine ev_go 1 (pc' := 36) (L' := [some (.ref 89), some (.int x122), some (.int x123)]) (st' := [.int c132.1]) (h' := (HM P c132.2 T)) (cs' := 0) (sl' := 0) rfl ?_
      obtain ⟨rfl, rfl⟩ := ai_smP h
      exact ev_end rfl
set_option maxHeartbeats 40000000 in
set_option maxRecDepth 100000 in
theorem Em_isPlaceOf_89 (x140 : Int32) (x141 : Int32) (w : WM) (r : Int32) (w' : WM) (h : Fm_isPlaceOf_89 x140 x141 w = some (r, w')) (P : Nat → ai_E) (T : ai_H) : ai_ev D1 mm_isPlaceOf 0 [some (.ref 89), some (.int x140), some (.int x141)] [] (HM P w T) 0 0 (some (.int r), HM P w' T) := by
  unfold Fm_isPlaceOf_89 at h
  refine ev_go 1 (pc' := 1) (L' := [some (.ref 89), some (.int x140), some (.int x141)]) (st' := [.int x141]) (h' := (HM P w T)) (cs' := 0) (sl' := 0) rfl ?_
  rcases ai_ifE h with ⟨hc, h⟩ | ⟨hc, h⟩
  · refine ev_if_lt (t := 30) rfl rfl (fun _ => ?_) (fun c9 => absurd hc c9)
    refine ev_go 1 (pc' := 31) (L' := [some (.ref 89), some (.int x140), some (.int x141)]) (st' := [.int 0]) (h' := (HM P w T)) (cs' := 0) (sl' := 0) rfl ?_
    obtain ⟨rfl, rfl⟩ := ai_smP h
    exact ev_end rfl
  · refine ev_if_lt (t := 30) rfl rfl (fun c9 => absurd c9 hc) (fun _ => ?_)
    refine ev_go 5 (pc' := 10) (L' := [some (.ref 89), some (.int x140), some (.int x141)]) (st' := [.int (x141 / 10), .int x140, .ref 89]) (h' := (HM P w T)) (cs' := 0) (sl' := 0) rfl ?_
    obtain ⟨c142, hq, h⟩ := ai_bdE h
    refine ev_call (M' := mm_isCellOf) (L' := [some (.ref 89), some (.int x140), some (.int (x141 / 10))]) (rest := []) (rv := some (.int c142.1)) (h' := (HM P c142.2 T)) rfl (Em_isCellOf_89 x140 (x141 / 10) w _ _ hq P T) ?_
    show ai_ev D1 mm_isPlaceOf 13 [some (.ref 89), some (.int x140), some (.int x141)] [.int c142.1] (HM P c142.2 T) 0 0 _
    rcases ai_ifE h with ⟨hc, h⟩ | ⟨hc, h⟩
    · refine ev_if_eq (t := 30) rfl rfl (fun _ => ?_) (fun c9 => absurd hc c9)
      refine ev_go 1 (pc' := 31) (L' := [some (.ref 89), some (.int x140), some (.int x141)]) (st' := [.int 0]) (h' := (HM P c142.2 T)) (cs' := 0) (sl' := 0) rfl ?_
      obtain ⟨rfl, rfl⟩ := ai_smP h
      exact ev_end rfl
    · refine ev_if_eq (t := 30) rfl rfl (fun c9 => absurd c9 hc) (fun _ => ?_)
      refine ev_go 3 (pc' := 20) (L' := [some (.ref 89), some (.int x140), some (.int x141)]) (st' := [.int (x141 - x141 / 10 * 10)]) (h' := (HM P c142.2 T)) (cs' := 0) (sl' := 0) rfl ?_
      obtain ⟨c143, hq, h⟩ := ai_bdE h
      refine ev_call (M' := mm_isLayer) (L' := [some (.int (x141 - x141 / 10 * 10))]) (rest := []) (rv := some (.int c143)) (h' := (HM P c142.2 T)) rfl (Em_isLayer (x141 - x141 / 10 * 10) _ hq (HM P c142.2 T)) ?_
      show ai_ev D1 mm_isPlaceOf 23 [some (.ref 89), some (.int x140), some (.int x141)] [.int c143] (HM P c142.2 T) 0 0 _
      rcases ai_ifE h with ⟨hc, h⟩ | ⟨hc, h⟩
      · refine ev_if_eq (t := 30) rfl rfl (fun _ => ?_) (fun c9 => absurd hc c9)
        refine ev_go 1 (pc' := 31) (L' := [some (.ref 89), some (.int x140), some (.int x141)]) (st' := [.int 0]) (h' := (HM P c142.2 T)) (cs' := 0) (sl' := 0) rfl ?_
        obtain ⟨rfl, rfl⟩ := ai_smP h
        exact ev_end rfl
      · refine ev_if_eq (t := 30) rfl rfl (fun c9 => absurd c9 hc) (fun _ => ?_)
        refine ev_go 2 (pc' := 31) (L' := [some (.ref 89), some (.int x140), some (.int x141)]) (st' := [.int 1]) (h' := (HM P c142.2 T)) (cs' := 0) (sl' := 0) rfl ?_
        obtain ⟨rfl, rfl⟩ := ai_smP h
        exact ev_end rfl
set_option maxHeartbeats 40000000 in
set_option maxRecDepth 100000 in
theorem Em_liftTo_89 (x136 : Int32) (x137 : Int32) (x138 : Int32) (x139 : Int32) (w : WM) (r : Int32) (w' : WM) (h : Fm_liftTo_89 x136 x137 x138 x139 w = some (r, w')) (P : Nat → ai_E) (T : ai_H) : ai_ev D1 mm_liftTo 0 [some (.ref 89), some (.int x136), some (.int x137), some (.int x138), some (.int x139), none] [] (HM P w T) 0 0 (some (.int r), HM P w' T) := by
  unfold Fm_liftTo_89 at h
  refine ev_go 3 (pc' := 3) (L' := [some (.ref 89), some (.int x136), some (.int x137), some (.int x138), some (.int x139), none]) (st' := [.int x137, .int x136, .ref 89]) (h' := (HM P w T)) (cs' := 0) (sl' := 0) rfl ?_
  obtain ⟨c144, hq, h⟩ := ai_bdE h
  refine ev_call (M' := mm_isPlaceOf) (L' := [some (.ref 89), some (.int x136), some (.int x137)]) (rest := []) (rv := some (.int c144.1)) (h' := (HM P c144.2 T)) rfl (Em_isPlaceOf_89 x136 x137 w _ _ hq P T) ?_
  show ai_ev D1 mm_liftTo 6 [some (.ref 89), some (.int x136), some (.int x137), some (.int x138), some (.int x139), none] [.int c144.1] (HM P c144.2 T) 0 0 _
  rcases ai_ifE h with ⟨hc, h⟩ | ⟨hc, h⟩
  · refine ev_if_eq (t := 36) rfl rfl (fun _ => ?_) (fun c9 => absurd hc c9)
    refine ev_go 1 (pc' := 38) (L' := [some (.ref 89), some (.int x136), some (.int x137), some (.int x138), some (.int x139), none]) (st' := [.int (-2)]) (h' := (HM P c144.2 T)) (cs' := 0) (sl' := 0) rfl ?_
    obtain ⟨rfl, rfl⟩ := ai_smP h
    exact ev_end rfl
  · refine ev_if_eq (t := 36) rfl rfl (fun c9 => absurd c9 hc) (fun _ => ?_)
    refine ev_go 3 (pc' := 12) (L' := [some (.ref 89), some (.int x136), some (.int x137), some (.int x138), some (.int x139), none]) (st' := [.int x138, .int x136, .ref 89]) (h' := (HM P c144.2 T)) (cs' := 0) (sl' := 0) rfl ?_
    obtain ⟨c145, hq, h⟩ := ai_bdE h
    refine ev_call (M' := mm_isPlaceOf) (L' := [some (.ref 89), some (.int x136), some (.int x138)]) (rest := []) (rv := some (.int c145.1)) (h' := (HM P c145.2 T)) rfl (Em_isPlaceOf_89 x136 x138 c144.2 _ _ hq P T) ?_
    show ai_ev D1 mm_liftTo 15 [some (.ref 89), some (.int x136), some (.int x137), some (.int x138), some (.int x139), none] [.int c145.1] (HM P c145.2 T) 0 0 _
    rcases ai_ifE h with ⟨hc, h⟩ | ⟨hc, h⟩
    · refine ev_if_eq (t := 36) rfl rfl (fun _ => ?_) (fun c9 => absurd hc c9)
      refine ev_go 1 (pc' := 38) (L' := [some (.ref 89), some (.int x136), some (.int x137), some (.int x138), some (.int x139), none]) (st' := [.int (-2)]) (h' := (HM P c145.2 T)) (cs' := 0) (sl' := 0) rfl ?_
      obtain ⟨rfl, rfl⟩ := ai_smP h
      exact ev_end rfl
    · refine ev_if_eq (t := 36) rfl rfl (fun c9 => absurd c9 hc) (fun _ => ?_)
      refine ev_go 2 (pc' := 20) (L' := [some (.ref 89), some (.int x136), some (.int x137), some (.int x138), some (.int x139), none]) (st' := [.int x138, .int x137]) (h' := (HM P c145.2 T)) (cs' := 0) (sl' := 0) rfl ?_
      rcases ai_ifE h with ⟨hc, h⟩ | ⟨hc, h⟩
      · refine ev_ic_eq (t := 36) rfl rfl (fun _ => ?_) (fun c9 => absurd hc c9)
        refine ev_go 1 (pc' := 38) (L' := [some (.ref 89), some (.int x136), some (.int x137), some (.int x138), some (.int x139), none]) (st' := [.int (-2)]) (h' := (HM P c145.2 T)) (cs' := 0) (sl' := 0) rfl ?_
        obtain ⟨rfl, rfl⟩ := ai_smP h
        exact ev_end rfl
      · refine ev_ic_eq (t := 36) rfl rfl (fun c9 => absurd c9 hc) (fun _ => ?_)
        refine ev_go 4 (pc' := 30) (L' := [some (.ref 89), some (.int x136), some (.int x137), some (.int x138), some (.int x139), none]) (st' := [.long 9, .long 1, .long (x139).toInt64]) (h' := (HM P c145.2 T)) (cs' := 0) (sl' := 0) rfl ?_
        obtain ⟨c146, hq, h⟩ := ai_bdE h
        refine ev_call (M' := mm_in) (L' := [some (.long (x139).toInt64), none, some (.long 1), none, some (.long 9), none]) (rest := []) (rv := some (.int c146)) (h' := (HM P c145.2 T)) rfl (Em_in (x139).toInt64 1 9 _ hq (HM P c145.2 T)) ?_
        show ai_ev D1 mm_liftTo 33 [some (.ref 89), some (.int x136), some (.int x137), some (.int x138), some (.int x139), none] [.int c146] (HM P c145.2 T) 0 0 _
        rcases ai_ifE h with ⟨hc, h⟩ | ⟨hc, h⟩
        · refine ev_if_ne (t := 39) rfl rfl (fun c9 => absurd hc c9) (fun _ => ?_)
          refine ev_go 1 (pc' := 38) (L' := [some (.ref 89), some (.int x136), some (.int x137), some (.int x138), some (.int x139), none]) (st' := [.int (-2)]) (h' := (HM P c145.2 T)) (cs' := 0) (sl' := 0) rfl ?_
          obtain ⟨rfl, rfl⟩ := ai_smP h
          exact ev_end rfl
        · refine ev_if_ne (t := 39) rfl rfl (fun _ => ?_) (fun c9 => absurd c9 hc)
          refine ev_go 5 (pc' := 46) (L' := [some (.ref 89), some (.int x136), some (.int x137), some (.int x138), some (.int x139), none]) (st' := [.int (x136 + 3), .ref 90]) (h' := (HM P c145.2 T)) (cs' := 0) (sl' := 0) rfl ?_
          obtain ⟨v147, hq, h⟩ := ai_bdE h
          refine ev_iald rfl rfl hq ?_
          refine ev_go 3 (pc' := 53) (L' := [some (.ref 89), some (.int x136), some (.int x137), some (.int x138), some (.int x139), some (.int v147)]) (st' := [.int 10, .int v147]) (h' := (HM P c145.2 T)) (cs' := 0) (sl' := 0) rfl ?_
          rcases ai_ifE h with ⟨hc, h⟩ | ⟨hc, h⟩
          · refine ev_ic_ne (t := 59) rfl rfl (fun c9 => absurd hc c9) (fun _ => ?_)
            refine ev_go 1 (pc' := 58) (L' := [some (.ref 89), some (.int x136), some (.int x137), some (.int x138), some (.int x139), some (.int v147)]) (st' := [.int (-4)]) (h' := (HM P c145.2 T)) (cs' := 0) (sl' := 0) rfl ?_
            obtain ⟨rfl, rfl⟩ := ai_smP h
            exact ev_end rfl
          · refine ev_ic_ne (t := 59) rfl rfl (fun _ => ?_) (fun c9 => absurd c9 hc)
            refine ev_go 8 (pc' := 71) (L' := [some (.ref 89), some (.int x136), some (.int x137), some (.int x138), some (.int x139), some (.int v147)]) (st' := [.int x137, .int ((x136 + 91) + v147), .ref 90]) (h' := (HM P c145.2 T)) (cs' := 0) (sl' := 0) rfl ?_
            obtain ⟨q148, hq, h⟩ := ai_bdE h
            refine ev_iast rfl rfl hq ?_
            rw [HMs_90]
            refine ev_go 8 (pc' := 84) (L' := [some (.ref 89), some (.int x136), some (.int x137), some (.int x138), some (.int x139), some (.int v147)]) (st' := [.int x138, .int ((x136 + 101) + v147), .ref 90]) (h' := (HM P (u_m_w c145.2 q148) T)) (cs' := 0) (sl' := 0) rfl ?_
            obtain ⟨q149, hq, h⟩ := ai_bdE h
            refine ev_iast rfl rfl hq ?_
            rw [HMs_90]
            refine ev_go 8 (pc' := 98) (L' := [some (.ref 89), some (.int x136), some (.int x137), some (.int x138), some (.int x139), some (.int v147)]) (st' := [.int x139, .int ((x136 + 111) + v147), .ref 90]) (h' := (HM P (u_m_w (u_m_w c145.2 q148) q149) T)) (cs' := 0) (sl' := 0) rfl ?_
            obtain ⟨q150, hq, h⟩ := ai_bdE h
            refine ev_iast rfl rfl hq ?_
            rw [HMs_90]
            refine ev_go 6 (pc' := 107) (L' := [some (.ref 89), some (.int x136), some (.int x137), some (.int x138), some (.int x139), some (.int v147)]) (st' := [.int (x136 + 3), .ref 90, .int (x136 + 3), .ref 90]) (h' := (HM P (u_m_w (u_m_w (u_m_w c145.2 q148) q149) q150) T)) (cs' := 0) (sl' := 0) rfl ?_
            obtain ⟨v151, hq, h⟩ := ai_bdE h
            refine ev_iald rfl rfl hq ?_
            refine ev_go 2 (pc' := 110) (L' := [some (.ref 89), some (.int x136), some (.int x137), some (.int x138), some (.int x139), some (.int v147)]) (st' := [.int (v151 + 1), .int (x136 + 3), .ref 90]) (h' := (HM P (u_m_w (u_m_w (u_m_w c145.2 q148) q149) q150) T)) (cs' := 0) (sl' := 0) rfl ?_
            obtain ⟨q152, hq, h⟩ := ai_bdE h
            refine ev_iast rfl rfl hq ?_
            rw [HMs_90]
            refine ev_go 1 (pc' := 113) (L' := [some (.ref 89), some (.int x136), some (.int x137), some (.int x138), some (.int x139), some (.int v147)]) (st' := [.int v147]) (h' := (HM P (u_m_w (u_m_w (u_m_w (u_m_w c145.2 q148) q149) q150) q152) T)) (cs' := 0) (sl' := 0) rfl ?_
            obtain ⟨rfl, rfl⟩ := ai_smP h
            exact ev_end rfl
set_option maxHeartbeats 40000000 in
set_option maxRecDepth 100000 in
theorem Em_lift_89 (x133 : Int32) (x134 : Int32) (x135 : Int32) (w : WM) (r : Int32) (w' : WM) (h : Fm_lift_89 x133 x134 x135 w = some (r, w')) (P : Nat → ai_E) (T : ai_H) : ai_ev D1 mm_lift 0 [some (.ref 89), some (.int x133), some (.int x134), some (.int x135)] [] (HM P w T) 0 0 (some (.int r), HM P w' T) := by
  unfold Fm_lift_89 at h
  refine ev_go 6 (pc' := 6) (L' := [some (.ref 89), some (.int x133), some (.int x134), some (.int x135)]) (st' := [.int x135, .int x134, .int x133, .int 0, .ref 89, .ref 89]) (h' := (HM P w T)) (cs' := 0) (sl' := 0) rfl ?_
  obtain ⟨c153, hq, h⟩ := ai_bdE h
  refine ev_call (M' := mm_liftTo) (L' := [some (.ref 89), some (.int 0), some (.int x133), some (.int x134), some (.int x135), none]) (rest := [.ref 89]) (rv := some (.int c153.1)) (h' := (HM P c153.2 T)) rfl (Em_liftTo_89 0 x133 x134 x135 w _ _ hq P T) ?_
  show ai_ev D1 mm_lift 9 [some (.ref 89), some (.int x133), some (.int x134), some (.int x135)] [.int c153.1, .ref 89] (HM P c153.2 T) 0 0 _
  obtain ⟨c154, hq, h⟩ := ai_bdE h
  refine ev_call (M' := mm_met) (L' := [some (.ref 89), some (.int c153.1)]) (rest := []) (rv := some (.int c154.1)) (h' := (HM P c154.2 T)) rfl (Em_met_89 c153.1 c153.2 _ _ hq P T) ?_
  show ai_ev D1 mm_lift 12 [some (.ref 89), some (.int x133), some (.int x134), some (.int x135)] [.int c154.1] (HM P c154.2 T) 0 0 _
  obtain ⟨rfl, rfl⟩ := ai_smP h
  exact ev_end rfl
set_option maxHeartbeats 40000000 in
set_option maxRecDepth 100000 in
theorem EGm_townTo_89 : ∀ n : Nat, (∀ (y160 : Int32) (y161 : Int32) (y162 : Int32) (y163 : Int32) (w : WM) (r : Int32) (w' : WM), Gm_townTo_89 n 0 y160 y161 y162 y163 w = some (r, w') → ∀ (P : Nat → ai_E) (T : ai_H), ai_ev D1 mm_townTo 24 [some (.ref 89), some (.int y160), some (.int y161), some (.int y162), some (.int y163)] [] (HM P w T) 0 0 (some (.int r), HM P w' T)) := by
  intro n
  induction n with
  | zero =>
    exact (fun _ _ _ _ _ _ _ h => by cases h)
  | succ n ih0 =>
    intro y160 y161 y162 y163 w r w' h P T
    simp only [Gm_townTo_89] at h
    refine ev_go 2 (pc' := 27) (L' := [some (.ref 89), some (.int y160), some (.int y161), some (.int y162), some (.int y163)]) (st' := [.int y162, .int y163]) (h' := (HM P w T)) (cs' := 0) (sl' := 0) rfl ?_
    rcases ai_ifE h with ⟨hc, h⟩ | ⟨hc, h⟩
    · refine ev_ic_ge (t := 55) rfl rfl (fun _ => ?_) (fun c9 => absurd hc c9)
      refine ev_go 2 (pc' := 58) (L' := [some (.ref 89), some (.int y160), some (.int y161), some (.int y162), some (.int y163)]) (st' := [.int 6, .int y162]) (h' := (HM P w T)) (cs' := 0) (sl' := 0) rfl ?_
      rcases ai_ifE h with ⟨hc, h⟩ | ⟨hc, h⟩
      · refine ev_ic_ne (t := 64) rfl rfl (fun c9 => absurd hc c9) (fun _ => ?_)
        refine ev_go 1 (pc' := 63) (L' := [some (.ref 89), some (.int y160), some (.int y161), some (.int y162), some (.int y163)]) (st' := [.int (-4)]) (h' := (HM P w T)) (cs' := 0) (sl' := 0) rfl ?_
        obtain ⟨rfl, rfl⟩ := ai_smP h
        exact ev_end rfl
      · refine ev_ic_ne (t := 64) rfl rfl (fun _ => ?_) (fun c9 => absurd c9 hc)
        refine ev_go 8 (pc' := 75) (L' := [some (.ref 89), some (.int y160), some (.int y161), some (.int y162), some (.int y163)]) (st' := [.int y161, .int ((y160 + 121) + y162), .ref 90]) (h' := (HM P w T)) (cs' := 0) (sl' := 0) rfl ?_
        obtain ⟨q164, hq, h⟩ := ai_bdE h
        refine ev_iast rfl rfl hq ?_
        rw [HMs_90]
        refine ev_go 6 (pc' := 84) (L' := [some (.ref 89), some (.int y160), some (.int y161), some (.int y162), some (.int y163)]) (st' := [.int (y160 + 4), .ref 90, .int (y160 + 4), .ref 90]) (h' := (HM P (u_m_w w q164) T)) (cs' := 0) (sl' := 0) rfl ?_
        obtain ⟨v165, hq, h⟩ := ai_bdE h
        refine ev_iald rfl rfl hq ?_
        refine ev_go 2 (pc' := 87) (L' := [some (.ref 89), some (.int y160), some (.int y161), some (.int y162), some (.int y163)]) (st' := [.int (v165 + 1), .int (y160 + 4), .ref 90]) (h' := (HM P (u_m_w w q164) T)) (cs' := 0) (sl' := 0) rfl ?_
        obtain ⟨q166, hq, h⟩ := ai_bdE h
        refine ev_iast rfl rfl hq ?_
        rw [HMs_90]
        refine ev_go 1 (pc' := 89) (L' := [some (.ref 89), some (.int y160), some (.int y161), some (.int y162), some (.int y163)]) (st' := [.int y162]) (h' := (HM P (u_m_w (u_m_w w q164) q166) T)) (cs' := 0) (sl' := 0) rfl ?_
        obtain ⟨rfl, rfl⟩ := ai_smP h
        exact ev_end rfl
    · refine ev_ic_ge (t := 55) rfl rfl (fun c9 => absurd c9 hc) (fun _ => ?_)
      refine ev_go 7 (pc' := 41) (L' := [some (.ref 89), some (.int y160), some (.int y161), some (.int y162), some (.int y163)]) (st' := [.int ((y160 + 121) + y163), .ref 90]) (h' := (HM P w T)) (cs' := 0) (sl' := 0) rfl ?_
      obtain ⟨v167, hq, h⟩ := ai_bdE h
      refine ev_iald rfl rfl hq ?_
      refine ev_go 1 (pc' := 43) (L' := [some (.ref 89), some (.int y160), some (.int y161), some (.int y162), some (.int y163)]) (st' := [.int y161, .int v167]) (h' := (HM P w T)) (cs' := 0) (sl' := 0) rfl ?_
      rcases ai_ifE h with ⟨hc, h⟩ | ⟨hc, h⟩
      · refine ev_ic_ne (t := 49) rfl rfl (fun c9 => absurd hc c9) (fun _ => ?_)
        refine ev_go 1 (pc' := 48) (L' := [some (.ref 89), some (.int y160), some (.int y161), some (.int y162), some (.int y163)]) (st' := [.int (-3)]) (h' := (HM P w T)) (cs' := 0) (sl' := 0) rfl ?_
        obtain ⟨rfl, rfl⟩ := ai_smP h
        exact ev_end rfl
      · refine ev_ic_ne (t := 49) rfl rfl (fun _ => ?_) (fun c9 => absurd c9 hc)
        refine ev_go 2 (pc' := 24) (L' := [some (.ref 89), some (.int y160), some (.int y161), some (.int y162), some (.int (y163 + 1))]) (st' := []) (h' := (HM P w T)) (cs' := 0) (sl' := 0) rfl ?_
        exact ih0 _ _ _ _ _ _ _ h P T
set_option maxHeartbeats 40000000 in
set_option maxRecDepth 100000 in
theorem Em_townTo_89 (n : Nat) (x156 : Int32) (x157 : Int32) (w : WM) (r : Int32) (w' : WM) (h : Fm_townTo_89 n x156 x157 w = some (r, w')) (P : Nat → ai_E) (T : ai_H) : ai_ev D1 mm_townTo 0 [some (.ref 89), some (.int x156), some (.int x157), none, none] [] (HM P w T) 0 0 (some (.int r), HM P w' T) := by
  unfold Fm_townTo_89 at h
  have ih0 := EGm_townTo_89 n
  refine ev_go 3 (pc' := 3) (L' := [some (.ref 89), some (.int x156), some (.int x157), none, none]) (st' := [.int x157, .int x156, .ref 89]) (h' := (HM P w T)) (cs' := 0) (sl' := 0) rfl ?_
  obtain ⟨c158, hq, h⟩ := ai_bdE h
  refine ev_call (M' := mm_isPlaceOf) (L' := [some (.ref 89), some (.int x156), some (.int x157)]) (rest := []) (rv := some (.int c158.1)) (h' := (HM P c158.2 T)) rfl (Em_isPlaceOf_89 x156 x157 w _ _ hq P T) ?_
  show ai_ev D1 mm_townTo 6 [some (.ref 89), some (.int x156), some (.int x157), none, none] [.int c158.1] (HM P c158.2 T) 0 0 _
  rcases ai_ifE h with ⟨hc, h⟩ | ⟨hc, h⟩
  · refine ev_if_ne (t := 12) rfl rfl (fun c9 => absurd hc c9) (fun _ => ?_)
    refine ev_go 1 (pc' := 11) (L' := [some (.ref 89), some (.int x156), some (.int x157), none, none]) (st' := [.int (-2)]) (h' := (HM P c158.2 T)) (cs' := 0) (sl' := 0) rfl ?_
    obtain ⟨rfl, rfl⟩ := ai_smP h
    exact ev_end rfl
  · refine ev_if_ne (t := 12) rfl rfl (fun _ => ?_) (fun c9 => absurd c9 hc)
    refine ev_go 5 (pc' := 19) (L' := [some (.ref 89), some (.int x156), some (.int x157), none, none]) (st' := [.int (x156 + 4), .ref 90]) (h' := (HM P c158.2 T)) (cs' := 0) (sl' := 0) rfl ?_
    obtain ⟨v159, hq, h⟩ := ai_bdE h
    refine ev_iald rfl rfl hq ?_
    refine ev_go 3 (pc' := 24) (L' := [some (.ref 89), some (.int x156), some (.int x157), some (.int v159), some (.int 0)]) (st' := []) (h' := (HM P c158.2 T)) (cs' := 0) (sl' := 0) rfl ?_
    exact ih0 _ _ _ _ _ _ _ h P T
set_option maxHeartbeats 40000000 in
set_option maxRecDepth 100000 in
theorem Em_town_89 (n : Nat) (x155 : Int32) (w : WM) (r : Int32) (w' : WM) (h : Fm_town_89 n x155 w = some (r, w')) (P : Nat → ai_E) (T : ai_H) : ai_ev D1 mm_town 0 [some (.ref 89), some (.int x155)] [] (HM P w T) 0 0 (some (.int r), HM P w' T) := by
  unfold Fm_town_89 at h
  refine ev_go 4 (pc' := 4) (L' := [some (.ref 89), some (.int x155)]) (st' := [.int x155, .int 0, .ref 89, .ref 89]) (h' := (HM P w T)) (cs' := 0) (sl' := 0) rfl ?_
  obtain ⟨c168, hq, h⟩ := ai_bdE h
  refine ev_call (M' := mm_townTo) (L' := [some (.ref 89), some (.int 0), some (.int x155), none, none]) (rest := [.ref 89]) (rv := some (.int c168.1)) (h' := (HM P c168.2 T)) rfl (Em_townTo_89 n 0 x155 w _ _ hq P T) ?_
  show ai_ev D1 mm_town 7 [some (.ref 89), some (.int x155)] [.int c168.1, .ref 89] (HM P c168.2 T) 0 0 _
  obtain ⟨c169, hq, h⟩ := ai_bdE h
  refine ev_call (M' := mm_met) (L' := [some (.ref 89), some (.int c168.1)]) (rest := []) (rv := some (.int c169.1)) (h' := (HM P c169.2 T)) rfl (Em_met_89 c168.1 c168.2 _ _ hq P T) ?_
  show ai_ev D1 mm_town 10 [some (.ref 89), some (.int x155)] [.int c169.1] (HM P c169.2 T) 0 0 _
  obtain ⟨rfl, rfl⟩ := ai_smP h
  exact ev_end rfl
set_option maxHeartbeats 40000000 in
set_option maxRecDepth 100000 in
theorem Em_has (x178 : Int32) (x179 : Int32) (r : Int32) (h : Fm_has x178 x179 = some r) (hh : ai_H) : ai_ev D1 mm_has 0 [some (.int x178), some (.int x179)] [] hh 0 0 (some (.int r), hh) := by
  unfold Fm_has at h
  refine ev_go 6 (pc' := 6) (L' := [some (.int x178), some (.int x179)]) (st' := [.int 1, .int ((x178 >>> (x179 &&& 31)) &&& 1)]) (h' := hh) (cs' := 0) (sl' := 0) rfl ?_
  rcases ai_ifE h with ⟨hc, h⟩ | ⟨hc, h⟩
  · refine ev_ic_ne (t := 13) rfl rfl (fun c9 => absurd hc c9) (fun _ => ?_)
    refine ev_go 2 (pc' := 14) (L' := [some (.int x178), some (.int x179)]) (st' := [.int 1]) (h' := hh) (cs' := 0) (sl' := 0) rfl ?_
    obtain rfl := Option.some.inj h
    exact ev_end rfl
  · refine ev_ic_ne (t := 13) rfl rfl (fun _ => ?_) (fun c9 => absurd c9 hc)
    refine ev_go 1 (pc' := 14) (L' := [some (.int x178), some (.int x179)]) (st' := [.int 0]) (h' := hh) (cs' := 0) (sl' := 0) rfl ?_
    obtain rfl := Option.some.inj h
    exact ev_end rfl
set_option maxHeartbeats 40000000 in
set_option maxRecDepth 100000 in
theorem Em_damTo_89 (x172 : Int32) (x173 : Int32) (x174 : Int32) (w : WM) (r : Int32) (w' : WM) (h : Fm_damTo_89 x172 x173 x174 w = some (r, w')) (P : Nat → ai_E) (T : ai_H) : ai_ev D1 mm_damTo 0 [some (.ref 89), some (.int x172), some (.int x173), some (.int x174)] [] (HM P w T) 0 0 (some (.int r), HM P w' T) := by
  unfold Fm_damTo_89 at h
  refine ev_go 8 (pc' := 10) (L' := [some (.ref 89), some (.int x172), some (.int x173), some (.int x174)]) (st' := [.int (x172 + 0), .ref 90, .long 0, .long (x173).toInt64]) (h' := (HM P w T)) (cs' := 0) (sl' := 0) rfl ?_
  obtain ⟨v175, hq, h⟩ := ai_bdE h
  refine ev_iald rfl rfl hq ?_
  refine ev_go 3 (pc' := 14) (L' := [some (.ref 89), some (.int x172), some (.int x173), some (.int x174)]) (st' := [.long ((v175 - 2)).toInt64, .long 0, .long (x173).toInt64]) (h' := (HM P w T)) (cs' := 0) (sl' := 0) rfl ?_
  obtain ⟨c176, hq, h⟩ := ai_bdE h
  refine ev_call (M' := mm_in) (L' := [some (.long (x173).toInt64), none, some (.long 0), none, some (.long ((v175 - 2)).toInt64), none]) (rest := []) (rv := some (.int c176)) (h' := (HM P w T)) rfl (Em_in (x173).toInt64 0 ((v175 - 2)).toInt64 _ hq (HM P w T)) ?_
  show ai_ev D1 mm_damTo 17 [some (.ref 89), some (.int x172), some (.int x173), some (.int x174)] [.int c176] (HM P w T) 0 0 _
  rcases ai_ifE h with ⟨hc, h⟩ | ⟨hc, h⟩
  · refine ev_if_ne (t := 23) rfl rfl (fun c9 => absurd hc c9) (fun _ => ?_)
    refine ev_go 1 (pc' := 22) (L' := [some (.ref 89), some (.int x172), some (.int x173), some (.int x174)]) (st' := [.int (-2)]) (h' := (HM P w T)) (cs' := 0) (sl' := 0) rfl ?_
    obtain ⟨rfl, rfl⟩ := ai_smP h
    exact ev_end rfl
  · refine ev_if_ne (t := 23) rfl rfl (fun _ => ?_) (fun c9 => absurd c9 hc)
    refine ev_go 5 (pc' := 30) (L' := [some (.ref 89), some (.int x172), some (.int x173), some (.int x174)]) (st' := [.int (x172 + 5), .ref 90]) (h' := (HM P w T)) (cs' := 0) (sl' := 0) rfl ?_
    obtain ⟨v177, hq, h⟩ := ai_bdE h
    refine ev_iald rfl rfl hq ?_
    refine ev_go 1 (pc' := 32) (L' := [some (.ref 89), some (.int x172), some (.int x173), some (.int x174)]) (st' := [.int x173, .int v177]) (h' := (HM P w T)) (cs' := 0) (sl' := 0) rfl ?_
    obtain ⟨c180, hq, h⟩ := ai_bdE h
    refine ev_call (M' := mm_has) (L' := [some (.int v177), some (.int x173)]) (rest := []) (rv := some (.int c180)) (h' := (HM P w T)) rfl (Em_has v177 x173 _ hq (HM P w T)) ?_
    show ai_ev D1 mm_damTo 35 [some (.ref 89), some (.int x172), some (.int x173), some (.int x174)] [.int c180] (HM P w T) 0 0 _
    refine ev_go 1 (pc' := 36) (L' := [some (.ref 89), some (.int x172), some (.int x173), some (.int x174)]) (st' := [.int x174, .int c180]) (h' := (HM P w T)) (cs' := 0) (sl' := 0) rfl ?_
    rcases ai_ifE h with ⟨hc, h⟩ | ⟨hc, h⟩
    · refine ev_ic_ne (t := 42) rfl rfl (fun c9 => absurd hc c9) (fun _ => ?_)
      refine ev_go 1 (pc' := 41) (L' := [some (.ref 89), some (.int x172), some (.int x173), some (.int x174)]) (st' := [.int (-3)]) (h' := (HM P w T)) (cs' := 0) (sl' := 0) rfl ?_
      obtain ⟨rfl, rfl⟩ := ai_smP h
      exact ev_end rfl
    · refine ev_ic_ne (t := 42) rfl rfl (fun _ => ?_) (fun c9 => absurd c9 hc)
      refine ev_go 6 (pc' := 50) (L' := [some (.ref 89), some (.int x172), some (.int x173), some (.int x174)]) (st' := [.int (x172 + 5), .ref 90, .int (x172 + 5), .ref 90]) (h' := (HM P w T)) (cs' := 0) (sl' := 0) rfl ?_
      obtain ⟨v181, hq, h⟩ := ai_bdE h
      refine ev_iald rfl rfl hq ?_
      refine ev_go 4 (pc' := 55) (L' := [some (.ref 89), some (.int x172), some (.int x173), some (.int x174)]) (st' := [.int (v181 ^^^ (1 <<< (x173 &&& 31))), .int (x172 + 5), .ref 90]) (h' := (HM P w T)) (cs' := 0) (sl' := 0) rfl ?_
      obtain ⟨q182, hq, h⟩ := ai_bdE h
      refine ev_iast rfl rfl hq ?_
      rw [HMs_90]
      refine ev_go 1 (pc' := 57) (L' := [some (.ref 89), some (.int x172), some (.int x173), some (.int x174)]) (st' := [.int 1]) (h' := (HM P (u_m_w w q182) T)) (cs' := 0) (sl' := 0) rfl ?_
      obtain ⟨rfl, rfl⟩ := ai_smP h
      exact ev_end rfl
set_option maxHeartbeats 40000000 in
set_option maxRecDepth 100000 in
theorem Em_dam_89 (x170 : Int32) (x171 : Int32) (w : WM) (r : Int32) (w' : WM) (h : Fm_dam_89 x170 x171 w = some (r, w')) (P : Nat → ai_E) (T : ai_H) : ai_ev D1 mm_dam 0 [some (.ref 89), some (.int x170), some (.int x171)] [] (HM P w T) 0 0 (some (.int r), HM P w' T) := by
  unfold Fm_dam_89 at h
  refine ev_go 5 (pc' := 5) (L' := [some (.ref 89), some (.int x170), some (.int x171)]) (st' := [.int x171, .int x170, .int 0, .ref 89, .ref 89]) (h' := (HM P w T)) (cs' := 0) (sl' := 0) rfl ?_
  obtain ⟨c183, hq, h⟩ := ai_bdE h
  refine ev_call (M' := mm_damTo) (L' := [some (.ref 89), some (.int 0), some (.int x170), some (.int x171)]) (rest := [.ref 89]) (rv := some (.int c183.1)) (h' := (HM P c183.2 T)) rfl (Em_damTo_89 0 x170 x171 w _ _ hq P T) ?_
  show ai_ev D1 mm_dam 8 [some (.ref 89), some (.int x170), some (.int x171)] [.int c183.1, .ref 89] (HM P c183.2 T) 0 0 _
  obtain ⟨c184, hq, h⟩ := ai_bdE h
  refine ev_call (M' := mm_met) (L' := [some (.ref 89), some (.int c183.1)]) (rest := []) (rv := some (.int c184.1)) (h' := (HM P c184.2 T)) rfl (Em_met_89 c183.1 c183.2 _ _ hq P T) ?_
  show ai_ev D1 mm_dam 11 [some (.ref 89), some (.int x170), some (.int x171)] [.int c184.1] (HM P c184.2 T) 0 0 _
  obtain ⟨rfl, rfl⟩ := ai_smP h
  exact ev_end rfl
set_option maxHeartbeats 40000000 in
set_option maxRecDepth 100000 in
theorem Em_drop_89 (x185 : Int32) (x186 : Int32) (w : WM) (r : Int32) (w' : WM) (h : Fm_drop_89 x185 x186 w = some (r, w')) (P : Nat → ai_E) (T : ai_H) : ai_ev D1 mm_drop 0 [some (.ref 89), some (.int x185), some (.int x186)] [] (HM P w T) 0 0 (some (.int r), HM P w' T) := by
  unfold Fm_drop_89 at h
  refine ev_go 1 (pc' := 1) (L' := [some (.ref 89), some (.int x185), some (.int x186)]) (st' := [.int x185]) (h' := (HM P w T)) (cs' := 0) (sl' := 0) rfl ?_
  obtain ⟨c187, hq, h⟩ := ai_bdE h
  refine ev_call (M' := mm_isLayer) (L' := [some (.int x185)]) (rest := []) (rv := some (.int c187)) (h' := (HM P w T)) rfl (Em_isLayer x185 _ hq (HM P w T)) ?_
  show ai_ev D1 mm_drop 4 [some (.ref 89), some (.int x185), some (.int x186)] [.int c187] (HM P w T) 0 0 _
  rcases ai_ifE h with ⟨hc, h⟩ | ⟨hc, h⟩
  · refine ev_if_ne (t := 12) rfl rfl (fun c9 => absurd hc c9) (fun _ => ?_)
    refine ev_go 1 (pc' := 8) (L' := [some (.ref 89), some (.int x185), some (.int x186)]) (st' := [.ref 89]) (h' := (HM P w T)) (cs' := 0) (sl' := 0) rfl ?_
    obtain ⟨c201, hq, h⟩ := ai_bdE h
    refine ev_call (M' := mm_bad) (L' := [some (.ref 89)]) (rest := []) (rv := some (.int c201.1)) (h' := (HM P c201.2 T)) rfl (Em_bad_89 w _ _ hq P T) ?_
    show ai_ev D1 mm_drop 11 [some (.ref 89), some (.int x185), some (.int x186)] [.int c201.1] (HM P c201.2 T) 0 0 _
    obtain ⟨rfl, rfl⟩ := ai_smP h
    exact ev_end rfl
  · refine ev_if_ne (t := 12) rfl rfl (fun _ => ?_) (fun c9 => absurd c9 hc)
    refine ev_go 3 (pc' := 18) (L' := [some (.ref 89), some (.int x185), some (.int x186)]) (st' := [.int 6, .ref 90]) (h' := (HM P w T)) (cs' := 0) (sl' := 0) rfl ?_
    obtain ⟨v188, hq, h⟩ := ai_bdE h
    refine ev_iald rfl rfl hq ?_
    refine ev_go 1 (pc' := 21) (L' := [some (.ref 89), some (.int x185), some (.int x186)]) (st' := [.int 6, .int v188]) (h' := (HM P w T)) (cs' := 0) (sl' := 0) rfl ?_
    rcases ai_ifE h with ⟨hc, h⟩ | ⟨hc, h⟩
    · refine ev_ic_ne (t := 31) rfl rfl (fun c9 => absurd hc c9) (fun _ => ?_)
      refine ev_go 2 (pc' := 27) (L' := [some (.ref 89), some (.int x185), some (.int x186)]) (st' := [.int (-4), .ref 89]) (h' := (HM P w T)) (cs' := 0) (sl' := 0) rfl ?_
      obtain ⟨c200, hq, h⟩ := ai_bdE h
      refine ev_call (M' := mm_met) (L' := [some (.ref 89), some (.int (-4))]) (rest := []) (rv := some (.int c200.1)) (h' := (HM P c200.2 T)) rfl (Em_met_89 (-4) w _ _ hq P T) ?_
      show ai_ev D1 mm_drop 30 [some (.ref 89), some (.int x185), some (.int x186)] [.int c200.1] (HM P c200.2 T) 0 0 _
      obtain ⟨rfl, rfl⟩ := ai_smP h
      exact ev_end rfl
    · refine ev_ic_ne (t := 31) rfl rfl (fun _ => ?_) (fun c9 => absurd c9 hc)
      refine ev_go 6 (pc' := 43) (L' := [some (.ref 89), some (.int x185), some (.int x186)]) (st' := [.int 6, .ref 90, .int 127, .ref 90]) (h' := (HM P w T)) (cs' := 0) (sl' := 0) rfl ?_
      obtain ⟨v189, hq, h⟩ := ai_bdE h
      refine ev_iald rfl rfl hq ?_
      refine ev_go 2 (pc' := 46) (L' := [some (.ref 89), some (.int x185), some (.int x186)]) (st' := [.int x185, .int (127 + v189), .ref 90]) (h' := (HM P w T)) (cs' := 0) (sl' := 0) rfl ?_
      obtain ⟨q190, hq, h⟩ := ai_bdE h
      refine ev_iast rfl rfl hq ?_
      rw [HMs_90]
      refine ev_go 6 (pc' := 60) (L' := [some (.ref 89), some (.int x185), some (.int x186)]) (st' := [.int 6, .ref 90, .int 133, .ref 90]) (h' := (HM P (u_m_w w q190) T)) (cs' := 0) (sl' := 0) rfl ?_
      obtain ⟨v191, hq, h⟩ := ai_bdE h
      refine ev_iald rfl rfl hq ?_
      refine ev_go 2 (pc' := 63) (L' := [some (.ref 89), some (.int x185), some (.int x186)]) (st' := [.int x186, .int (133 + v191), .ref 90]) (h' := (HM P (u_m_w w q190) T)) (cs' := 0) (sl' := 0) rfl ?_
      rcases ai_ifE h with ⟨hc, h⟩ | ⟨hc, h⟩
      · refine ev_if_eq (t := 70) rfl rfl (fun _ => ?_) (fun c9 => absurd hc c9)
        refine ev_go 1 (pc' := 71) (L' := [some (.ref 89), some (.int x185), some (.int x186)]) (st' := [.int 0, .int (133 + v191), .ref 90]) (h' := (HM P (u_m_w w q190) T)) (cs' := 0) (sl' := 0) rfl ?_
        obtain ⟨q192, hq, h⟩ := ai_bdE h
        refine ev_iast rfl rfl hq ?_
        rw [HMs_90]
        refine ev_go 4 (pc' := 79) (L' := [some (.ref 89), some (.int x185), some (.int x186)]) (st' := [.int 6, .ref 90, .int 6, .ref 90]) (h' := (HM P (u_m_w (u_m_w w q190) q192) T)) (cs' := 0) (sl' := 0) rfl ?_
        obtain ⟨v193, hq, h⟩ := ai_bdE h
        refine ev_iald rfl rfl hq ?_
        refine ev_go 2 (pc' := 82) (L' := [some (.ref 89), some (.int x185), some (.int x186)]) (st' := [.int (v193 + 1), .int 6, .ref 90]) (h' := (HM P (u_m_w (u_m_w w q190) q192) T)) (cs' := 0) (sl' := 0) rfl ?_
        obtain ⟨q194, hq, h⟩ := ai_bdE h
        refine ev_iast rfl rfl hq ?_
        rw [HMs_90]
        refine ev_go 3 (pc' := 89) (L' := [some (.ref 89), some (.int x185), some (.int x186)]) (st' := [.int 6, .ref 90]) (h' := (HM P (u_m_w (u_m_w (u_m_w w q190) q192) q194) T)) (cs' := 0) (sl' := 0) rfl ?_
        obtain ⟨v195, hq, h⟩ := ai_bdE h
        refine ev_iald rfl rfl hq ?_
        obtain ⟨rfl, rfl⟩ := ai_smP h
        exact ev_end rfl
      · refine ev_if_eq (t := 70) rfl rfl (fun c9 => absurd c9 hc) (fun _ => ?_)
        refine ev_go 2 (pc' := 71) (L' := [some (.ref 89), some (.int x185), some (.int x186)]) (st' := [.int 1, .int (133 + v191), .ref 90]) (h' := (HM P (u_m_w w q190) T)) (cs' := 0) (sl' := 0) rfl ?_
        obtain ⟨q196, hq, h⟩ := ai_bdE h
        refine ev_iast rfl rfl hq ?_
        rw [HMs_90]
        refine ev_go 4 (pc' := 79) (L' := [some (.ref 89), some (.int x185), some (.int x186)]) (st' := [.int 6, .ref 90, .int 6, .ref 90]) (h' := (HM P (u_m_w (u_m_w w q190) q196) T)) (cs' := 0) (sl' := 0) rfl ?_
        obtain ⟨v197, hq, h⟩ := ai_bdE h
        refine ev_iald rfl rfl hq ?_
        refine ev_go 2 (pc' := 82) (L' := [some (.ref 89), some (.int x185), some (.int x186)]) (st' := [.int (v197 + 1), .int 6, .ref 90]) (h' := (HM P (u_m_w (u_m_w w q190) q196) T)) (cs' := 0) (sl' := 0) rfl ?_
        obtain ⟨q198, hq, h⟩ := ai_bdE h
        refine ev_iast rfl rfl hq ?_
        rw [HMs_90]
        refine ev_go 3 (pc' := 89) (L' := [some (.ref 89), some (.int x185), some (.int x186)]) (st' := [.int 6, .ref 90]) (h' := (HM P (u_m_w (u_m_w (u_m_w w q190) q196) q198) T)) (cs' := 0) (sl' := 0) rfl ?_
        obtain ⟨v199, hq, h⟩ := ai_bdE h
        refine ev_iald rfl rfl hq ?_
        obtain ⟨rfl, rfl⟩ := ai_smP h
        exact ev_end rfl
set_option maxHeartbeats 40000000 in
set_option maxRecDepth 100000 in
theorem Em_clean_89 (x202 : Int32) (w : WM) (r : Int32) (w' : WM) (h : Fm_clean_89 x202 w = some (r, w')) (P : Nat → ai_E) (T : ai_H) : ai_ev D1 mm_clean 0 [some (.ref 89), some (.int x202)] [] (HM P w T) 0 0 (some (.int r), HM P w' T) := by
  unfold Fm_clean_89 at h
  refine ev_go 4 (pc' := 6) (L' := [some (.ref 89), some (.int x202)]) (st' := [.long 3, .long 0, .long (x202).toInt64]) (h' := (HM P w T)) (cs' := 0) (sl' := 0) rfl ?_
  obtain ⟨c203, hq, h⟩ := ai_bdE h
  refine ev_call (M' := mm_in) (L' := [some (.long (x202).toInt64), none, some (.long 0), none, some (.long 3), none]) (rest := []) (rv := some (.int c203)) (h' := (HM P w T)) rfl (Em_in (x202).toInt64 0 3 _ hq (HM P w T)) ?_
  show ai_ev D1 mm_clean 9 [some (.ref 89), some (.int x202)] [.int c203] (HM P w T) 0 0 _
  rcases ai_ifE h with ⟨hc, h⟩ | ⟨hc, h⟩
  · refine ev_if_ne (t := 17) rfl rfl (fun c9 => absurd hc c9) (fun _ => ?_)
    refine ev_go 1 (pc' := 13) (L' := [some (.ref 89), some (.int x202)]) (st' := [.ref 89]) (h' := (HM P w T)) (cs' := 0) (sl' := 0) rfl ?_
    obtain ⟨c208, hq, h⟩ := ai_bdE h
    refine ev_call (M' := mm_bad) (L' := [some (.ref 89)]) (rest := []) (rv := some (.int c208.1)) (h' := (HM P c208.2 T)) rfl (Em_bad_89 w _ _ hq P T) ?_
    show ai_ev D1 mm_clean 16 [some (.ref 89), some (.int x202)] [.int c208.1] (HM P c208.2 T) 0 0 _
    obtain ⟨rfl, rfl⟩ := ai_smP h
    exact ev_end rfl
  · refine ev_if_ne (t := 17) rfl rfl (fun _ => ?_) (fun c9 => absurd c9 hc)
    refine ev_go 2 (pc' := 19) (L' := [some (.ref 89), some (.int x202)]) (st' := [.int x202, .ref 89]) (h' := (HM P w T)) (cs' := 0) (sl' := 0) rfl ?_
    rcases ai_ifE h with ⟨hc, h⟩ | ⟨hc, h⟩
    · refine ev_if_ne (t := 26) rfl rfl (fun c9 => absurd hc c9) (fun _ => ?_)
      refine ev_go 3 (pc' := 47) (L' := [some (.ref 89), some (.int x202)]) (st' := [.int 0, .int 2, .ref 89]) (h' := (HM P w T)) (cs' := 0) (sl' := 0) rfl ?_
      obtain ⟨c207, hq, h⟩ := ai_bdE h
      refine ev_call (M' := mm_becomes) (L' := [some (.ref 89), some (.int 2), some (.int 0), none]) (rest := []) (rv := some (.int c207.1)) (h' := (HM P c207.2 T)) rfl (Em_becomes_89 2 0 w _ _ hq P T) ?_
      show ai_ev D1 mm_clean 50 [some (.ref 89), some (.int x202)] [.int c207.1] (HM P c207.2 T) 0 0 _
      obtain ⟨rfl, rfl⟩ := ai_smP h
      exact ev_end rfl
    · refine ev_if_ne (t := 26) rfl rfl (fun _ => ?_) (fun c9 => absurd c9 hc)
      refine ev_go 2 (pc' := 28) (L' := [some (.ref 89), some (.int x202)]) (st' := [.int 1, .int x202, .ref 89]) (h' := (HM P w T)) (cs' := 0) (sl' := 0) rfl ?_
      rcases ai_ifE h with ⟨hc, h⟩ | ⟨hc, h⟩
      · refine ev_ic_ne (t := 35) rfl rfl (fun c9 => absurd hc c9) (fun _ => ?_)
        refine ev_go 3 (pc' := 47) (L' := [some (.ref 89), some (.int x202)]) (st' := [.int 0, .int 3, .ref 89]) (h' := (HM P w T)) (cs' := 0) (sl' := 0) rfl ?_
        obtain ⟨c206, hq, h⟩ := ai_bdE h
        refine ev_call (M' := mm_becomes) (L' := [some (.ref 89), some (.int 3), some (.int 0), none]) (rest := []) (rv := some (.int c206.1)) (h' := (HM P c206.2 T)) rfl (Em_becomes_89 3 0 w _ _ hq P T) ?_
        show ai_ev D1 mm_clean 50 [some (.ref 89), some (.int x202)] [.int c206.1] (HM P c206.2 T) 0 0 _
        obtain ⟨rfl, rfl⟩ := ai_smP h
        exact ev_end rfl
      · refine ev_ic_ne (t := 35) rfl rfl (fun _ => ?_) (fun c9 => absurd c9 hc)
        refine ev_go 2 (pc' := 37) (L' := [some (.ref 89), some (.int x202)]) (st' := [.int 2, .int x202, .ref 89]) (h' := (HM P w T)) (cs' := 0) (sl' := 0) rfl ?_
        rcases ai_ifE h with ⟨hc, h⟩ | ⟨hc, h⟩
        · refine ev_ic_ne (t := 44) rfl rfl (fun c9 => absurd hc c9) (fun _ => ?_)
          refine ev_go 3 (pc' := 47) (L' := [some (.ref 89), some (.int x202)]) (st' := [.int 0, .int 4, .ref 89]) (h' := (HM P w T)) (cs' := 0) (sl' := 0) rfl ?_
          obtain ⟨c205, hq, h⟩ := ai_bdE h
          refine ev_call (M' := mm_becomes) (L' := [some (.ref 89), some (.int 4), some (.int 0), none]) (rest := []) (rv := some (.int c205.1)) (h' := (HM P c205.2 T)) rfl (Em_becomes_89 4 0 w _ _ hq P T) ?_
          show ai_ev D1 mm_clean 50 [some (.ref 89), some (.int x202)] [.int c205.1] (HM P c205.2 T) 0 0 _
          obtain ⟨rfl, rfl⟩ := ai_smP h
          exact ev_end rfl
        · refine ev_ic_ne (t := 44) rfl rfl (fun _ => ?_) (fun c9 => absurd c9 hc)
          refine ev_go 2 (pc' := 47) (L' := [some (.ref 89), some (.int x202)]) (st' := [.int 0, .int 6, .ref 89]) (h' := (HM P w T)) (cs' := 0) (sl' := 0) rfl ?_
          obtain ⟨c204, hq, h⟩ := ai_bdE h
          refine ev_call (M' := mm_becomes) (L' := [some (.ref 89), some (.int 6), some (.int 0), none]) (rest := []) (rv := some (.int c204.1)) (h' := (HM P c204.2 T)) rfl (Em_becomes_89 6 0 w _ _ hq P T) ?_
          show ai_ev D1 mm_clean 50 [some (.ref 89), some (.int x202)] [.int c204.1] (HM P c204.2 T) 0 0 _
          obtain ⟨rfl, rfl⟩ := ai_smP h
          exact ev_end rfl
set_option maxHeartbeats 40000000 in
set_option maxRecDepth 100000 in
theorem Em_type_89 (x209 : Int32) (w : WM) (r : Int32) (w' : WM) (h : Fm_type_89 x209 w = some (r, w')) (P : Nat → ai_E) (T : ai_H) : ai_ev D1 mm_type 0 [some (.ref 89), some (.int x209)] [] (HM P w T) 0 0 (some (.int r), HM P w' T) := by
  unfold Fm_type_89 at h
  refine ev_go 4 (pc' := 6) (L' := [some (.ref 89), some (.int x209)]) (st' := [.long 127, .long 0, .long (x209).toInt64]) (h' := (HM P w T)) (cs' := 0) (sl' := 0) rfl ?_
  obtain ⟨c210, hq, h⟩ := ai_bdE h
  refine ev_call (M' := mm_in) (L' := [some (.long (x209).toInt64), none, some (.long 0), none, some (.long 127), none]) (rest := []) (rv := some (.int c210)) (h' := (HM P w T)) rfl (Em_in (x209).toInt64 0 127 _ hq (HM P w T)) ?_
  show ai_ev D1 mm_type 9 [some (.ref 89), some (.int x209)] [.int c210] (HM P w T) 0 0 _
  rcases ai_ifE h with ⟨hc, h⟩ | ⟨hc, h⟩
  · refine ev_if_ne (t := 17) rfl rfl (fun c9 => absurd hc c9) (fun _ => ?_)
    refine ev_go 1 (pc' := 13) (L' := [some (.ref 89), some (.int x209)]) (st' := [.ref 89]) (h' := (HM P w T)) (cs' := 0) (sl' := 0) rfl ?_
    obtain ⟨c213, hq, h⟩ := ai_bdE h
    refine ev_call (M' := mm_bad) (L' := [some (.ref 89)]) (rest := []) (rv := some (.int c213.1)) (h' := (HM P c213.2 T)) rfl (Em_bad_89 w _ _ hq P T) ?_
    show ai_ev D1 mm_type 16 [some (.ref 89), some (.int x209)] [.int c213.1] (HM P c213.2 T) 0 0 _
    obtain ⟨rfl, rfl⟩ := ai_smP h
    exact ev_end rfl
  · refine ev_if_ne (t := 17) rfl rfl (fun _ => ?_) (fun c9 => absurd c9 hc)
    refine ev_go 3 (pc' := 24) (L' := [some (.ref 89), some (.int x209)]) (st' := [.int 150, .int (a_m_texted w)]) (h' := (HM P w T)) (cs' := 0) (sl' := 0) rfl ?_
    rcases ai_ifE h with ⟨hc, h⟩ | ⟨hc, h⟩
    · refine ev_ic_ne (t := 34) rfl rfl (fun c9 => absurd hc c9) (fun _ => ?_)
      refine ev_go 2 (pc' := 30) (L' := [some (.ref 89), some (.int x209)]) (st' := [.int (-4), .ref 89]) (h' := (HM P w T)) (cs' := 0) (sl' := 0) rfl ?_
      obtain ⟨c212, hq, h⟩ := ai_bdE h
      refine ev_call (M' := mm_met) (L' := [some (.ref 89), some (.int (-4))]) (rest := []) (rv := some (.int c212.1)) (h' := (HM P c212.2 T)) rfl (Em_met_89 (-4) w _ _ hq P T) ?_
      show ai_ev D1 mm_type 33 [some (.ref 89), some (.int x209)] [.int c212.1] (HM P c212.2 T) 0 0 _
      obtain ⟨rfl, rfl⟩ := ai_smP h
      exact ev_end rfl
    · refine ev_ic_ne (t := 34) rfl rfl (fun _ => ?_) (fun c9 => absurd c9 hc)
      refine ev_go 5 (pc' := 43) (L' := [some (.ref 89), some (.int x209)]) (st' := [.int x209, .int (a_m_texted w), .ref 92]) (h' := (HM P w T)) (cs' := 0) (sl' := 0) rfl ?_
      obtain ⟨q211, hq, h⟩ := ai_bdE h
      refine ev_iast rfl rfl hq ?_
      rw [HMs_92]
      refine ev_go 5 (pc' := 51) (L' := [some (.ref 89), some (.int x209)]) (st' := [.int ((a_m_texted w) + 1), .ref 89]) (h' := (HM P (u_m_text w q211) T)) (cs' := 0) (sl' := 0) rfl ?_
      refine ev_step rfl rfl rfl (PFM_8_124_89 rfl) ?_
      refine ev_go 2 (pc' := 58) (L' := [some (.ref 89), some (.int x209)]) (st' := [.int ((a_m_texted w) + 1)]) (h' := (HM P (u_m_texted (u_m_text w q211) ((a_m_texted w) + 1)) T)) (cs' := 0) (sl' := 0) rfl ?_
      obtain ⟨rfl, rfl⟩ := ai_smP h
      exact ev_end rfl
set_option maxHeartbeats 40000000 in
set_option maxRecDepth 100000 in
theorem Em_clear_89 (w : WM) (r : Int32) (w' : WM) (h : Fm_clear_89 w = some (r, w')) (P : Nat → ai_E) (T : ai_H) : ai_ev D1 mm_clear 0 [some (.ref 89), none] [] (HM P w T) 0 0 (some (.int r), HM P w' T) := by
  unfold Fm_clear_89 at h
  refine ev_go 5 (pc' := 7) (L' := [some (.ref 89), some (.int (a_m_texted w))]) (st' := [.int 0, .ref 89]) (h' := (HM P w T)) (cs' := 0) (sl' := 0) rfl ?_
  refine ev_step rfl rfl rfl (PFM_8_124_89 rfl) ?_
  refine ev_go 1 (pc' := 11) (L' := [some (.ref 89), some (.int (a_m_texted w))]) (st' := [.int (a_m_texted w)]) (h' := (HM P (u_m_texted w 0) T)) (cs' := 0) (sl' := 0) rfl ?_
  obtain ⟨rfl, rfl⟩ := ai_smP h
  exact ev_end rfl
set_option maxHeartbeats 40000000 in
set_option maxRecDepth 100000 in
theorem Em_byteAt_89 (x214 : Int32) (w : WM) (r : Int32) (w' : WM) (h : Fm_byteAt_89 x214 w = some (r, w')) (P : Nat → ai_E) (T : ai_H) : ai_ev D1 mm_byteAt 0 [some (.ref 89), some (.int x214)] [] (HM P w T) 0 0 (some (.int r), HM P w' T) := by
  unfold Fm_byteAt_89 at h
  refine ev_go 3 (pc' := 5) (L' := [some (.ref 89), some (.int x214)]) (st' := [.int (a_m_texted w), .int x214]) (h' := (HM P w T)) (cs' := 0) (sl' := 0) rfl ?_
  rcases ai_ifE h with ⟨hc, h⟩ | ⟨hc, h⟩
  · refine ev_ic_ge (t := 17) rfl rfl (fun _ => ?_) (fun c9 => absurd hc c9)
    refine ev_go 1 (pc' := 18) (L' := [some (.ref 89), some (.int x214)]) (st' := [.int (-1)]) (h' := (HM P w T)) (cs' := 0) (sl' := 0) rfl ?_
    obtain ⟨rfl, rfl⟩ := ai_smP h
    exact ev_end rfl
  · refine ev_ic_ge (t := 17) rfl rfl (fun c9 => absurd c9 hc) (fun _ => ?_)
    refine ev_go 3 (pc' := 13) (L' := [some (.ref 89), some (.int x214)]) (st' := [.int x214, .ref 92]) (h' := (HM P w T)) (cs' := 0) (sl' := 0) rfl ?_
    obtain ⟨v215, hq, h⟩ := ai_bdE h
    refine ev_iald rfl rfl hq ?_
    refine ev_go 1 (pc' := 18) (L' := [some (.ref 89), some (.int x214)]) (st' := [.int v215]) (h' := (HM P w T)) (cs' := 0) (sl' := 0) rfl ?_
    obtain ⟨rfl, rfl⟩ := ai_smP h
    exact ev_end rfl
set_option maxHeartbeats 40000000 in
set_option maxRecDepth 100000 in
theorem EGm_token_89 : ∀ n : Nat, (∀ (w : WM) (w' : WM), Gm_token_89 n 0  w = some w' → ∀ (P : Nat → ai_E) (T : ai_H), ai_ev D1 mm_token 0 [some (.ref 89)] [] (HM P w T) 0 0 (none, HM P w' T)) ∧ (∀ (w : WM) (w' : WM), Gm_token_89 n 1  w = some w' → ∀ (P : Nat → ai_E) (T : ai_H), ai_ev D1 mm_token 103 [some (.ref 89)] [] (HM P w T) 0 0 (none, HM P w' T)) := by
  intro n
  induction n with
  | zero =>
    exact ⟨(fun _ _ h => by cases h), (fun _ _ h => by cases h)⟩
  | succ n ih =>
    obtain ⟨ih0, ih1⟩ := ih
    refine ⟨?_, ?_⟩
    · intro w w' h P T
      simp only [Gm_token_89] at h
      refine ev_go 3 (pc' := 5) (L' := [some (.ref 89)]) (st' := [.int (a_m_at w), .ref 89]) (h' := (HM P w T)) (cs' := 0) (sl' := 0) rfl ?_
      obtain ⟨c216, hq, h⟩ := ai_bdE h
      refine ev_call (M' := mm_byteAt) (L' := [some (.ref 89), some (.int (a_m_at w))]) (rest := []) (rv := some (.int c216.1)) (h' := (HM P c216.2 T)) rfl (Em_byteAt_89 (a_m_at w) w _ _ hq P T) ?_
      show ai_ev D1 mm_token 8 [some (.ref 89)] [.int c216.1] (HM P c216.2 T) 0 0 _
      refine ev_go 1 (pc' := 10) (L' := [some (.ref 89)]) (st' := [.int 32, .int c216.1]) (h' := (HM P c216.2 T)) (cs' := 0) (sl' := 0) rfl ?_
      rcases ai_ifE h with ⟨hc, h⟩ | ⟨hc, h⟩
      · refine ev_ic_ne (t := 26) rfl rfl (fun c9 => absurd hc c9) (fun _ => ?_)
        refine ev_go 5 (pc' := 20) (L' := [some (.ref 89)]) (st' := [.int ((a_m_at c216.2) + 1), .ref 89]) (h' := (HM P c216.2 T)) (cs' := 0) (sl' := 0) rfl ?_
        refine ev_step rfl rfl rfl (PFM_8_128_89 rfl) ?_
        refine ev_go 1 (pc' := 0) (L' := [some (.ref 89)]) (st' := []) (h' := (HM P (u_m_at c216.2 ((a_m_at c216.2) + 1)) T)) (cs' := 0) (sl' := 0) rfl ?_
        exact ih0 _ _ h P T
      · refine ev_ic_ne (t := 26) rfl rfl (fun _ => ?_) (fun c9 => absurd c9 hc)
        refine ev_go 3 (pc' := 31) (L' := [some (.ref 89)]) (st' := [.int (a_m_at c216.2), .ref 89]) (h' := (HM P c216.2 T)) (cs' := 0) (sl' := 0) rfl ?_
        refine ev_step rfl rfl rfl (PFM_8_134_89 rfl) ?_
        refine ev_go 4 (pc' := 40) (L' := [some (.ref 89)]) (st' := [.int (a_m_at c216.2), .ref 89, .ref 89]) (h' := (HM P (u_m_start c216.2 (a_m_at c216.2)) T)) (cs' := 0) (sl' := 0) rfl ?_
        obtain ⟨c217, hq, h⟩ := ai_bdE h
        refine ev_call (M' := mm_byteAt) (L' := [some (.ref 89), some (.int (a_m_at c216.2))]) (rest := [.ref 89]) (rv := some (.int c217.1)) (h' := (HM P c217.2 T)) rfl (Em_byteAt_89 (a_m_at c216.2) (u_m_start c216.2 (a_m_at c216.2)) _ _ hq P T) ?_
        show ai_ev D1 mm_token 43 [some (.ref 89)] [.int c217.1, .ref 89] (HM P c217.2 T) 0 0 _
        refine ev_go 3 (pc' := 50) (L' := [some (.ref 89)]) (st' := [.long 122, .long 97, .long (c217.1).toInt64, .ref 89]) (h' := (HM P c217.2 T)) (cs' := 0) (sl' := 0) rfl ?_
        obtain ⟨c218, hq, h⟩ := ai_bdE h
        refine ev_call (M' := mm_in) (L' := [some (.long (c217.1).toInt64), none, some (.long 97), none, some (.long 122), none]) (rest := [.ref 89]) (rv := some (.int c218)) (h' := (HM P c217.2 T)) rfl (Em_in (c217.1).toInt64 97 122 _ hq (HM P c217.2 T)) ?_
        show ai_ev D1 mm_token 53 [some (.ref 89)] [.int c218, .ref 89] (HM P c217.2 T) 0 0 _
        obtain ⟨hv, h⟩ := ai_ifS h
        refine ev_putz rfl rfl rfl rfl rfl rfl rfl hv ?_
        show ai_ev D1 mm_token 56 [some (.ref 89)] [] (HM P (u_m_isWord c217.2 c218) T) 0 0 _
        refine ev_go 4 (pc' := 62) (L' := [some (.ref 89)]) (st' := [.int (a_m_at c217.2), .ref 89, .ref 89]) (h' := (HM P (u_m_isWord c217.2 c218) T)) (cs' := 0) (sl' := 0) rfl ?_
        obtain ⟨c219, hq, h⟩ := ai_bdE h
        refine ev_call (M' := mm_byteAt) (L' := [some (.ref 89), some (.int (a_m_at c217.2))]) (rest := [.ref 89]) (rv := some (.int c219.1)) (h' := (HM P c219.2 T)) rfl (Em_byteAt_89 (a_m_at c217.2) (u_m_isWord c217.2 c218) _ _ hq P T) ?_
        show ai_ev D1 mm_token 65 [some (.ref 89)] [.int c219.1, .ref 89] (HM P c219.2 T) 0 0 _
        refine ev_go 3 (pc' := 72) (L' := [some (.ref 89)]) (st' := [.long 57, .long 48, .long (c219.1).toInt64, .ref 89]) (h' := (HM P c219.2 T)) (cs' := 0) (sl' := 0) rfl ?_
        obtain ⟨c220, hq, h⟩ := ai_bdE h
        refine ev_call (M' := mm_in) (L' := [some (.long (c219.1).toInt64), none, some (.long 48), none, some (.long 57), none]) (rest := [.ref 89]) (rv := some (.int c220)) (h' := (HM P c219.2 T)) rfl (Em_in (c219.1).toInt64 48 57 _ hq (HM P c219.2 T)) ?_
        show ai_ev D1 mm_token 75 [some (.ref 89)] [.int c220, .ref 89] (HM P c219.2 T) 0 0 _
        obtain ⟨hv, h⟩ := ai_ifS h
        refine ev_putz rfl rfl rfl rfl rfl rfl rfl hv ?_
        show ai_ev D1 mm_token 78 [some (.ref 89)] [] (HM P (u_m_isFigures c219.2 c220) T) 0 0 _
        refine ev_go 7 (pc' := 91) (L' := [some (.ref 89)]) (st' := [.int (a_m_texted c219.2), .int (a_m_at c219.2), .int (a_m_at c219.2), .ref 89]) (h' := (HM P (u_m_isFigures c219.2 c220) T)) (cs' := 0) (sl' := 0) rfl ?_
        rcases ai_ifE h with ⟨hc, h⟩ | ⟨hc, h⟩
        · refine ev_ic_ge (t := 98) rfl rfl (fun _ => ?_) (fun c9 => absurd hc c9)
          refine ev_go 2 (pc' := 100) (L' := [some (.ref 89)]) (st' := [.int ((a_m_at c219.2) + 0), .ref 89]) (h' := (HM P (u_m_isFigures c219.2 c220) T)) (cs' := 0) (sl' := 0) rfl ?_
          refine ev_step rfl rfl rfl (PFM_8_128_89 rfl) ?_
          exact ih1 _ _ h P T
        · refine ev_ic_ge (t := 98) rfl rfl (fun c9 => absurd c9 hc) (fun _ => ?_)
          refine ev_go 3 (pc' := 100) (L' := [some (.ref 89)]) (st' := [.int ((a_m_at c219.2) + 1), .ref 89]) (h' := (HM P (u_m_isFigures c219.2 c220) T)) (cs' := 0) (sl' := 0) rfl ?_
          refine ev_step rfl rfl rfl (PFM_8_128_89 rfl) ?_
          exact ih1 _ _ h P T
    · intro w w' h P T
      simp only [Gm_token_89] at h
      refine ev_go 2 (pc' := 107) (L' := [some (.ref 89)]) (st' := [.int (a_m_isWord w)]) (h' := (HM P w T)) (cs' := 0) (sl' := 0) rfl ?_
      rcases ai_ifE h with ⟨hc, h⟩ | ⟨hc, h⟩
      · refine ev_if_eq (t := 131) rfl rfl (fun _ => ?_) (fun c9 => absurd hc c9)
        refine ev_go 2 (pc' := 135) (L' := [some (.ref 89)]) (st' := [.int (a_m_isFigures w)]) (h' := (HM P w T)) (cs' := 0) (sl' := 0) rfl ?_
        rcases ai_ifE h with ⟨hc, h⟩ | ⟨hc, h⟩
        · refine ev_if_eq (t := 172) rfl rfl (fun _ => ?_) (fun c9 => absurd hc c9)
          obtain rfl := Option.some.inj h
          exact ev_end rfl
        · refine ev_if_eq (t := 172) rfl rfl (fun c9 => absurd c9 hc) (fun _ => ?_)
          refine ev_go 3 (pc' := 143) (L' := [some (.ref 89)]) (st' := [.int (a_m_at w), .ref 89]) (h' := (HM P w T)) (cs' := 0) (sl' := 0) rfl ?_
          obtain ⟨c221, hq, h⟩ := ai_bdE h
          refine ev_call (M' := mm_byteAt) (L' := [some (.ref 89), some (.int (a_m_at w))]) (rest := []) (rv := some (.int c221.1)) (h' := (HM P c221.2 T)) rfl (Em_byteAt_89 (a_m_at w) w _ _ hq P T) ?_
          show ai_ev D1 mm_token 146 [some (.ref 89)] [.int c221.1] (HM P c221.2 T) 0 0 _
          refine ev_go 3 (pc' := 153) (L' := [some (.ref 89)]) (st' := [.long 57, .long 48, .long (c221.1).toInt64]) (h' := (HM P c221.2 T)) (cs' := 0) (sl' := 0) rfl ?_
          obtain ⟨c222, hq, h⟩ := ai_bdE h
          refine ev_call (M' := mm_in) (L' := [some (.long (c221.1).toInt64), none, some (.long 48), none, some (.long 57), none]) (rest := []) (rv := some (.int c222)) (h' := (HM P c221.2 T)) rfl (Em_in (c221.1).toInt64 48 57 _ hq (HM P c221.2 T)) ?_
          show ai_ev D1 mm_token 156 [some (.ref 89)] [.int c222] (HM P c221.2 T) 0 0 _
          rcases ai_ifE h with ⟨hc, h⟩ | ⟨hc, h⟩
          · refine ev_if_eq (t := 172) rfl rfl (fun _ => ?_) (fun c9 => absurd hc c9)
            obtain rfl := Option.some.inj h
            exact ev_end rfl
          · refine ev_if_eq (t := 172) rfl rfl (fun c9 => absurd c9 hc) (fun _ => ?_)
            refine ev_go 5 (pc' := 166) (L' := [some (.ref 89)]) (st' := [.int ((a_m_at c221.2) + 1), .ref 89]) (h' := (HM P c221.2 T)) (cs' := 0) (sl' := 0) rfl ?_
            refine ev_step rfl rfl rfl (PFM_8_128_89 rfl) ?_
            refine ev_go 1 (pc' := 103) (L' := [some (.ref 89)]) (st' := []) (h' := (HM P (u_m_at c221.2 ((a_m_at c221.2) + 1)) T)) (cs' := 0) (sl' := 0) rfl ?_
            exact ih1 _ _ h P T
      · refine ev_if_eq (t := 131) rfl rfl (fun c9 => absurd c9 hc) (fun _ => ?_)
        refine ev_go 3 (pc' := 115) (L' := [some (.ref 89)]) (st' := [.int (a_m_at w), .ref 89]) (h' := (HM P w T)) (cs' := 0) (sl' := 0) rfl ?_
        obtain ⟨c223, hq, h⟩ := ai_bdE h
        refine ev_call (M' := mm_byteAt) (L' := [some (.ref 89), some (.int (a_m_at w))]) (rest := []) (rv := some (.int c223.1)) (h' := (HM P c223.2 T)) rfl (Em_byteAt_89 (a_m_at w) w _ _ hq P T) ?_
        show ai_ev D1 mm_token 118 [some (.ref 89)] [.int c223.1] (HM P c223.2 T) 0 0 _
        refine ev_go 3 (pc' := 125) (L' := [some (.ref 89)]) (st' := [.long 122, .long 97, .long (c223.1).toInt64]) (h' := (HM P c223.2 T)) (cs' := 0) (sl' := 0) rfl ?_
        obtain ⟨c224, hq, h⟩ := ai_bdE h
        refine ev_call (M' := mm_in) (L' := [some (.long (c223.1).toInt64), none, some (.long 97), none, some (.long 122), none]) (rest := []) (rv := some (.int c224)) (h' := (HM P c223.2 T)) rfl (Em_in (c223.1).toInt64 97 122 _ hq (HM P c223.2 T)) ?_
        show ai_ev D1 mm_token 128 [some (.ref 89)] [.int c224] (HM P c223.2 T) 0 0 _
        rcases ai_ifE h with ⟨hc, h⟩ | ⟨hc, h⟩
        · refine ev_if_ne (t := 159) rfl rfl (fun c9 => absurd hc c9) (fun _ => ?_)
          refine ev_go 2 (pc' := 135) (L' := [some (.ref 89)]) (st' := [.int (a_m_isFigures c223.2)]) (h' := (HM P c223.2 T)) (cs' := 0) (sl' := 0) rfl ?_
          rcases ai_ifE h with ⟨hc, h⟩ | ⟨hc, h⟩
          · refine ev_if_eq (t := 172) rfl rfl (fun _ => ?_) (fun c9 => absurd hc c9)
            obtain rfl := Option.some.inj h
            exact ev_end rfl
          · refine ev_if_eq (t := 172) rfl rfl (fun c9 => absurd c9 hc) (fun _ => ?_)
            refine ev_go 3 (pc' := 143) (L' := [some (.ref 89)]) (st' := [.int (a_m_at c223.2), .ref 89]) (h' := (HM P c223.2 T)) (cs' := 0) (sl' := 0) rfl ?_
            obtain ⟨c225, hq, h⟩ := ai_bdE h
            refine ev_call (M' := mm_byteAt) (L' := [some (.ref 89), some (.int (a_m_at c223.2))]) (rest := []) (rv := some (.int c225.1)) (h' := (HM P c225.2 T)) rfl (Em_byteAt_89 (a_m_at c223.2) c223.2 _ _ hq P T) ?_
            show ai_ev D1 mm_token 146 [some (.ref 89)] [.int c225.1] (HM P c225.2 T) 0 0 _
            refine ev_go 3 (pc' := 153) (L' := [some (.ref 89)]) (st' := [.long 57, .long 48, .long (c225.1).toInt64]) (h' := (HM P c225.2 T)) (cs' := 0) (sl' := 0) rfl ?_
            obtain ⟨c226, hq, h⟩ := ai_bdE h
            refine ev_call (M' := mm_in) (L' := [some (.long (c225.1).toInt64), none, some (.long 48), none, some (.long 57), none]) (rest := []) (rv := some (.int c226)) (h' := (HM P c225.2 T)) rfl (Em_in (c225.1).toInt64 48 57 _ hq (HM P c225.2 T)) ?_
            show ai_ev D1 mm_token 156 [some (.ref 89)] [.int c226] (HM P c225.2 T) 0 0 _
            rcases ai_ifE h with ⟨hc, h⟩ | ⟨hc, h⟩
            · refine ev_if_eq (t := 172) rfl rfl (fun _ => ?_) (fun c9 => absurd hc c9)
              obtain rfl := Option.some.inj h
              exact ev_end rfl
            · refine ev_if_eq (t := 172) rfl rfl (fun c9 => absurd c9 hc) (fun _ => ?_)
              refine ev_go 5 (pc' := 166) (L' := [some (.ref 89)]) (st' := [.int ((a_m_at c225.2) + 1), .ref 89]) (h' := (HM P c225.2 T)) (cs' := 0) (sl' := 0) rfl ?_
              refine ev_step rfl rfl rfl (PFM_8_128_89 rfl) ?_
              refine ev_go 1 (pc' := 103) (L' := [some (.ref 89)]) (st' := []) (h' := (HM P (u_m_at c225.2 ((a_m_at c225.2) + 1)) T)) (cs' := 0) (sl' := 0) rfl ?_
              exact ih1 _ _ h P T
        · refine ev_if_ne (t := 159) rfl rfl (fun _ => ?_) (fun c9 => absurd c9 hc)
          refine ev_go 5 (pc' := 166) (L' := [some (.ref 89)]) (st' := [.int ((a_m_at c223.2) + 1), .ref 89]) (h' := (HM P c223.2 T)) (cs' := 0) (sl' := 0) rfl ?_
          refine ev_step rfl rfl rfl (PFM_8_128_89 rfl) ?_
          refine ev_go 1 (pc' := 103) (L' := [some (.ref 89)]) (st' := []) (h' := (HM P (u_m_at c223.2 ((a_m_at c223.2) + 1)) T)) (cs' := 0) (sl' := 0) rfl ?_
          exact ih1 _ _ h P T
set_option maxHeartbeats 40000000 in
set_option maxRecDepth 100000 in
theorem Em_token_89 (n : Nat) (w : WM) (w' : WM) (h : Fm_token_89 n w = some w') (P : Nat → ai_E) (T : ai_H) : ai_ev D1 mm_token 0 [some (.ref 89)] [] (HM P w T) 0 0 (none, HM P w' T) := by
  unfold Fm_token_89 at h
  obtain ⟨ih0, ih1⟩ := EGm_token_89 n
  exact ih0 _ _ h P T
