set_option maxHeartbeats 40000000 in
set_option maxRecDepth 100000 in
theorem Em_isLoaded_89 (x446 : Int32) (w : WM) (r : Int32) (w' : WM) (h : Fm_isLoaded_89 x446 w = some (r, w')) (P : Nat → ai_E) (T : ai_H) : ai_ev D1 mm_isLoaded 0 [some (.ref 89), some (.int x446)] [] (HM P w T) 0 0 (some (.int r), HM P w' T) := by
  unfold Fm_isLoaded_89 at h
  refine ev_go 2 (pc' := 2) (L' := [some (.ref 89), some (.int x446)]) (st' := [.int x446, .ref 89]) (h' := (HM P w T)) (cs' := 0) (sl' := 0) rfl ?_
  obtain ⟨c447, hq, h⟩ := ai_bdE h
  refine ev_call (M' := mm_isThing) (L' := [some (.ref 89), some (.int x446)]) (rest := []) (rv := some (.int c447.1)) (h' := (HM P c447.2 T)) rfl (Em_isThing_89 x446 w _ _ hq P T) ?_
  show ai_ev D1 mm_isLoaded 5 [some (.ref 89), some (.int x446)] [.int c447.1] (HM P c447.2 T) 0 0 _
  rcases ai_ifE h with ⟨hc, h⟩ | ⟨hc, h⟩
  · refine ev_if_eq (t := 32) rfl rfl (fun _ => ?_) (fun c9 => absurd hc c9)
    refine ev_go 1 (pc' := 33) (L' := [some (.ref 89), some (.int x446)]) (st' := [.int 0]) (h' := (HM P c447.2 T)) (cs' := 0) (sl' := 0) rfl ?_
    obtain ⟨rfl, rfl⟩ := ai_smP h
    exact ev_end rfl
  · refine ev_if_eq (t := 32) rfl rfl (fun c9 => absurd c9 hc) (fun _ => ?_)
    refine ev_go 5 (pc' := 16) (L' := [some (.ref 89), some (.int x446)]) (st' := [.int (67 + x446), .ref 90]) (h' := (HM P c447.2 T)) (cs' := 0) (sl' := 0) rfl ?_
    obtain ⟨v448, hq, h⟩ := ai_bdE h
    refine ev_iald rfl rfl hq ?_
    refine ev_go 3 (pc' := 22) (L' := [some (.ref 89), some (.int x446)]) (st' := [.long 3, .long 1, .long (v448).toInt64]) (h' := (HM P c447.2 T)) (cs' := 0) (sl' := 0) rfl ?_
    obtain ⟨c449, hq, h⟩ := ai_bdE h
    refine ev_call (M' := mm_in) (L' := [some (.long (v448).toInt64), none, some (.long 1), none, some (.long 3), none]) (rest := []) (rv := some (.int c449)) (h' := (HM P c447.2 T)) rfl (Em_in (v448).toInt64 1 3 _ hq (HM P c447.2 T)) ?_
    show ai_ev D1 mm_isLoaded 25 [some (.ref 89), some (.int x446)] [.int c449] (HM P c447.2 T) 0 0 _
    rcases ai_ifE h with ⟨hc, h⟩ | ⟨hc, h⟩
    · refine ev_if_eq (t := 32) rfl rfl (fun _ => ?_) (fun c9 => absurd hc c9)
      refine ev_go 1 (pc' := 33) (L' := [some (.ref 89), some (.int x446)]) (st' := [.int 0]) (h' := (HM P c447.2 T)) (cs' := 0) (sl' := 0) rfl ?_
      obtain ⟨rfl, rfl⟩ := ai_smP h
      exact ev_end rfl
    · refine ev_if_eq (t := 32) rfl rfl (fun c9 => absurd c9 hc) (fun _ => ?_)
      refine ev_go 2 (pc' := 33) (L' := [some (.ref 89), some (.int x446)]) (st' := [.int 1]) (h' := (HM P c447.2 T)) (cs' := 0) (sl' := 0) rfl ?_
      obtain ⟨rfl, rfl⟩ := ai_smP h
      exact ev_end rfl
set_option maxHeartbeats 40000000 in
set_option maxRecDepth 100000 in
theorem EGm_leastFor_89 : ∀ n : Nat, (∀ (y458 : Int32) (y459 : Int32) (y460 : Int32) (y461 : Int32) (w : WM) (r : Int32) (w' : WM), Gm_leastFor_89 n 0 y458 y459 y460 y461 w = some (r, w') → ∀ (P : Nat → ai_E) (T : ai_H), ai_ev D1 mm_leastFor 6 [some (.ref 89), some (.int y458), some (.int y459), some (.int y460), some (.int y461)] [] (HM P w T) 0 0 (some (.int r), HM P w' T)) := by
  intro n
  induction n with
  | zero =>
    exact (fun _ _ _ _ _ _ _ h => by cases h)
  | succ n ih0 =>
    intro y458 y459 y460 y461 w r w' h P T
    simp only [Gm_leastFor_89] at h
    refine ev_go 1 (pc' := 8) (L' := [some (.ref 89), some (.int y458), some (.int y459), some (.int y460), some (.int y461)]) (st' := [.int y461]) (h' := (HM P w T)) (cs' := 0) (sl' := 0) rfl ?_
    rcases ai_ifE h with ⟨hc, h⟩ | ⟨hc, h⟩
    · refine ev_if_lt (t := 43) rfl rfl (fun _ => ?_) (fun c9 => absurd hc c9)
      refine ev_go 1 (pc' := 44) (L' := [some (.ref 89), some (.int y458), some (.int y459), some (.int y460), some (.int y461)]) (st' := [.int y460]) (h' := (HM P w T)) (cs' := 0) (sl' := 0) rfl ?_
      obtain ⟨rfl, rfl⟩ := ai_smP h
      exact ev_end rfl
    · refine ev_if_lt (t := 43) rfl rfl (fun c9 => absurd c9 hc) (fun _ => ?_)
      refine ev_go 2 (pc' := 14) (L' := [some (.ref 89), some (.int y458), some (.int y459), some (.int y460), some (.int y461)]) (st' := [.int y461, .ref 89]) (h' := (HM P w T)) (cs' := 0) (sl' := 0) rfl ?_
      refine ev_step rfl rfl rfl (PFM_8_186_89 rfl) ?_
      refine ev_go 2 (pc' := 19) (L' := [some (.ref 89), some (.int y458), some (.int y459), some (.int y460), some (.int y461)]) (st' := [.int y458, .ref 89]) (h' := (HM P (u_m_load w y461) T)) (cs' := 0) (sl' := 0) rfl ?_
      obtain ⟨c462, hq, h⟩ := ai_bdE h
      refine ev_call (M' := mm_comesDown) (L' := [some (.ref 89), some (.int y458), none, none, none]) (rest := []) (rv := none) (h' := (HM P c462 T)) rfl (Em_comesDown_89 n y458 (u_m_load w y461) _ hq P T) ?_
      show ai_ev D1 mm_leastFor 22 [some (.ref 89), some (.int y458), some (.int y459), some (.int y460), some (.int y461)] [] (HM P c462 T) 0 0 _
      refine ev_go 3 (pc' := 27) (L' := [some (.ref 89), some (.int y458), some (.int y459), some (.int y460), some (.int y461)]) (st' := [.int y459, .int (a_m_restsIn c462)]) (h' := (HM P c462 T)) (cs' := 0) (sl' := 0) rfl ?_
      rcases ai_ifE h with ⟨hc, h⟩ | ⟨hc, h⟩
      · refine ev_ic_ne (t := 35) rfl rfl (fun c9 => absurd hc c9) (fun _ => ?_)
        refine ev_go 5 (pc' := 6) (L' := [some (.ref 89), some (.int y458), some (.int y459), some (.int y461), some (.int (y461 + (-1)))]) (st' := []) (h' := (HM P c462 T)) (cs' := 0) (sl' := 0) rfl ?_
        exact ih0 _ _ _ _ _ _ _ h P T
      · refine ev_ic_ne (t := 35) rfl rfl (fun _ => ?_) (fun c9 => absurd c9 hc)
        refine ev_go 4 (pc' := 6) (L' := [some (.ref 89), some (.int y458), some (.int y459), some (.int y460), some (.int (y461 + (-1)))]) (st' := []) (h' := (HM P c462 T)) (cs' := 0) (sl' := 0) rfl ?_
        exact ih0 _ _ _ _ _ _ _ h P T
set_option maxHeartbeats 40000000 in
set_option maxRecDepth 100000 in
theorem Em_leastFor_89 (n : Nat) (x456 : Int32) (x457 : Int32) (w : WM) (r : Int32) (w' : WM) (h : Fm_leastFor_89 n x456 x457 w = some (r, w')) (P : Nat → ai_E) (T : ai_H) : ai_ev D1 mm_leastFor 0 [some (.ref 89), some (.int x456), some (.int x457), none, none] [] (HM P w T) 0 0 (some (.int r), HM P w' T) := by
  unfold Fm_leastFor_89 at h
  have ih0 := EGm_leastFor_89 n
  refine ev_go 4 (pc' := 6) (L' := [some (.ref 89), some (.int x456), some (.int x457), some (.int (-1)), some (.int 99)]) (st' := []) (h' := (HM P w T)) (cs' := 0) (sl' := 0) rfl ?_
  exact ih0 _ _ _ _ _ _ _ h P T
set_option maxHeartbeats 40000000 in
set_option maxRecDepth 100000 in
theorem Em_sink_89 (n : Nat) (x443 : Int32) (x444 : Int32) (x445 : Int32) (w : WM) (r : Int32) (w' : WM) (h : Fm_sink_89 n x443 x444 x445 w = some (r, w')) (P : Nat → ai_E) (T : ai_H) : ai_ev D1 mm_sink 0 [some (.ref 89), some (.int x443), some (.int x444), some (.int x445)] [] (HM P w T) 0 0 (some (.int r), HM P w' T) := by
  unfold Fm_sink_89 at h
  refine ev_go 2 (pc' := 2) (L' := [some (.ref 89), some (.int x443), some (.int x444), some (.int x445)]) (st' := [.int x443, .ref 89]) (h' := (HM P w T)) (cs' := 0) (sl' := 0) rfl ?_
  obtain ⟨c450, hq, h⟩ := ai_bdE h
  refine ev_call (M' := mm_isLoaded) (L' := [some (.ref 89), some (.int x443)]) (rest := []) (rv := some (.int c450.1)) (h' := (HM P c450.2 T)) rfl (Em_isLoaded_89 x443 w _ _ hq P T) ?_
  show ai_ev D1 mm_sink 5 [some (.ref 89), some (.int x443), some (.int x444), some (.int x445)] [.int c450.1] (HM P c450.2 T) 0 0 _
  rcases ai_ifE h with ⟨hc, h⟩ | ⟨hc, h⟩
  · refine ev_if_eq (t := 28) rfl rfl (fun _ => ?_) (fun c9 => absurd hc c9)
    refine ev_go 2 (pc' := 31) (L' := [some (.ref 89), some (.int x443), some (.int x444), some (.int x445)]) (st' := [.int (-10), .ref 89]) (h' := (HM P c450.2 T)) (cs' := 0) (sl' := 0) rfl ?_
    obtain ⟨c451, hq, h⟩ := ai_bdE h
    refine ev_call (M' := mm_badAs) (L' := [some (.ref 89), some (.int (-10))]) (rest := []) (rv := some (.int c451.1)) (h' := (HM P c451.2 T)) rfl (Em_badAs_89 (-10) c450.2 _ _ hq P T) ?_
    show ai_ev D1 mm_sink 34 [some (.ref 89), some (.int x443), some (.int x444), some (.int x445)] [.int c451.1] (HM P c451.2 T) 0 0 _
    obtain ⟨rfl, rfl⟩ := ai_smP h
    exact ev_end rfl
  · refine ev_if_eq (t := 28) rfl rfl (fun c9 => absurd c9 hc) (fun _ => ?_)
    refine ev_go 2 (pc' := 10) (L' := [some (.ref 89), some (.int x443), some (.int x444), some (.int x445)]) (st' := [.int x444, .ref 89]) (h' := (HM P c450.2 T)) (cs' := 0) (sl' := 0) rfl ?_
    obtain ⟨c452, hq, h⟩ := ai_bdE h
    refine ev_call (M' := mm_isCell) (L' := [some (.ref 89), some (.int x444)]) (rest := []) (rv := some (.int c452.1)) (h' := (HM P c452.2 T)) rfl (Em_isCell_89 x444 c450.2 _ _ hq P T) ?_
    show ai_ev D1 mm_sink 13 [some (.ref 89), some (.int x443), some (.int x444), some (.int x445)] [.int c452.1] (HM P c452.2 T) 0 0 _
    rcases ai_ifE h with ⟨hc, h⟩ | ⟨hc, h⟩
    · refine ev_if_eq (t := 28) rfl rfl (fun _ => ?_) (fun c9 => absurd hc c9)
      refine ev_go 2 (pc' := 31) (L' := [some (.ref 89), some (.int x443), some (.int x444), some (.int x445)]) (st' := [.int (-10), .ref 89]) (h' := (HM P c452.2 T)) (cs' := 0) (sl' := 0) rfl ?_
      obtain ⟨c453, hq, h⟩ := ai_bdE h
      refine ev_call (M' := mm_badAs) (L' := [some (.ref 89), some (.int (-10))]) (rest := []) (rv := some (.int c453.1)) (h' := (HM P c453.2 T)) rfl (Em_badAs_89 (-10) c452.2 _ _ hq P T) ?_
      show ai_ev D1 mm_sink 34 [some (.ref 89), some (.int x443), some (.int x444), some (.int x445)] [.int c453.1] (HM P c453.2 T) 0 0 _
      obtain ⟨rfl, rfl⟩ := ai_smP h
      exact ev_end rfl
    · refine ev_if_eq (t := 28) rfl rfl (fun c9 => absurd c9 hc) (fun _ => ?_)
      refine ev_go 4 (pc' := 22) (L' := [some (.ref 89), some (.int x443), some (.int x444), some (.int x445)]) (st' := [.long 4, .long 0, .long (x445).toInt64]) (h' := (HM P c452.2 T)) (cs' := 0) (sl' := 0) rfl ?_
      obtain ⟨c454, hq, h⟩ := ai_bdE h
      refine ev_call (M' := mm_in) (L' := [some (.long (x445).toInt64), none, some (.long 0), none, some (.long 4), none]) (rest := []) (rv := some (.int c454)) (h' := (HM P c452.2 T)) rfl (Em_in (x445).toInt64 0 4 _ hq (HM P c452.2 T)) ?_
      show ai_ev D1 mm_sink 25 [some (.ref 89), some (.int x443), some (.int x444), some (.int x445)] [.int c454] (HM P c452.2 T) 0 0 _
      rcases ai_ifE h with ⟨hc, h⟩ | ⟨hc, h⟩
      · refine ev_if_ne (t := 35) rfl rfl (fun c9 => absurd hc c9) (fun _ => ?_)
        refine ev_go 2 (pc' := 31) (L' := [some (.ref 89), some (.int x443), some (.int x444), some (.int x445)]) (st' := [.int (-10), .ref 89]) (h' := (HM P c452.2 T)) (cs' := 0) (sl' := 0) rfl ?_
        obtain ⟨c464, hq, h⟩ := ai_bdE h
        refine ev_call (M' := mm_badAs) (L' := [some (.ref 89), some (.int (-10))]) (rest := []) (rv := some (.int c464.1)) (h' := (HM P c464.2 T)) rfl (Em_badAs_89 (-10) c452.2 _ _ hq P T) ?_
        show ai_ev D1 mm_sink 34 [some (.ref 89), some (.int x443), some (.int x444), some (.int x445)] [.int c464.1] (HM P c464.2 T) 0 0 _
        obtain ⟨rfl, rfl⟩ := ai_smP h
        exact ev_end rfl
      · refine ev_if_ne (t := 35) rfl rfl (fun _ => ?_) (fun c9 => absurd c9 hc)
        refine ev_go 2 (pc' := 37) (L' := [some (.ref 89), some (.int x443), some (.int x444), some (.int x445)]) (st' := [.int x443, .ref 89]) (h' := (HM P c452.2 T)) (cs' := 0) (sl' := 0) rfl ?_
        obtain ⟨c455, hq, h⟩ := ai_bdE h
        refine ev_call (M' := mm_lay) (L' := [some (.ref 89), some (.int x443)]) (rest := []) (rv := none) (h' := (HM P c455 T)) rfl (Em_lay_89 x443 c452.2 _ hq P T) ?_
        show ai_ev D1 mm_sink 40 [some (.ref 89), some (.int x443), some (.int x444), some (.int x445)] [] (HM P c455 T) 0 0 _
        refine ev_go 3 (pc' := 43) (L' := [some (.ref 89), some (.int x443), some (.int x444), some (.int x445)]) (st' := [.int x445, .int x444, .ref 89]) (h' := (HM P c455 T)) (cs' := 0) (sl' := 0) rfl ?_
        obtain ⟨c463, hq, h⟩ := ai_bdE h
        refine ev_call (M' := mm_leastFor) (L' := [some (.ref 89), some (.int x444), some (.int x445), none, none]) (rest := []) (rv := some (.int c463.1)) (h' := (HM P c463.2 T)) rfl (Em_leastFor_89 n x444 x445 c455 _ _ hq P T) ?_
        show ai_ev D1 mm_sink 46 [some (.ref 89), some (.int x443), some (.int x444), some (.int x445)] [.int c463.1] (HM P c463.2 T) 0 0 _
        obtain ⟨rfl, rfl⟩ := ai_smP h
        exact ev_end rfl
set_option maxHeartbeats 40000000 in
set_option maxRecDepth 100000 in
theorem Em_holds_89 (n : Nat) (x465 : Int32) (x466 : Int32) (w : WM) (r : Int32) (w' : WM) (h : Fm_holds_89 n x465 x466 w = some (r, w')) (P : Nat → ai_E) (T : ai_H) : ai_ev D1 mm_holds 0 [some (.ref 89), some (.int x465), some (.int x466)] [] (HM P w T) 0 0 (some (.int r), HM P w' T) := by
  unfold Fm_holds_89 at h
  refine ev_go 2 (pc' := 2) (L' := [some (.ref 89), some (.int x465), some (.int x466)]) (st' := [.int x465, .ref 89]) (h' := (HM P w T)) (cs' := 0) (sl' := 0) rfl ?_
  obtain ⟨c467, hq, h⟩ := ai_bdE h
  refine ev_call (M' := mm_isLoaded) (L' := [some (.ref 89), some (.int x465)]) (rest := []) (rv := some (.int c467.1)) (h' := (HM P c467.2 T)) rfl (Em_isLoaded_89 x465 w _ _ hq P T) ?_
  show ai_ev D1 mm_holds 5 [some (.ref 89), some (.int x465), some (.int x466)] [.int c467.1] (HM P c467.2 T) 0 0 _
  rcases ai_ifE h with ⟨hc, h⟩ | ⟨hc, h⟩
  · refine ev_if_eq (t := 16) rfl rfl (fun _ => ?_) (fun c9 => absurd hc c9)
    refine ev_go 2 (pc' := 19) (L' := [some (.ref 89), some (.int x465), some (.int x466)]) (st' := [.int (-10), .ref 89]) (h' := (HM P c467.2 T)) (cs' := 0) (sl' := 0) rfl ?_
    obtain ⟨c468, hq, h⟩ := ai_bdE h
    refine ev_call (M' := mm_badAs) (L' := [some (.ref 89), some (.int (-10))]) (rest := []) (rv := some (.int c468.1)) (h' := (HM P c468.2 T)) rfl (Em_badAs_89 (-10) c467.2 _ _ hq P T) ?_
    show ai_ev D1 mm_holds 22 [some (.ref 89), some (.int x465), some (.int x466)] [.int c468.1] (HM P c468.2 T) 0 0 _
    obtain ⟨rfl, rfl⟩ := ai_smP h
    exact ev_end rfl
  · refine ev_if_eq (t := 16) rfl rfl (fun c9 => absurd c9 hc) (fun _ => ?_)
    refine ev_go 2 (pc' := 10) (L' := [some (.ref 89), some (.int x465), some (.int x466)]) (st' := [.int x466, .ref 89]) (h' := (HM P c467.2 T)) (cs' := 0) (sl' := 0) rfl ?_
    obtain ⟨c469, hq, h⟩ := ai_bdE h
    refine ev_call (M' := mm_isCell) (L' := [some (.ref 89), some (.int x466)]) (rest := []) (rv := some (.int c469.1)) (h' := (HM P c469.2 T)) rfl (Em_isCell_89 x466 c467.2 _ _ hq P T) ?_
    show ai_ev D1 mm_holds 13 [some (.ref 89), some (.int x465), some (.int x466)] [.int c469.1] (HM P c469.2 T) 0 0 _
    rcases ai_ifE h with ⟨hc, h⟩ | ⟨hc, h⟩
    · refine ev_if_ne (t := 23) rfl rfl (fun c9 => absurd hc c9) (fun _ => ?_)
      refine ev_go 2 (pc' := 19) (L' := [some (.ref 89), some (.int x465), some (.int x466)]) (st' := [.int (-10), .ref 89]) (h' := (HM P c469.2 T)) (cs' := 0) (sl' := 0) rfl ?_
      obtain ⟨c472, hq, h⟩ := ai_bdE h
      refine ev_call (M' := mm_badAs) (L' := [some (.ref 89), some (.int (-10))]) (rest := []) (rv := some (.int c472.1)) (h' := (HM P c472.2 T)) rfl (Em_badAs_89 (-10) c469.2 _ _ hq P T) ?_
      show ai_ev D1 mm_holds 22 [some (.ref 89), some (.int x465), some (.int x466)] [.int c472.1] (HM P c472.2 T) 0 0 _
      obtain ⟨rfl, rfl⟩ := ai_smP h
      exact ev_end rfl
    · refine ev_if_ne (t := 23) rfl rfl (fun _ => ?_) (fun c9 => absurd c9 hc)
      refine ev_go 2 (pc' := 25) (L' := [some (.ref 89), some (.int x465), some (.int x466)]) (st' := [.int x465, .ref 89]) (h' := (HM P c469.2 T)) (cs' := 0) (sl' := 0) rfl ?_
      obtain ⟨c470, hq, h⟩ := ai_bdE h
      refine ev_call (M' := mm_lay) (L' := [some (.ref 89), some (.int x465)]) (rest := []) (rv := none) (h' := (HM P c470 T)) rfl (Em_lay_89 x465 c469.2 _ hq P T) ?_
      show ai_ev D1 mm_holds 28 [some (.ref 89), some (.int x465), some (.int x466)] [] (HM P c470 T) 0 0 _
      refine ev_go 2 (pc' := 31) (L' := [some (.ref 89), some (.int x465), some (.int x466)]) (st' := [.int 99, .ref 89]) (h' := (HM P c470 T)) (cs' := 0) (sl' := 0) rfl ?_
      refine ev_step rfl rfl rfl (PFM_8_186_89 rfl) ?_
      refine ev_go 2 (pc' := 36) (L' := [some (.ref 89), some (.int x465), some (.int x466)]) (st' := [.int x466, .ref 89]) (h' := (HM P (u_m_load c470 99) T)) (cs' := 0) (sl' := 0) rfl ?_
      obtain ⟨c471, hq, h⟩ := ai_bdE h
      refine ev_call (M' := mm_comesDown) (L' := [some (.ref 89), some (.int x466), none, none, none]) (rest := []) (rv := none) (h' := (HM P c471 T)) rfl (Em_comesDown_89 n x466 (u_m_load c470 99) _ hq P T) ?_
      show ai_ev D1 mm_holds 39 [some (.ref 89), some (.int x465), some (.int x466)] [] (HM P c471 T) 0 0 _
      refine ev_go 2 (pc' := 43) (L' := [some (.ref 89), some (.int x465), some (.int x466)]) (st' := [.int (a_m_stops c471)]) (h' := (HM P c471 T)) (cs' := 0) (sl' := 0) rfl ?_
      obtain ⟨rfl, rfl⟩ := ai_smP h
      exact ev_end rfl
set_option maxHeartbeats 40000000 in
set_option maxRecDepth 100000 in
theorem EGm_bestHour_89 : ∀ n : Nat, (∀ (y483 : Int32) (y484 : Int32) (y485 : Int32) (y486 : Int32) (y487 : Int32) (y488 : Int32) (w : WM) (r : Int32) (w' : WM), Gm_bestHour_89 n 0 y483 y484 y485 y486 y487 y488 w = some (r, w') → ∀ (P : Nat → ai_E) (T : ai_H) (o7 : Option Value), ai_ev D1 mm_bestHour 50 [some (.ref 89), some (.int y483), some (.int y484), some (.int y485), some (.int y486), some (.int y487), some (.int y488), o7] [] (HM P w T) 0 0 (some (.int r), HM P w' T)) := by
  intro n
  induction n with
  | zero =>
    exact (fun _ _ _ _ _ _ _ _ _ h => by cases h)
  | succ n ih0 =>
    intro y483 y484 y485 y486 y487 y488 w r w' h P T o7
    simp only [Gm_bestHour_89] at h
    refine ev_go 2 (pc' := 54) (L' := [some (.ref 89), some (.int y483), some (.int y484), some (.int y485), some (.int y486), some (.int y487), some (.int y488), o7]) (st' := [.int 6, .int y488]) (h' := (HM P w T)) (cs' := 0) (sl' := 0) rfl ?_
    rcases ai_ifE h with ⟨hc, h⟩ | ⟨hc, h⟩
    · refine ev_ic_ge (t := 126) rfl rfl (fun _ => ?_) (fun c9 => absurd hc c9)
      refine ev_go 1 (pc' := 128) (L' := [some (.ref 89), some (.int y483), some (.int y484), some (.int y485), some (.int y486), some (.int y487), some (.int y488), o7]) (st' := [.int y486]) (h' := (HM P w T)) (cs' := 0) (sl' := 0) rfl ?_
      obtain ⟨rfl, rfl⟩ := ai_smP h
      exact ev_end rfl
    · refine ev_ic_ge (t := 126) rfl rfl (fun c9 => absurd c9 hc) (fun _ => ?_)
      refine ev_go 4 (pc' := 63) (L' := [some (.ref 89), some (.int y483), some (.int y484), some (.int y485), some (.int y486), some (.int y487), some (.int y488), o7]) (st' := [.int 1, .ref 90, .ref 89]) (h' := (HM P w T)) (cs' := 0) (sl' := 0) rfl ?_
      obtain ⟨v489, hq, h⟩ := ai_bdE h
      refine ev_iald rfl rfl hq ?_
      refine ev_go 2 (pc' := 67) (L' := [some (.ref 89), some (.int y483), some (.int y484), some (.int y485), some (.int y486), some (.int y487), some (.int y488), o7]) (st' := [.int (v489 + y488), .ref 89]) (h' := (HM P w T)) (cs' := 0) (sl' := 0) rfl ?_
      refine ev_step rfl rfl rfl (PFM_8_189_89 rfl) ?_
      refine ev_go 3 (pc' := 73) (L' := [some (.ref 89), some (.int y483), some (.int y484), some (.int y485), some (.int y486), some (.int y487), some (.int y488), o7]) (st' := [.int y485, .int y484, .ref 89]) (h' := (HM P (u_m_hour w (v489 + y488)) T)) (cs' := 0) (sl' := 0) rfl ?_
      obtain ⟨c490, hq, h⟩ := ai_bdE h
      refine ev_call (M' := mm_leastFor) (L' := [some (.ref 89), some (.int y484), some (.int y485), none, none]) (rest := []) (rv := some (.int c490.1)) (h' := (HM P c490.2 T)) rfl (Em_leastFor_89 n y484 y485 (u_m_hour w (v489 + y488)) _ _ hq P T) ?_
      show ai_ev D1 mm_bestHour 76 [some (.ref 89), some (.int y483), some (.int y484), some (.int y485), some (.int y486), some (.int y487), some (.int y488), o7] [.int c490.1] (HM P c490.2 T) 0 0 _
      refine ev_go 2 (pc' := 80) (L' := [some (.ref 89), some (.int y483), some (.int y484), some (.int y485), some (.int y486), some (.int y487), some (.int y488), some (.int c490.1)]) (st' := [.int c490.1]) (h' := (HM P c490.2 T)) (cs' := 0) (sl' := 0) rfl ?_
      rcases ai_ifE h with ⟨hc, h⟩ | ⟨hc, h⟩
      · refine ev_if_lt (t := 95) rfl rfl (fun _ => ?_) (fun c9 => absurd hc c9)
        refine ev_go 3 (pc' := 101) (L' := [some (.ref 89), some (.int y483), some (.int y484), some (.int y485), some (.int y486), some (.int y487), some (.int y488), some (.int c490.1)]) (st' := [.int c490.1]) (h' := (HM P c490.2 T)) (cs' := 0) (sl' := 0) rfl ?_
        rcases ai_ifE h with ⟨hc, h⟩ | ⟨hc, h⟩
        · refine ev_if_lt (t := 116) rfl rfl (fun _ => ?_) (fun c9 => absurd hc c9)
          refine ev_go 4 (pc' := 50) (L' := [some (.ref 89), some (.int y483), some (.int y484), some (.int y485), some (.int y486), some (.int y487), some (.int (y488 + 1)), some (.int c490.1)]) (st' := []) (h' := (HM P c490.2 T)) (cs' := 0) (sl' := 0) rfl ?_
          exact ih0 _ _ _ _ _ _ _ _ _ h P T _
        · refine ev_if_lt (t := 116) rfl rfl (fun c9 => absurd c9 hc) (fun _ => ?_)
          refine ev_go 2 (pc' := 108) (L' := [some (.ref 89), some (.int y483), some (.int y484), some (.int y485), some (.int y486), some (.int y487), some (.int y488), some (.int c490.1)]) (st' := [.int y487, .int c490.1]) (h' := (HM P c490.2 T)) (cs' := 0) (sl' := 0) rfl ?_
          rcases ai_ifE h with ⟨hc, h⟩ | ⟨hc, h⟩
          · refine ev_ic_ge (t := 116) rfl rfl (fun _ => ?_) (fun c9 => absurd hc c9)
            refine ev_go 4 (pc' := 50) (L' := [some (.ref 89), some (.int y483), some (.int y484), some (.int y485), some (.int y486), some (.int y487), some (.int (y488 + 1)), some (.int c490.1)]) (st' := []) (h' := (HM P c490.2 T)) (cs' := 0) (sl' := 0) rfl ?_
            exact ih0 _ _ _ _ _ _ _ _ _ h P T _
          · refine ev_ic_ge (t := 116) rfl rfl (fun c9 => absurd c9 hc) (fun _ => ?_)
            refine ev_go 5 (pc' := 50) (L' := [some (.ref 89), some (.int y483), some (.int y484), some (.int y485), some (.int y486), some (.int c490.1), some (.int (y488 + 1)), some (.int c490.1)]) (st' := []) (h' := (HM P c490.2 T)) (cs' := 0) (sl' := 0) rfl ?_
            exact ih0 _ _ _ _ _ _ _ _ _ h P T _
      · refine ev_if_lt (t := 95) rfl rfl (fun c9 => absurd c9 hc) (fun _ => ?_)
        refine ev_go 2 (pc' := 87) (L' := [some (.ref 89), some (.int y483), some (.int y484), some (.int y485), some (.int y486), some (.int y487), some (.int y488), some (.int c490.1)]) (st' := [.int y487, .int c490.1]) (h' := (HM P c490.2 T)) (cs' := 0) (sl' := 0) rfl ?_
        rcases ai_ifE h with ⟨hc, h⟩ | ⟨hc, h⟩
        · refine ev_ic_ge (t := 95) rfl rfl (fun _ => ?_) (fun c9 => absurd hc c9)
          refine ev_go 3 (pc' := 101) (L' := [some (.ref 89), some (.int y483), some (.int y484), some (.int y485), some (.int y486), some (.int y487), some (.int y488), some (.int c490.1)]) (st' := [.int c490.1]) (h' := (HM P c490.2 T)) (cs' := 0) (sl' := 0) rfl ?_
          rcases ai_ifE h with ⟨hc, h⟩ | ⟨hc, h⟩
          · refine ev_if_lt (t := 116) rfl rfl (fun _ => ?_) (fun c9 => absurd hc c9)
            refine ev_go 4 (pc' := 50) (L' := [some (.ref 89), some (.int y483), some (.int y484), some (.int y485), some (.int y486), some (.int y487), some (.int (y488 + 1)), some (.int c490.1)]) (st' := []) (h' := (HM P c490.2 T)) (cs' := 0) (sl' := 0) rfl ?_
            exact ih0 _ _ _ _ _ _ _ _ _ h P T _
          · refine ev_if_lt (t := 116) rfl rfl (fun c9 => absurd c9 hc) (fun _ => ?_)
            refine ev_go 2 (pc' := 108) (L' := [some (.ref 89), some (.int y483), some (.int y484), some (.int y485), some (.int y486), some (.int y487), some (.int y488), some (.int c490.1)]) (st' := [.int y487, .int c490.1]) (h' := (HM P c490.2 T)) (cs' := 0) (sl' := 0) rfl ?_
            rcases ai_ifE h with ⟨hc, h⟩ | ⟨hc, h⟩
            · refine ev_ic_ge (t := 116) rfl rfl (fun _ => ?_) (fun c9 => absurd hc c9)
              refine ev_go 4 (pc' := 50) (L' := [some (.ref 89), some (.int y483), some (.int y484), some (.int y485), some (.int y486), some (.int y487), some (.int (y488 + 1)), some (.int c490.1)]) (st' := []) (h' := (HM P c490.2 T)) (cs' := 0) (sl' := 0) rfl ?_
              exact ih0 _ _ _ _ _ _ _ _ _ h P T _
            · refine ev_ic_ge (t := 116) rfl rfl (fun c9 => absurd c9 hc) (fun _ => ?_)
              refine ev_go 5 (pc' := 50) (L' := [some (.ref 89), some (.int y483), some (.int y484), some (.int y485), some (.int y486), some (.int c490.1), some (.int (y488 + 1)), some (.int c490.1)]) (st' := []) (h' := (HM P c490.2 T)) (cs' := 0) (sl' := 0) rfl ?_
              exact ih0 _ _ _ _ _ _ _ _ _ h P T _
        · refine ev_ic_ge (t := 95) rfl rfl (fun c9 => absurd c9 hc) (fun _ => ?_)
          refine ev_go 4 (pc' := 101) (L' := [some (.ref 89), some (.int y483), some (.int y484), some (.int y485), some (.int y488), some (.int y487), some (.int y488), some (.int c490.1)]) (st' := [.int c490.1]) (h' := (HM P c490.2 T)) (cs' := 0) (sl' := 0) rfl ?_
          rcases ai_ifE h with ⟨hc, h⟩ | ⟨hc, h⟩
          · refine ev_if_lt (t := 116) rfl rfl (fun _ => ?_) (fun c9 => absurd hc c9)
            refine ev_go 4 (pc' := 50) (L' := [some (.ref 89), some (.int y483), some (.int y484), some (.int y485), some (.int y488), some (.int y487), some (.int (y488 + 1)), some (.int c490.1)]) (st' := []) (h' := (HM P c490.2 T)) (cs' := 0) (sl' := 0) rfl ?_
            exact ih0 _ _ _ _ _ _ _ _ _ h P T _
          · refine ev_if_lt (t := 116) rfl rfl (fun c9 => absurd c9 hc) (fun _ => ?_)
            refine ev_go 2 (pc' := 108) (L' := [some (.ref 89), some (.int y483), some (.int y484), some (.int y485), some (.int y488), some (.int y487), some (.int y488), some (.int c490.1)]) (st' := [.int y487, .int c490.1]) (h' := (HM P c490.2 T)) (cs' := 0) (sl' := 0) rfl ?_
            rcases ai_ifE h with ⟨hc, h⟩ | ⟨hc, h⟩
            · refine ev_ic_ge (t := 116) rfl rfl (fun _ => ?_) (fun c9 => absurd hc c9)
              refine ev_go 4 (pc' := 50) (L' := [some (.ref 89), some (.int y483), some (.int y484), some (.int y485), some (.int y488), some (.int y487), some (.int (y488 + 1)), some (.int c490.1)]) (st' := []) (h' := (HM P c490.2 T)) (cs' := 0) (sl' := 0) rfl ?_
              exact ih0 _ _ _ _ _ _ _ _ _ h P T _
            · refine ev_ic_ge (t := 116) rfl rfl (fun c9 => absurd c9 hc) (fun _ => ?_)
              refine ev_go 5 (pc' := 50) (L' := [some (.ref 89), some (.int y483), some (.int y484), some (.int y485), some (.int y488), some (.int c490.1), some (.int (y488 + 1)), some (.int c490.1)]) (st' := []) (h' := (HM P c490.2 T)) (cs' := 0) (sl' := 0) rfl ?_
              exact ih0 _ _ _ _ _ _ _ _ _ h P T _
set_option maxHeartbeats 40000000 in
set_option maxRecDepth 100000 in
theorem Em_bestHour_89 (n : Nat) (x473 : Int32) (x474 : Int32) (x475 : Int32) (w : WM) (r : Int32) (w' : WM) (h : Fm_bestHour_89 n x473 x474 x475 w = some (r, w')) (P : Nat → ai_E) (T : ai_H) : ai_ev D1 mm_bestHour 0 [some (.ref 89), some (.int x473), some (.int x474), some (.int x475), none, none, none, none] [] (HM P w T) 0 0 (some (.int r), HM P w' T) := by
  unfold Fm_bestHour_89 at h
  have ih0 := EGm_bestHour_89 n
  refine ev_go 2 (pc' := 2) (L' := [some (.ref 89), some (.int x473), some (.int x474), some (.int x475), none, none, none, none]) (st' := [.int x473, .ref 89]) (h' := (HM P w T)) (cs' := 0) (sl' := 0) rfl ?_
  obtain ⟨c476, hq, h⟩ := ai_bdE h
  refine ev_call (M' := mm_isLoaded) (L' := [some (.ref 89), some (.int x473)]) (rest := []) (rv := some (.int c476.1)) (h' := (HM P c476.2 T)) rfl (Em_isLoaded_89 x473 w _ _ hq P T) ?_
  show ai_ev D1 mm_bestHour 5 [some (.ref 89), some (.int x473), some (.int x474), some (.int x475), none, none, none, none] [.int c476.1] (HM P c476.2 T) 0 0 _
  rcases ai_ifE h with ⟨hc, h⟩ | ⟨hc, h⟩
  · refine ev_if_eq (t := 28) rfl rfl (fun _ => ?_) (fun c9 => absurd hc c9)
    refine ev_go 2 (pc' := 31) (L' := [some (.ref 89), some (.int x473), some (.int x474), some (.int x475), none, none, none, none]) (st' := [.int (-10), .ref 89]) (h' := (HM P c476.2 T)) (cs' := 0) (sl' := 0) rfl ?_
    obtain ⟨c477, hq, h⟩ := ai_bdE h
    refine ev_call (M' := mm_badAs) (L' := [some (.ref 89), some (.int (-10))]) (rest := []) (rv := some (.int c477.1)) (h' := (HM P c477.2 T)) rfl (Em_badAs_89 (-10) c476.2 _ _ hq P T) ?_
    show ai_ev D1 mm_bestHour 34 [some (.ref 89), some (.int x473), some (.int x474), some (.int x475), none, none, none, none] [.int c477.1] (HM P c477.2 T) 0 0 _
    obtain ⟨rfl, rfl⟩ := ai_smP h
    exact ev_end rfl
  · refine ev_if_eq (t := 28) rfl rfl (fun c9 => absurd c9 hc) (fun _ => ?_)
    refine ev_go 2 (pc' := 10) (L' := [some (.ref 89), some (.int x473), some (.int x474), some (.int x475), none, none, none, none]) (st' := [.int x474, .ref 89]) (h' := (HM P c476.2 T)) (cs' := 0) (sl' := 0) rfl ?_
    obtain ⟨c478, hq, h⟩ := ai_bdE h
    refine ev_call (M' := mm_isCell) (L' := [some (.ref 89), some (.int x474)]) (rest := []) (rv := some (.int c478.1)) (h' := (HM P c478.2 T)) rfl (Em_isCell_89 x474 c476.2 _ _ hq P T) ?_
    show ai_ev D1 mm_bestHour 13 [some (.ref 89), some (.int x473), some (.int x474), some (.int x475), none, none, none, none] [.int c478.1] (HM P c478.2 T) 0 0 _
    rcases ai_ifE h with ⟨hc, h⟩ | ⟨hc, h⟩
    · refine ev_if_eq (t := 28) rfl rfl (fun _ => ?_) (fun c9 => absurd hc c9)
      refine ev_go 2 (pc' := 31) (L' := [some (.ref 89), some (.int x473), some (.int x474), some (.int x475), none, none, none, none]) (st' := [.int (-10), .ref 89]) (h' := (HM P c478.2 T)) (cs' := 0) (sl' := 0) rfl ?_
      obtain ⟨c479, hq, h⟩ := ai_bdE h
      refine ev_call (M' := mm_badAs) (L' := [some (.ref 89), some (.int (-10))]) (rest := []) (rv := some (.int c479.1)) (h' := (HM P c479.2 T)) rfl (Em_badAs_89 (-10) c478.2 _ _ hq P T) ?_
      show ai_ev D1 mm_bestHour 34 [some (.ref 89), some (.int x473), some (.int x474), some (.int x475), none, none, none, none] [.int c479.1] (HM P c479.2 T) 0 0 _
      obtain ⟨rfl, rfl⟩ := ai_smP h
      exact ev_end rfl
    · refine ev_if_eq (t := 28) rfl rfl (fun c9 => absurd c9 hc) (fun _ => ?_)
      refine ev_go 4 (pc' := 22) (L' := [some (.ref 89), some (.int x473), some (.int x474), some (.int x475), none, none, none, none]) (st' := [.long 4, .long 0, .long (x475).toInt64]) (h' := (HM P c478.2 T)) (cs' := 0) (sl' := 0) rfl ?_
      obtain ⟨c480, hq, h⟩ := ai_bdE h
      refine ev_call (M' := mm_in) (L' := [some (.long (x475).toInt64), none, some (.long 0), none, some (.long 4), none]) (rest := []) (rv := some (.int c480)) (h' := (HM P c478.2 T)) rfl (Em_in (x475).toInt64 0 4 _ hq (HM P c478.2 T)) ?_
      show ai_ev D1 mm_bestHour 25 [some (.ref 89), some (.int x473), some (.int x474), some (.int x475), none, none, none, none] [.int c480] (HM P c478.2 T) 0 0 _
      rcases ai_ifE h with ⟨hc, h⟩ | ⟨hc, h⟩
      · refine ev_if_ne (t := 35) rfl rfl (fun c9 => absurd hc c9) (fun _ => ?_)
        refine ev_go 2 (pc' := 31) (L' := [some (.ref 89), some (.int x473), some (.int x474), some (.int x475), none, none, none, none]) (st' := [.int (-10), .ref 89]) (h' := (HM P c478.2 T)) (cs' := 0) (sl' := 0) rfl ?_
        obtain ⟨c482, hq, h⟩ := ai_bdE h
        refine ev_call (M' := mm_badAs) (L' := [some (.ref 89), some (.int (-10))]) (rest := []) (rv := some (.int c482.1)) (h' := (HM P c482.2 T)) rfl (Em_badAs_89 (-10) c478.2 _ _ hq P T) ?_
        show ai_ev D1 mm_bestHour 34 [some (.ref 89), some (.int x473), some (.int x474), some (.int x475), none, none, none, none] [.int c482.1] (HM P c482.2 T) 0 0 _
        obtain ⟨rfl, rfl⟩ := ai_smP h
        exact ev_end rfl
      · refine ev_if_ne (t := 35) rfl rfl (fun _ => ?_) (fun c9 => absurd c9 hc)
        refine ev_go 6 (pc' := 44) (L' := [some (.ref 89), some (.int x473), some (.int x474), some (.int x475), some (.int (-1)), some (.int 1000000), none, none]) (st' := [.int x473, .ref 89]) (h' := (HM P c478.2 T)) (cs' := 0) (sl' := 0) rfl ?_
        obtain ⟨c481, hq, h⟩ := ai_bdE h
        refine ev_call (M' := mm_lay) (L' := [some (.ref 89), some (.int x473)]) (rest := []) (rv := none) (h' := (HM P c481 T)) rfl (Em_lay_89 x473 c478.2 _ hq P T) ?_
        show ai_ev D1 mm_bestHour 47 [some (.ref 89), some (.int x473), some (.int x474), some (.int x475), some (.int (-1)), some (.int 1000000), none, none] [] (HM P c481 T) 0 0 _
        refine ev_go 2 (pc' := 50) (L' := [some (.ref 89), some (.int x473), some (.int x474), some (.int x475), some (.int (-1)), some (.int 1000000), some (.int 0), none]) (st' := []) (h' := (HM P c481 T)) (cs' := 0) (sl' := 0) rfl ?_
        exact ih0 _ _ _ _ _ _ _ _ _ h P T _
set_option maxHeartbeats 40000000 in
set_option maxRecDepth 100000 in
theorem Em_comesTo_89 (x515 : Int32) (x516 : Int32) (x517 : Int32) (w : WM) (r : Int32) (w' : WM) (h : Fm_comesTo_89 x515 x516 x517 w = some (r, w')) (P : Nat → ai_E) (T : ai_H) : ai_ev D1 mm_comesTo 0 [some (.ref 89), some (.int x515), some (.int x516), some (.int x517), none] [] (HM P w T) 0 0 (some (.int r), HM P w' T) := by
  unfold Fm_comesTo_89 at h
  refine ev_go 3 (pc' := 5) (L' := [some (.ref 89), some (.int x515), some (.int x516), some (.int x517), none]) (st' := [.int x515, .ref 95]) (h' := (HM P w T)) (cs' := 0) (sl' := 0) rfl ?_
  obtain ⟨v518, hq, h⟩ := ai_bdE h
  refine ev_iald rfl rfl hq ?_
  refine ev_go 1 (pc' := 8) (L' := [some (.ref 89), some (.int x515), some (.int x516), some (.int x517), none]) (st' := [.int 1000000, .int v518]) (h' := (HM P w T)) (cs' := 0) (sl' := 0) rfl ?_
  rcases ai_ifE h with ⟨hc, h⟩ | ⟨hc, h⟩
  · refine ev_ic_ge (t := 32) rfl rfl (fun _ => ?_) (fun c9 => absurd hc c9)
    refine ev_go 10 (pc' := 61) (L' := [some (.ref 89), some (.int x515), some (.int x516), some (.int x517), some (.int 0)]) (st' := [.int x516, .ref 95, .int x516, .ref 95]) (h' := (HM P w T)) (cs' := 0) (sl' := 0) rfl ?_
    obtain ⟨v519, hq, h⟩ := ai_bdE h
    refine ev_iald rfl rfl hq ?_
    obtain ⟨q520, hq, h⟩ := ai_bdE h
    refine ev_iast rfl rfl hq ?_
    rw [HMs_95]
    refine ev_go 1 (pc' := 65) (L' := [some (.ref 89), some (.int x515), some (.int x516), some (.int x517), some (.int 0)]) (st' := [.int 0]) (h' := (HM P (u_m_far w q520) T)) (cs' := 0) (sl' := 0) rfl ?_
    obtain ⟨rfl, rfl⟩ := ai_smP h
    exact ev_end rfl
  · refine ev_ic_ge (t := 32) rfl rfl (fun c9 => absurd c9 hc) (fun _ => ?_)
    refine ev_go 3 (pc' := 16) (L' := [some (.ref 89), some (.int x515), some (.int x516), some (.int x517), none]) (st' := [.int x515, .ref 95]) (h' := (HM P w T)) (cs' := 0) (sl' := 0) rfl ?_
    obtain ⟨v521, hq, h⟩ := ai_bdE h
    refine ev_iald rfl rfl hq ?_
    refine ev_go 5 (pc' := 24) (L' := [some (.ref 89), some (.int x515), some (.int x516), some (.int x517), none]) (st' := [.int x516, .ref 95, .int (v521 + x517)]) (h' := (HM P w T)) (cs' := 0) (sl' := 0) rfl ?_
    obtain ⟨v522, hq, h⟩ := ai_bdE h
    refine ev_iald rfl rfl hq ?_
    rcases ai_ifE h with ⟨hc, h⟩ | ⟨hc, h⟩
    · refine ev_ic_ge (t := 32) rfl rfl (fun _ => ?_) (fun c9 => absurd hc c9)
      refine ev_go 10 (pc' := 61) (L' := [some (.ref 89), some (.int x515), some (.int x516), some (.int x517), some (.int 0)]) (st' := [.int x516, .ref 95, .int x516, .ref 95]) (h' := (HM P w T)) (cs' := 0) (sl' := 0) rfl ?_
      obtain ⟨v523, hq, h⟩ := ai_bdE h
      refine ev_iald rfl rfl hq ?_
      obtain ⟨q524, hq, h⟩ := ai_bdE h
      refine ev_iast rfl rfl hq ?_
      rw [HMs_95]
      refine ev_go 1 (pc' := 65) (L' := [some (.ref 89), some (.int x515), some (.int x516), some (.int x517), some (.int 0)]) (st' := [.int 0]) (h' := (HM P (u_m_far w q524) T)) (cs' := 0) (sl' := 0) rfl ?_
      obtain ⟨rfl, rfl⟩ := ai_smP h
      exact ev_end rfl
    · refine ev_ic_ge (t := 32) rfl rfl (fun c9 => absurd c9 hc) (fun _ => ?_)
      refine ev_go 11 (pc' := 50) (L' := [some (.ref 89), some (.int x515), some (.int x516), some (.int x517), some (.int 1)]) (st' := [.int x515, .ref 95, .int x516, .ref 95]) (h' := (HM P w T)) (cs' := 0) (sl' := 0) rfl ?_
      obtain ⟨v525, hq, h⟩ := ai_bdE h
      refine ev_iald rfl rfl hq ?_
      refine ev_go 3 (pc' := 62) (L' := [some (.ref 89), some (.int x515), some (.int x516), some (.int x517), some (.int 1)]) (st' := [.int (v525 + x517), .int x516, .ref 95]) (h' := (HM P w T)) (cs' := 0) (sl' := 0) rfl ?_
      obtain ⟨q526, hq, h⟩ := ai_bdE h
      refine ev_iast rfl rfl hq ?_
      rw [HMs_95]
      refine ev_go 1 (pc' := 65) (L' := [some (.ref 89), some (.int x515), some (.int x516), some (.int x517), some (.int 1)]) (st' := [.int 1]) (h' := (HM P (u_m_far w q526) T)) (cs' := 0) (sl' := 0) rfl ?_
      obtain ⟨rfl, rfl⟩ := ai_smP h
      exact ev_end rfl
set_option maxHeartbeats 40000000 in
set_option maxRecDepth 100000 in
theorem Em_isThick_89 (x538 : Int32) (w : WM) (r : Int32) (w' : WM) (h : Fm_isThick_89 x538 w = some (r, w')) (P : Nat → ai_E) (T : ai_H) : ai_ev D1 mm_isThick 0 [some (.ref 89), some (.int x538)] [] (HM P w T) 0 0 (some (.int r), HM P w' T) := by
  unfold Fm_isThick_89 at h
  refine ev_go 10 (pc' := 14) (L' := [some (.ref 89), some (.int x538)]) (st' := [.int 1, .ref 90, .int (x538 / 10), .int (x538 - x538 / 10 * 10), .ref 89]) (h' := (HM P w T)) (cs' := 0) (sl' := 0) rfl ?_
  obtain ⟨v539, hq, h⟩ := ai_bdE h
  refine ev_iald rfl rfl hq ?_
  obtain ⟨c540, hq, h⟩ := ai_bdE h
  refine ev_call (M' := mm_thickIn) (L' := [some (.ref 89), some (.int (x538 - x538 / 10 * 10)), some (.int (x538 / 10)), some (.int v539), none]) (rest := []) (rv := some (.int c540.1)) (h' := (HM P c540.2 T)) rfl (Em_thickIn_89 (x538 - x538 / 10 * 10) (x538 / 10) v539 w _ _ hq P T) ?_
  show ai_ev D1 mm_isThick 18 [some (.ref 89), some (.int x538)] [.int c540.1] (HM P c540.2 T) 0 0 _
  rcases ai_ifE h with ⟨hc, h⟩ | ⟨hc, h⟩
  · refine ev_if_le (t := 25) rfl rfl (fun _ => ?_) (fun c9 => absurd hc c9)
    refine ev_go 1 (pc' := 26) (L' := [some (.ref 89), some (.int x538)]) (st' := [.int 0]) (h' := (HM P c540.2 T)) (cs' := 0) (sl' := 0) rfl ?_
    obtain ⟨rfl, rfl⟩ := ai_smP h
    exact ev_end rfl
  · refine ev_if_le (t := 25) rfl rfl (fun c9 => absurd c9 hc) (fun _ => ?_)
    refine ev_go 2 (pc' := 26) (L' := [some (.ref 89), some (.int x538)]) (st' := [.int 1]) (h' := (HM P c540.2 T)) (cs' := 0) (sl' := 0) rfl ?_
    obtain ⟨rfl, rfl⟩ := ai_smP h
    exact ev_end rfl
set_option maxHeartbeats 40000000 in
set_option maxRecDepth 100000 in
theorem EGm_soonest_89 : ∀ n : Nat, (∀ (y497 : Int32) (y498 : Int32) (y499 : Int32) (w : WM) (r : Int32) (w' : WM), Gm_soonest_89 n 0 y497 y498 y499 0 w = some (r, w') → ∀ (P : Nat → ai_E) (T : ai_H) (o4 : Option Value), ai_ev D1 mm_soonest 25 [some (.ref 89), some (.int y497), some (.int y498), some (.int y499), o4] [] (HM P w T) 0 0 (some (.int r), HM P w' T)) ∧ (∀ (y502 : Int32) (y503 : Int32) (y504 : Int32) (w : WM) (r : Int32) (w' : WM), Gm_soonest_89 n 1 y502 y503 y504 0 w = some (r, w') → ∀ (P : Nat → ai_E) (T : ai_H) (o4 : Option Value), ai_ev D1 mm_soonest 56 [some (.ref 89), some (.int y502), some (.int y503), some (.int y504), o4] [] (HM P w T) 0 0 (some (.int r), HM P w' T)) ∧ (∀ (y507 : Int32) (y508 : Int32) (y509 : Int32) (y510 : Int32) (w : WM) (r : Int32) (w' : WM), Gm_soonest_89 n 2 y507 y508 y509 y510 w = some (r, w') → ∀ (P : Nat → ai_E) (T : ai_H), ai_ev D1 mm_soonest 65 [some (.ref 89), some (.int y507), some (.int y508), some (.int y509), some (.int y510)] [] (HM P w T) 0 0 (some (.int r), HM P w' T)) ∧ (∀ (y532 : Int32) (y533 : Int32) (y534 : Int32) (y535 : Int32) (w : WM) (r : Int32) (w' : WM), Gm_soonest_89 n 3 y532 y533 y534 y535 w = some (r, w') → ∀ (P : Nat → ai_E) (T : ai_H), ai_ev D1 mm_soonest 159 [some (.ref 89), some (.int y532), some (.int y533), some (.int y534), some (.int y535)] [] (HM P w T) 0 0 (some (.int r), HM P w' T)) := by
  intro n
  induction n with
  | zero =>
    exact ⟨(fun _ _ _ _ _ _ h => by cases h), (fun _ _ _ _ _ _ h => by cases h), (fun _ _ _ _ _ _ _ h => by cases h), (fun _ _ _ _ _ _ _ h => by cases h)⟩
  | succ n ih =>
    obtain ⟨ih0, ih1, ih2, ih3⟩ := ih
    refine ⟨?_, ?_, ?_, ?_⟩
    · intro y497 y498 y499 w r w' h P T o4
      simp only [Gm_soonest_89] at h
      refine ev_go 2 (pc' := 28) (L' := [some (.ref 89), some (.int y497), some (.int y498), some (.int y499), o4]) (st' := [.int 60, .int y499]) (h' := (HM P w T)) (cs' := 0) (sl' := 0) rfl ?_
      rcases ai_ifE h with ⟨hc, h⟩ | ⟨hc, h⟩
      · refine ev_ic_ge (t := 54) rfl rfl (fun _ => ?_) (fun c9 => absurd hc c9)
        refine ev_go 2 (pc' := 56) (L' := [some (.ref 89), some (.int y497), some (.int y498), some (.int 1), o4]) (st' := []) (h' := (HM P w T)) (cs' := 0) (sl' := 0) rfl ?_
        exact ih1 _ _ _ _ _ _ h P T _
      · refine ev_ic_ge (t := 54) rfl rfl (fun c9 => absurd c9 hc) (fun _ => ?_)
        refine ev_go 5 (pc' := 38) (L' := [some (.ref 89), some (.int y497), some (.int y498), some (.int y499), o4]) (st' := [.int y497, .int y499, .int y499, .ref 95]) (h' := (HM P w T)) (cs' := 0) (sl' := 0) rfl ?_
        rcases ai_ifE h with ⟨hc, h⟩ | ⟨hc, h⟩
        · refine ev_ic_ne (t := 45) rfl rfl (fun c9 => absurd hc c9) (fun _ => ?_)
          refine ev_go 2 (pc' := 47) (L' := [some (.ref 89), some (.int y497), some (.int y498), some (.int y499), o4]) (st' := [.int 0, .int y499, .ref 95]) (h' := (HM P w T)) (cs' := 0) (sl' := 0) rfl ?_
          obtain ⟨q501, hq, h⟩ := ai_bdE h
          refine ev_iast rfl rfl hq ?_
          rw [HMs_95]
          refine ev_go 2 (pc' := 25) (L' := [some (.ref 89), some (.int y497), some (.int y498), some (.int (y499 + 1)), o4]) (st' := []) (h' := (HM P (u_m_far w q501) T)) (cs' := 0) (sl' := 0) rfl ?_
          exact ih0 _ _ _ _ _ _ h P T _
        · refine ev_ic_ne (t := 45) rfl rfl (fun _ => ?_) (fun c9 => absurd c9 hc)
          refine ev_go 1 (pc' := 47) (L' := [some (.ref 89), some (.int y497), some (.int y498), some (.int y499), o4]) (st' := [.int 1000000, .int y499, .ref 95]) (h' := (HM P w T)) (cs' := 0) (sl' := 0) rfl ?_
          obtain ⟨q500, hq, h⟩ := ai_bdE h
          refine ev_iast rfl rfl hq ?_
          rw [HMs_95]
          refine ev_go 2 (pc' := 25) (L' := [some (.ref 89), some (.int y497), some (.int y498), some (.int (y499 + 1)), o4]) (st' := []) (h' := (HM P (u_m_far w q500) T)) (cs' := 0) (sl' := 0) rfl ?_
          exact ih0 _ _ _ _ _ _ h P T _
    · intro y502 y503 y504 w r w' h P T o4
      simp only [Gm_soonest_89] at h
      refine ev_go 1 (pc' := 57) (L' := [some (.ref 89), some (.int y502), some (.int y503), some (.int y504), o4]) (st' := [.int y504]) (h' := (HM P w T)) (cs' := 0) (sl' := 0) rfl ?_
      rcases ai_ifE h with ⟨hc, h⟩ | ⟨hc, h⟩
      · refine ev_if_eq (t := 247) rfl rfl (fun _ => ?_) (fun c9 => absurd hc c9)
        refine ev_go 3 (pc' := 252) (L' := [some (.ref 89), some (.int y502), some (.int y503), some (.int y504), o4]) (st' := [.int y503, .ref 95]) (h' := (HM P w T)) (cs' := 0) (sl' := 0) rfl ?_
        obtain ⟨v505, hq, h⟩ := ai_bdE h
        refine ev_iald rfl rfl hq ?_
        refine ev_go 1 (pc' := 255) (L' := [some (.ref 89), some (.int y502), some (.int y503), some (.int y504), o4]) (st' := [.int 1000000, .int v505]) (h' := (HM P w T)) (cs' := 0) (sl' := 0) rfl ?_
        rcases ai_ifE h with ⟨hc, h⟩ | ⟨hc, h⟩
        · refine ev_ic_ne (t := 262) rfl rfl (fun c9 => absurd hc c9) (fun _ => ?_)
          refine ev_go 2 (pc' := 268) (L' := [some (.ref 89), some (.int y502), some (.int y503), some (.int y504), o4]) (st' := [.int (-1)]) (h' := (HM P w T)) (cs' := 0) (sl' := 0) rfl ?_
          obtain ⟨rfl, rfl⟩ := ai_smP h
          exact ev_end rfl
        · refine ev_ic_ne (t := 262) rfl rfl (fun _ => ?_) (fun c9 => absurd c9 hc)
          refine ev_go 3 (pc' := 267) (L' := [some (.ref 89), some (.int y502), some (.int y503), some (.int y504), o4]) (st' := [.int y503, .ref 95]) (h' := (HM P w T)) (cs' := 0) (sl' := 0) rfl ?_
          obtain ⟨v506, hq, h⟩ := ai_bdE h
          refine ev_iald rfl rfl hq ?_
          obtain ⟨rfl, rfl⟩ := ai_smP h
          exact ev_end rfl
      · refine ev_if_eq (t := 247) rfl rfl (fun c9 => absurd c9 hc) (fun _ => ?_)
        refine ev_go 4 (pc' := 65) (L' := [some (.ref 89), some (.int y502), some (.int y503), some (.int 0), some (.int 0)]) (st' := []) (h' := (HM P w T)) (cs' := 0) (sl' := 0) rfl ?_
        exact ih2 _ _ _ _ _ _ _ h P T
    · intro y507 y508 y509 y510 w r w' h P T
      simp only [Gm_soonest_89] at h
      refine ev_go 4 (pc' := 72) (L' := [some (.ref 89), some (.int y507), some (.int y508), some (.int y509), some (.int y510)]) (st' := [.int 3, .ref 90, .int y510]) (h' := (HM P w T)) (cs' := 0) (sl' := 0) rfl ?_
      obtain ⟨v511, hq, h⟩ := ai_bdE h
      refine ev_iald rfl rfl hq ?_
      rcases ai_ifE h with ⟨hc, h⟩ | ⟨hc, h⟩
      · refine ev_ic_ge (t := 156) rfl rfl (fun _ => ?_) (fun c9 => absurd hc c9)
        refine ev_go 2 (pc' := 159) (L' := [some (.ref 89), some (.int y507), some (.int y508), some (.int y509), some (.int 0)]) (st' := []) (h' := (HM P w T)) (cs' := 0) (sl' := 0) rfl ?_
        exact ih3 _ _ _ _ _ _ _ h P T
      · refine ev_ic_ge (t := 156) rfl rfl (fun c9 => absurd c9 hc) (fun _ => ?_)
        refine ev_go 7 (pc' := 87) (L' := [some (.ref 89), some (.int y507), some (.int y508), some (.int y509), some (.int y510)]) (st' := [.int (91 + y510), .ref 90, .ref 89, .int y509]) (h' := (HM P w T)) (cs' := 0) (sl' := 0) rfl ?_
        obtain ⟨v512, hq, h⟩ := ai_bdE h
        refine ev_iald rfl rfl hq ?_
        refine ev_go 5 (pc' := 97) (L' := [some (.ref 89), some (.int y507), some (.int y508), some (.int y509), some (.int y510)]) (st' := [.int (101 + y510), .ref 90, .int v512, .ref 89, .int y509]) (h' := (HM P w T)) (cs' := 0) (sl' := 0) rfl ?_
        obtain ⟨v513, hq, h⟩ := ai_bdE h
        refine ev_iald rfl rfl hq ?_
        refine ev_go 5 (pc' := 107) (L' := [some (.ref 89), some (.int y507), some (.int y508), some (.int y509), some (.int y510)]) (st' := [.int (111 + y510), .ref 90, .int v513, .int v512, .ref 89, .int y509]) (h' := (HM P w T)) (cs' := 0) (sl' := 0) rfl ?_
        obtain ⟨v514, hq, h⟩ := ai_bdE h
        refine ev_iald rfl rfl hq ?_
        obtain ⟨c527, hq, h⟩ := ai_bdE h
        refine ev_call (M' := mm_comesTo) (L' := [some (.ref 89), some (.int v512), some (.int v513), some (.int v514), none]) (rest := [.int y509]) (rv := some (.int c527.1)) (h' := (HM P c527.2 T)) rfl (Em_comesTo_89 v512 v513 v514 w _ _ hq P T) ?_
        show ai_ev D1 mm_soonest 111 [some (.ref 89), some (.int y507), some (.int y508), some (.int y509), some (.int y510)] [.int c527.1, .int y509] (HM P c527.2 T) 0 0 _
        refine ev_go 9 (pc' := 124) (L' := [some (.ref 89), some (.int y507), some (.int y508), some (.int (y509 ||| c527.1)), some (.int y510)]) (st' := [.int (101 + y510), .ref 90, .ref 89, .int (y509 ||| c527.1)]) (h' := (HM P c527.2 T)) (cs' := 0) (sl' := 0) rfl ?_
        obtain ⟨v528, hq, h⟩ := ai_bdE h
        refine ev_iald rfl rfl hq ?_
        refine ev_go 5 (pc' := 134) (L' := [some (.ref 89), some (.int y507), some (.int y508), some (.int (y509 ||| c527.1)), some (.int y510)]) (st' := [.int (91 + y510), .ref 90, .int v528, .ref 89, .int (y509 ||| c527.1)]) (h' := (HM P c527.2 T)) (cs' := 0) (sl' := 0) rfl ?_
        obtain ⟨v529, hq, h⟩ := ai_bdE h
        refine ev_iald rfl rfl hq ?_
        refine ev_go 5 (pc' := 144) (L' := [some (.ref 89), some (.int y507), some (.int y508), some (.int (y509 ||| c527.1)), some (.int y510)]) (st' := [.int (111 + y510), .ref 90, .int v529, .int v528, .ref 89, .int (y509 ||| c527.1)]) (h' := (HM P c527.2 T)) (cs' := 0) (sl' := 0) rfl ?_
        obtain ⟨v530, hq, h⟩ := ai_bdE h
        refine ev_iald rfl rfl hq ?_
        obtain ⟨c531, hq, h⟩ := ai_bdE h
        refine ev_call (M' := mm_comesTo) (L' := [some (.ref 89), some (.int v528), some (.int v529), some (.int v530), none]) (rest := [.int (y509 ||| c527.1)]) (rv := some (.int c531.1)) (h' := (HM P c531.2 T)) rfl (Em_comesTo_89 v528 v529 v530 c527.2 _ _ hq P T) ?_
        show ai_ev D1 mm_soonest 148 [some (.ref 89), some (.int y507), some (.int y508), some (.int (y509 ||| c527.1)), some (.int y510)] [.int c531.1, .int (y509 ||| c527.1)] (HM P c531.2 T) 0 0 _
        refine ev_go 4 (pc' := 65) (L' := [some (.ref 89), some (.int y507), some (.int y508), some (.int ((y509 ||| c527.1) ||| c531.1)), some (.int (y510 + 1))]) (st' := []) (h' := (HM P c531.2 T)) (cs' := 0) (sl' := 0) rfl ?_
        exact ih2 _ _ _ _ _ _ _ h P T
    · intro y532 y533 y534 y535 w r w' h P T
      simp only [Gm_soonest_89] at h
      refine ev_go 7 (pc' := 171) (L' := [some (.ref 89), some (.int y532), some (.int y533), some (.int y534), some (.int y535)]) (st' := [.int 0, .ref 90, .int 10, .int (y535 + 10)]) (h' := (HM P w T)) (cs' := 0) (sl' := 0) rfl ?_
      obtain ⟨v536, hq, h⟩ := ai_bdE h
      refine ev_iald rfl rfl hq ?_
      refine ev_go 1 (pc' := 173) (L' := [some (.ref 89), some (.int y532), some (.int y533), some (.int y534), some (.int y535)]) (st' := [.int (10 * v536), .int (y535 + 10)]) (h' := (HM P w T)) (cs' := 0) (sl' := 0) rfl ?_
      rcases ai_ifE h with ⟨hc, h⟩ | ⟨hc, h⟩
      · refine ev_ic_ge (t := 244) rfl rfl (fun _ => ?_) (fun c9 => absurd hc c9)
        refine ev_go 1 (pc' := 56) (L' := [some (.ref 89), some (.int y532), some (.int y533), some (.int y534), some (.int y535)]) (st' := []) (h' := (HM P w T)) (cs' := 0) (sl' := 0) rfl ?_
        exact ih1 _ _ _ _ _ _ h P T _
      · refine ev_ic_ge (t := 244) rfl rfl (fun c9 => absurd c9 hc) (fun _ => ?_)
        refine ev_go 3 (pc' := 181) (L' := [some (.ref 89), some (.int y532), some (.int y533), some (.int y534), some (.int y535)]) (st' := [.int (y535 - y535 / 10 * 10)]) (h' := (HM P w T)) (cs' := 0) (sl' := 0) rfl ?_
        obtain ⟨c537, hq, h⟩ := ai_bdE h
        refine ev_call (M' := mm_isLayer) (L' := [some (.int (y535 - y535 / 10 * 10))]) (rest := []) (rv := some (.int c537)) (h' := (HM P w T)) rfl (Em_isLayer (y535 - y535 / 10 * 10) _ hq (HM P w T)) ?_
        show ai_ev D1 mm_soonest 184 [some (.ref 89), some (.int y532), some (.int y533), some (.int y534), some (.int y535)] [.int c537] (HM P w T) 0 0 _
        rcases ai_ifE h with ⟨hc, h⟩ | ⟨hc, h⟩
        · refine ev_if_eq (t := 238) rfl rfl (fun _ => ?_) (fun c9 => absurd hc c9)
          refine ev_go 2 (pc' := 159) (L' := [some (.ref 89), some (.int y532), some (.int y533), some (.int y534), some (.int (y535 + 1))]) (st' := []) (h' := (HM P w T)) (cs' := 0) (sl' := 0) rfl ?_
          exact ih3 _ _ _ _ _ _ _ h P T
        · refine ev_if_eq (t := 238) rfl rfl (fun c9 => absurd c9 hc) (fun _ => ?_)
          refine ev_go 2 (pc' := 190) (L' := [some (.ref 89), some (.int y532), some (.int y533), some (.int y534), some (.int y535)]) (st' := [.int y535, .ref 89]) (h' := (HM P w T)) (cs' := 0) (sl' := 0) rfl ?_
          obtain ⟨c541, hq, h⟩ := ai_bdE h
          refine ev_call (M' := mm_isThick) (L' := [some (.ref 89), some (.int y535)]) (rest := []) (rv := some (.int c541.1)) (h' := (HM P c541.2 T)) rfl (Em_isThick_89 y535 w _ _ hq P T) ?_
          show ai_ev D1 mm_soonest 193 [some (.ref 89), some (.int y532), some (.int y533), some (.int y534), some (.int y535)] [.int c541.1] (HM P c541.2 T) 0 0 _
          rcases ai_ifE h with ⟨hc, h⟩ | ⟨hc, h⟩
          · refine ev_if_eq (t := 238) rfl rfl (fun _ => ?_) (fun c9 => absurd hc c9)
            refine ev_go 2 (pc' := 159) (L' := [some (.ref 89), some (.int y532), some (.int y533), some (.int y534), some (.int (y535 + 1))]) (st' := []) (h' := (HM P c541.2 T)) (cs' := 0) (sl' := 0) rfl ?_
            exact ih3 _ _ _ _ _ _ _ h P T
          · refine ev_if_eq (t := 238) rfl rfl (fun c9 => absurd c9 hc) (fun _ => ?_)
            refine ev_go 4 (pc' := 202) (L' := [some (.ref 89), some (.int y532), some (.int y533), some (.int y534), some (.int y535)]) (st' := [.int (y535 + 10), .ref 89]) (h' := (HM P c541.2 T)) (cs' := 0) (sl' := 0) rfl ?_
            obtain ⟨c542, hq, h⟩ := ai_bdE h
            refine ev_call (M' := mm_isThick) (L' := [some (.ref 89), some (.int (y535 + 10))]) (rest := []) (rv := some (.int c542.1)) (h' := (HM P c542.2 T)) rfl (Em_isThick_89 (y535 + 10) c541.2 _ _ hq P T) ?_
            show ai_ev D1 mm_soonest 205 [some (.ref 89), some (.int y532), some (.int y533), some (.int y534), some (.int y535)] [.int c542.1] (HM P c542.2 T) 0 0 _
            rcases ai_ifE h with ⟨hc, h⟩ | ⟨hc, h⟩
            · refine ev_if_eq (t := 238) rfl rfl (fun _ => ?_) (fun c9 => absurd hc c9)
              refine ev_go 2 (pc' := 159) (L' := [some (.ref 89), some (.int y532), some (.int y533), some (.int y534), some (.int (y535 + 1))]) (st' := []) (h' := (HM P c542.2 T)) (cs' := 0) (sl' := 0) rfl ?_
              exact ih3 _ _ _ _ _ _ _ h P T
            · refine ev_if_eq (t := 238) rfl rfl (fun c9 => absurd c9 hc) (fun _ => ?_)
              refine ev_go 7 (pc' := 218) (L' := [some (.ref 89), some (.int y532), some (.int y533), some (.int y534), some (.int y535)]) (st' := [.int 3, .int (y535 + 10), .int y535, .ref 89, .int y534]) (h' := (HM P c542.2 T)) (cs' := 0) (sl' := 0) rfl ?_
              obtain ⟨c543, hq, h⟩ := ai_bdE h
              refine ev_call (M' := mm_comesTo) (L' := [some (.ref 89), some (.int y535), some (.int (y535 + 10)), some (.int 3), none]) (rest := [.int y534]) (rv := some (.int c543.1)) (h' := (HM P c543.2 T)) rfl (Em_comesTo_89 y535 (y535 + 10) 3 c542.2 _ _ hq P T) ?_
              show ai_ev D1 mm_soonest 221 [some (.ref 89), some (.int y532), some (.int y533), some (.int y534), some (.int y535)] [.int c543.1, .int y534] (HM P c543.2 T) 0 0 _
              refine ev_go 9 (pc' := 233) (L' := [some (.ref 89), some (.int y532), some (.int y533), some (.int (y534 ||| c543.1)), some (.int y535)]) (st' := [.int 3, .int y535, .int (y535 + 10), .ref 89, .int (y534 ||| c543.1)]) (h' := (HM P c543.2 T)) (cs' := 0) (sl' := 0) rfl ?_
              obtain ⟨c544, hq, h⟩ := ai_bdE h
              refine ev_call (M' := mm_comesTo) (L' := [some (.ref 89), some (.int (y535 + 10)), some (.int y535), some (.int 3), none]) (rest := [.int (y534 ||| c543.1)]) (rv := some (.int c544.1)) (h' := (HM P c544.2 T)) rfl (Em_comesTo_89 (y535 + 10) y535 3 c543.2 _ _ hq P T) ?_
              show ai_ev D1 mm_soonest 236 [some (.ref 89), some (.int y532), some (.int y533), some (.int (y534 ||| c543.1)), some (.int y535)] [.int c544.1, .int (y534 ||| c543.1)] (HM P c544.2 T) 0 0 _
              refine ev_go 4 (pc' := 159) (L' := [some (.ref 89), some (.int y532), some (.int y533), some (.int ((y534 ||| c543.1) ||| c544.1)), some (.int (y535 + 1))]) (st' := []) (h' := (HM P c544.2 T)) (cs' := 0) (sl' := 0) rfl ?_
              exact ih3 _ _ _ _ _ _ _ h P T
set_option maxHeartbeats 40000000 in
set_option maxRecDepth 100000 in
theorem Em_soonest_89 (n : Nat) (x491 : Int32) (x492 : Int32) (w : WM) (r : Int32) (w' : WM) (h : Fm_soonest_89 n x491 x492 w = some (r, w')) (P : Nat → ai_E) (T : ai_H) : ai_ev D1 mm_soonest 0 [some (.ref 89), some (.int x491), some (.int x492), none, none] [] (HM P w T) 0 0 (some (.int r), HM P w' T) := by
  unfold Fm_soonest_89 at h
  obtain ⟨ih0, ih1, ih2, ih3⟩ := EGm_soonest_89 n
  refine ev_go 3 (pc' := 3) (L' := [some (.ref 89), some (.int x491), some (.int x492), none, none]) (st' := [.int x491, .int 0, .ref 89]) (h' := (HM P w T)) (cs' := 0) (sl' := 0) rfl ?_
  obtain ⟨c493, hq, h⟩ := ai_bdE h
  refine ev_call (M' := mm_isPlaceOf) (L' := [some (.ref 89), some (.int 0), some (.int x491)]) (rest := []) (rv := some (.int c493.1)) (h' := (HM P c493.2 T)) rfl (Em_isPlaceOf_89 0 x491 w _ _ hq P T) ?_
  show ai_ev D1 mm_soonest 6 [some (.ref 89), some (.int x491), some (.int x492), none, none] [.int c493.1] (HM P c493.2 T) 0 0 _
  rcases ai_ifE h with ⟨hc, h⟩ | ⟨hc, h⟩
  · refine ev_if_eq (t := 18) rfl rfl (fun _ => ?_) (fun c9 => absurd hc c9)
    refine ev_go 1 (pc' := 19) (L' := [some (.ref 89), some (.int x491), some (.int x492), none, none]) (st' := [.ref 89]) (h' := (HM P c493.2 T)) (cs' := 0) (sl' := 0) rfl ?_
    obtain ⟨c494, hq, h⟩ := ai_bdE h
    refine ev_call (M' := mm_bad) (L' := [some (.ref 89)]) (rest := []) (rv := some (.int c494.1)) (h' := (HM P c494.2 T)) rfl (Em_bad_89 c493.2 _ _ hq P T) ?_
    show ai_ev D1 mm_soonest 22 [some (.ref 89), some (.int x491), some (.int x492), none, none] [.int c494.1] (HM P c494.2 T) 0 0 _
    obtain ⟨rfl, rfl⟩ := ai_smP h
    exact ev_end rfl
  · refine ev_if_eq (t := 18) rfl rfl (fun c9 => absurd c9 hc) (fun _ => ?_)
    refine ev_go 3 (pc' := 12) (L' := [some (.ref 89), some (.int x491), some (.int x492), none, none]) (st' := [.int x492, .int 0, .ref 89]) (h' := (HM P c493.2 T)) (cs' := 0) (sl' := 0) rfl ?_
    obtain ⟨c495, hq, h⟩ := ai_bdE h
    refine ev_call (M' := mm_isPlaceOf) (L' := [some (.ref 89), some (.int 0), some (.int x492)]) (rest := []) (rv := some (.int c495.1)) (h' := (HM P c495.2 T)) rfl (Em_isPlaceOf_89 0 x492 c493.2 _ _ hq P T) ?_
    show ai_ev D1 mm_soonest 15 [some (.ref 89), some (.int x491), some (.int x492), none, none] [.int c495.1] (HM P c495.2 T) 0 0 _
    rcases ai_ifE h with ⟨hc, h⟩ | ⟨hc, h⟩
    · refine ev_if_ne (t := 23) rfl rfl (fun c9 => absurd hc c9) (fun _ => ?_)
      refine ev_go 1 (pc' := 19) (L' := [some (.ref 89), some (.int x491), some (.int x492), none, none]) (st' := [.ref 89]) (h' := (HM P c495.2 T)) (cs' := 0) (sl' := 0) rfl ?_
      obtain ⟨c496, hq, h⟩ := ai_bdE h
      refine ev_call (M' := mm_bad) (L' := [some (.ref 89)]) (rest := []) (rv := some (.int c496.1)) (h' := (HM P c496.2 T)) rfl (Em_bad_89 c495.2 _ _ hq P T) ?_
      show ai_ev D1 mm_soonest 22 [some (.ref 89), some (.int x491), some (.int x492), none, none] [.int c496.1] (HM P c496.2 T) 0 0 _
      obtain ⟨rfl, rfl⟩ := ai_smP h
      exact ev_end rfl
    · refine ev_if_ne (t := 23) rfl rfl (fun _ => ?_) (fun c9 => absurd c9 hc)
      refine ev_go 2 (pc' := 25) (L' := [some (.ref 89), some (.int x491), some (.int x492), some (.int 0), none]) (st' := []) (h' := (HM P c495.2 T)) (cs' := 0) (sl' := 0) rfl ?_
      exact ih0 _ _ _ _ _ _ h P T _
set_option maxHeartbeats 40000000 in
set_option maxRecDepth 100000 in
theorem EGm_ceilingOf_89 : ∀ n : Nat, (∀ (y550 : Int32) (y551 : Int32) (y552 : Int32) (y553 : Int32) (w : WM) (r : Int32) (w' : WM), Gm_ceilingOf_89 n 0 y550 y551 y552 y553 w = some (r, w') → ∀ (P : Nat → ai_E) (T : ai_H) (o5 o6 : Option Value), ai_ev D1 mm_ceilingOf 15 [some (.ref 89), some (.int y550), some (.int y551), some (.int y552), some (.int y553), o5, o6] [] (HM P w T) 0 0 (some (.int r), HM P w' T)) := by
  intro n
  induction n with
  | zero =>
    exact (fun _ _ _ _ _ _ _ h => by cases h)
  | succ n ih0 =>
    intro y550 y551 y552 y553 w r w' h P T o5 o6
    simp only [Gm_ceilingOf_89] at h
    refine ev_go 4 (pc' := 22) (L' := [some (.ref 89), some (.int y550), some (.int y551), some (.int y552), some (.int y553), o5, o6]) (st' := [.int 4, .ref 90, .int y553]) (h' := (HM P w T)) (cs' := 0) (sl' := 0) rfl ?_
    obtain ⟨v554, hq, h⟩ := ai_bdE h
    refine ev_iald rfl rfl hq ?_
    rcases ai_ifE h with ⟨hc, h⟩ | ⟨hc, h⟩
    · refine ev_ic_ge (t := 100) rfl rfl (fun _ => ?_) (fun c9 => absurd hc c9)
      refine ev_go 1 (pc' := 101) (L' := [some (.ref 89), some (.int y550), some (.int y551), some (.int y552), some (.int y553), o5, o6]) (st' := [.int y551]) (h' := (HM P w T)) (cs' := 0) (sl' := 0) rfl ?_
      obtain ⟨rfl, rfl⟩ := ai_smP h
      exact ev_end rfl
    · refine ev_ic_ge (t := 100) rfl rfl (fun c9 => absurd c9 hc) (fun _ => ?_)
      refine ev_go 5 (pc' := 35) (L' := [some (.ref 89), some (.int y550), some (.int y551), some (.int y552), some (.int y553), o5, o6]) (st' := [.int (121 + y553), .ref 90]) (h' := (HM P w T)) (cs' := 0) (sl' := 0) rfl ?_
      obtain ⟨v555, hq, h⟩ := ai_bdE h
      refine ev_iald rfl rfl hq ?_
      refine ev_go 7 (pc' := 47) (L' := [some (.ref 89), some (.int y550), some (.int y551), some (.int y552), some (.int y553), some (.int v555), o6]) (st' := [.int (y552 / 10), .int (v555 / 10)]) (h' := (HM P w T)) (cs' := 0) (sl' := 0) rfl ?_
      rcases ai_ifE h with ⟨hc, h⟩ | ⟨hc, h⟩
      · refine ev_ic_ne (t := 60) rfl rfl (fun c9 => absurd hc c9) (fun _ => ?_)
        refine ev_go 2 (pc' := 53) (L' := [some (.ref 89), some (.int y550), some (.int y551), some (.int y552), some (.int y553), some (.int v555), o6]) (st' := [.int y552, .int v555]) (h' := (HM P w T)) (cs' := 0) (sl' := 0) rfl ?_
        rcases ai_ifE h with ⟨hc, h⟩ | ⟨hc, h⟩
        · refine ev_ic_ge (t := 60) rfl rfl (fun _ => ?_) (fun c9 => absurd hc c9)
          refine ev_go 8 (pc' := 15) (L' := [some (.ref 89), some (.int y550), some (.int y551), some (.int y552), some (.int (y553 + 1)), some (.int v555), some (.int 0)]) (st' := []) (h' := (HM P w T)) (cs' := 0) (sl' := 0) rfl ?_
          exact ih0 _ _ _ _ _ _ _ h P T _ _
        · refine ev_ic_ge (t := 60) rfl rfl (fun c9 => absurd c9 hc) (fun _ => ?_)
          refine ev_go 7 (pc' := 70) (L' := [some (.ref 89), some (.int y550), some (.int y551), some (.int y552), some (.int y553), some (.int v555), some (.int 1)]) (st' := [.int (-1), .int y551]) (h' := (HM P w T)) (cs' := 0) (sl' := 0) rfl ?_
          rcases ai_ifE h with ⟨hc, h⟩ | ⟨hc, h⟩
          · refine ev_ic_eq (t := 87) rfl rfl (fun _ => ?_) (fun c9 => absurd hc c9)
            refine ev_go 5 (pc' := 15) (L' := [some (.ref 89), some (.int y550), some (.int y553), some (.int y552), some (.int (y553 + 1)), some (.int v555), some (.int 1)]) (st' := []) (h' := (HM P w T)) (cs' := 0) (sl' := 0) rfl ?_
            exact ih0 _ _ _ _ _ _ _ h P T _ _
          · refine ev_ic_eq (t := 87) rfl rfl (fun c9 => absurd c9 hc) (fun _ => ?_)
            refine ev_go 6 (pc' := 83) (L' := [some (.ref 89), some (.int y550), some (.int y551), some (.int y552), some (.int y553), some (.int v555), some (.int 1)]) (st' := [.int (121 + y551), .ref 90, .int v555]) (h' := (HM P w T)) (cs' := 0) (sl' := 0) rfl ?_
            obtain ⟨v556, hq, h⟩ := ai_bdE h
            refine ev_iald rfl rfl hq ?_
            rcases ai_ifE h with ⟨hc, h⟩ | ⟨hc, h⟩
            · refine ev_ic_le (t := 92) rfl rfl (fun _ => ?_) (fun c9 => absurd hc c9)
              refine ev_go 4 (pc' := 15) (L' := [some (.ref 89), some (.int y550), some (.int y551), some (.int y552), some (.int (y553 + 1)), some (.int v555), some (.int 1)]) (st' := []) (h' := (HM P w T)) (cs' := 0) (sl' := 0) rfl ?_
              exact ih0 _ _ _ _ _ _ _ h P T _ _
            · refine ev_ic_le (t := 92) rfl rfl (fun c9 => absurd c9 hc) (fun _ => ?_)
              refine ev_go 5 (pc' := 15) (L' := [some (.ref 89), some (.int y550), some (.int y553), some (.int y552), some (.int (y553 + 1)), some (.int v555), some (.int 1)]) (st' := []) (h' := (HM P w T)) (cs' := 0) (sl' := 0) rfl ?_
              exact ih0 _ _ _ _ _ _ _ h P T _ _
      · refine ev_ic_ne (t := 60) rfl rfl (fun _ => ?_) (fun c9 => absurd c9 hc)
        refine ev_go 8 (pc' := 15) (L' := [some (.ref 89), some (.int y550), some (.int y551), some (.int y552), some (.int (y553 + 1)), some (.int v555), some (.int 0)]) (st' := []) (h' := (HM P w T)) (cs' := 0) (sl' := 0) rfl ?_
        exact ih0 _ _ _ _ _ _ _ h P T _ _
set_option maxHeartbeats 40000000 in
set_option maxRecDepth 100000 in
theorem Em_ceilingOf_89 (n : Nat) (x548 : Int32) (w : WM) (r : Int32) (w' : WM) (h : Fm_ceilingOf_89 n x548 w = some (r, w')) (P : Nat → ai_E) (T : ai_H) : ai_ev D1 mm_ceilingOf 0 [some (.ref 89), some (.int x548), none, none, none, none, none] [] (HM P w T) 0 0 (some (.int r), HM P w' T) := by
  unfold Fm_ceilingOf_89 at h
  have ih0 := EGm_ceilingOf_89 n
  refine ev_go 7 (pc' := 10) (L' := [some (.ref 89), some (.int x548), some (.int (-1)), none, none, none, none]) (st' := [.int (121 + x548), .ref 90]) (h' := (HM P w T)) (cs' := 0) (sl' := 0) rfl ?_
  obtain ⟨v549, hq, h⟩ := ai_bdE h
  refine ev_iald rfl rfl hq ?_
  refine ev_go 3 (pc' := 15) (L' := [some (.ref 89), some (.int x548), some (.int (-1)), some (.int v549), some (.int 0), none, none]) (st' := []) (h' := (HM P w T)) (cs' := 0) (sl' := 0) rfl ?_
  exact ih0 _ _ _ _ _ _ _ h P T _ _
