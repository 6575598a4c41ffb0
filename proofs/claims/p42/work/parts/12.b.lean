set_option maxHeartbeats 40000000 in
set_option maxRecDepth 100000 in
theorem Em_isLoaded_89 (x446 : Int32) (w : WM) (r : Int32) (w' : WM) (h : Fm_isLoaded_89 x446 w = some (r, w')) (P : Nat → ai_E) (T : ai_H) : ai_ev D1 mm_isLoaded 0 [some (.ref 89), some (.int x446)] [] (HM P w T) 0 0 (some (.int r), HM P w' T) := by
  unfold Fm_isLoaded_89 at h
  refine ev_go 2 (pc' := 2) (L' := [some (.ref 89), some (.int x446)]) (st' := [.int x446, .ref 89]) (h' := (HM P w T)) (cs' := 0) (sl' := 0) rfl ?_
  obtain ⟨c447, hq, h⟩ := ai_bdE h
  refine ev_call (M' := mm_isThing) (L' := [some (.ref 89), some (.int x446)]) (rest := []) (rv := some (.int c447.1)) (h' := (HM P c447.2 T)) rfl (Em_isThing_89 x446 w _ _ hq P T) ?_
  show ai_ev D1 mm_isLoaded 5 [some (.ref 89), some (.int x446)] [.int c447.1] (HM P c447.2 T) 0 0 _
  rcases ai_ifE h with ⟨hc, h⟩ | ⟨hc, h⟩
  · refine ev_if_eq (t := 32) rfl rfl (fun _ => ?_) (fun c9 => absurd hc c9)
    refine ev_go 1 (pc' := 33) (L' := [some (.ref 89), some (.int x446)]) (st' := [.int 0]) (h' := (HM P c447.2 T)) (cs' := 0) (sl' := 0) rfl ?_
    obtain ⟨rfl, rfl⟩ := ai_smP h
    exact ev_end rfl
  · refine ev_if_eq (t := 32) rfl rfl (fun c9 => absurd c9 hc) (fun _ => ?_)
    refine ev_go 5 (pc' := 16) (L' := [some (.ref 89), some (.int x446)]) (st' := [.int (67 + x446), .ref 90]) (h' := (HM P c447.2 T)) (cs' := 0) (sl' := 0) rfl ?_
    obtain ⟨v448, hq, h⟩ := ai_bdE h
    refine ev_iald rfl rfl hq ?_
    refine ev_go 3 (pc' := 22) (L' := [some (.ref 89), some (.int x446)]) (st' := [.long 3, .long 1, .long (v448).toInt64]) (h' := (HM P c447.2 T)) (cs' := 0) (sl' := 0) rfl ?_
    obtain ⟨c449, hq, h⟩ := ai_bdE h
    refine ev_call (M' := mm_in) (L' := [some (.long (v448).toInt64), none, some (.long 1), none, some (.long 3), none]) (rest := []) (rv := some (.int c449)) (h' := (HM P c447.2 T)) rfl (Em_in (v448).toInt64 1 3 _ hq (HM P c447.2 T)) ?_
    show ai_ev D1 mm_isLoaded 25 [some (.ref 89), some (.int x446)] [.int c449] (HM P c447.2 T) 0 0 _
    rcases ai_ifE h with ⟨hc, h⟩ | ⟨hc, h⟩
    · refine ev_if_eq (t := 32) rfl rfl (fun _ => ?_) (fun c9 => absurd hc c9)
      refine ev_go 1 (pc' := 33) (L' := [some (.ref 89), some (.int x446)]) (st' := [.int 0]) (h' := (HM P c447.2 T)) (cs' := 0) (sl' := 0) rfl ?_
      obtain ⟨rfl, rfl⟩ := ai_smP h
      exact ev_end rfl
    · refine ev_if_eq (t := 32) rfl rfl (fun c9 => absurd c9 hc) (fun _ => ?_)
      refine ev_go 2 (pc' := 33) (L' := [some (.ref 89), some (.int x446)]) (st' := [.int 1]) (h' := (HM P c447.2 T)) (cs' := 0) (sl' := 0) rfl ?_
      obtain ⟨rfl, rfl⟩ := ai_smP h
      exact ev_end rfl
set_option maxHeartbeats 40000000 in
set_option maxRecDepth 100000 in
theorem EGm_leastFor_89 : ∀ n : Nat, (∀ (y458 : Int32) (y459 : Int32) (y460 : Int32) (y461 : Int32) (w : WM) (r : Int32) (w' : WM), Gm_leastFor_89 n 0 y458 y459 y460 y461 w = some (r, w') → ∀ (P : Nat → ai_E) (T : ai_H), ai_ev D1 mm_leastFor 6 [some (.ref 89), some (.int y458), some (.int y459), some (.int y460), some (.int y461)] [] (HM P w T) 0 0 (some (.int r), HM P w' T)) := by
  intro n
  induction n with
  | zero =>
    exact (fun _ _ _ _ _ _ _ h => by cases h)
  | succ n ih0 =>
    intro y458 y459 y460 y461 w r w' h P T
    simp only [Gm_leastFor_89] at h
    refine ev_go 1 (pc' := 8) (L' := [some (.ref 89), some (.int y458), some (.int y459), some (.int y460), some (.int y461)]) (st' := [.int y461]) (h' := (HM P w T)) (cs' := 0) (sl' := 0) rfl ?_
    rcases ai_ifE h with ⟨hc, h⟩ | ⟨hc, h⟩
    · refine ev_if_lt (t := 43) rfl rfl (fun _ => ?_) (fun c9 => absurd hc c9)
      refine ev_go 1 (pc' := 44) (L' := [some (.ref 89), some (.int y458), some (.int y459), some (.int y460), some (.int y461)]) (st' := [.int y460]) (h' := (HM P w T)) (cs' := 0) (sl' := 0) rfl ?_
      obtain ⟨rfl, rfl⟩ := ai_smP h
      exact ev_end rfl
    · refine ev_if_lt (t := 43) rfl rfl (fun c9 => absurd c9 hc) (fun _ => ?_)
      refine ev_go 2 (pc' := 14) (L' := [some (.ref 89), some (.int y458), some (.int y459), some (.int y460), some (.int y461)]) (st' := [.int y461, .ref 89]) (h' := (HM P w T)) (cs' := 0) (sl' := 0) rfl ?_
      refine ev_step rfl rfl rfl (PFM_8_186_89 rfl) ?_
      refine ev_go 2 (pc' := 19) (L' := [some (.ref 89), some (.int y458), some (.int y459), some (.int y460), some (.int y461)]) (st' := [.int y458, .ref 89]) (h' := (HM P (u_m_load w y461) T)) (cs' := 0) (sl' := 0) rfl ?_
      obtain ⟨c462, hq, h⟩ := ai_bdE h
      refine ev_call (M' := mm_comesDown) (L' := [some (.ref 89), some (.int y458), none, none, none]) (rest := []) (rv := none) (h' := (HM P c462 T)) rfl (Em_comesDown_89 n y458 (u_m_load w y461) _ hq P T) ?_
      show ai_ev D1 mm_leastFor 22 [some (.ref 89), some (.int y458), some (.int y459), some (.int y460), some (.int y461)] [] (HM P c462 T) 0 0 _
      refine ev_go 3 (pc' := 27) (L' := [some (.ref 89), some (.int y458), some (.int y459), some (.int y460), some (.int y461)]) (st' := [.int y459, .int (a_m_restsIn c462)]) (h' := (HM P c462 T)) (cs' := 0) (sl' := 0) rfl ?_
      rcases ai_ifE h with ⟨hc, h⟩ | ⟨hc, h⟩
      · refine ev_ic_ne (t := 35) rfl rfl (fun c9 => absurd hc c9) (fun _ => ?_)
        refine ev_go 5 (pc' := 6) (L' := [some (.ref 89), some (.int y458), some (.int y459), some (.int y461), some (.int (y461 + (-1)))]) (st' := []) (h' := (HM P c462 T)) (cs' := 0) (sl' := 0) rfl ?_
        exact ih0 _ _ _ _ _ _ _ h P T
      · refine ev_ic_ne (t := 35) rfl rfl (fun _ => ?_) (fun c9 => absurd c9 hc)
        refine ev_go 4 (pc' := 6) (L' := [some (.ref 89), some (.int y458), some (.int y459), some (.int y460), some (.int (y461 + (-1)))]) (st' := []) (h' := (HM P c462 T)) (cs' := 0) (sl' := 0) rfl ?_
        exact ih0 _ _ _ _ _ _ _ h P T
set_option maxHeartbeats 40000000 in
set_option maxRecDepth 100000 in
theorem Em_leastFor_89 (n : Nat) (x456 : Int32) (x457 : Int32) (w : WM) (r : Int32) (w' : WM) (h : Fm_leastFor_89 n x456 x457 w = some (r, w')) (P : Nat → ai_E) (T : ai_H) : ai_ev D1 mm_leastFor 0 [some (.ref 89), some (.int x456), some (.int x457), none, none] [] (HM P w T) 0 0 (some (.int r), HM P w' T) := by
  unfold Fm_leastFor_89 at h
  have ih0 := EGm_leastFor_89 n
  refine ev_go 4 (pc' := 6) (L' := [some (.ref 89), some (.int x456), some (.int x457), some (.int (-1)), some (.int 99)]) (st' := []) (h' := (HM P w T)) (cs' := 0) (sl' := 0) rfl ?_
  exact ih0 _ _ _ _ _ _ _ h P T
set_option maxHeartbeats 40000000 in
set_option maxRecDepth 100000 in
theorem Em_sink_89 (n : Nat) (x443 : Int32) (x444 : Int32) (x445 : Int32) (w : WM) (r : Int32) (w' : WM) (h : Fm_sink_89 n x443 x444 x445 w = some (r, w')) (P : Nat → ai_E) (T : ai_H) : ai_ev D1 mm_sink 0 [some (.ref 89), some (.int x443), some (.int x444), some (.int x445)] [] (HM P w T) 0 0 (some (.int r), HM P w' T) := by
  unfold Fm_sink_89 at h
  refine ev_go 2 (pc' := 2) (L' := [some (.ref 89), some (.int x443), some (.int x444), some (.int x445)]) (st' := [.int x443, .ref 89]) (h' := (HM P w T)) (cs' := 0) (sl' := 0) rfl ?_
  obtain ⟨c450, hq, h⟩ := ai_bdE h
  refine ev_call (M' := mm_isLoaded) (L' := [some (.ref 89), some (.int x443)]) (rest := []) (rv := some (.int c450.1)) (h' := (HM P c450.2 T)) rfl (Em_isLoaded_89 x443 w _ _ hq P T) ?_
  show ai_ev D1 mm_sink 5 [some (.ref 89), some (.int x443), some (.int x444), some (.int x445)] [.int c450.1] (HM P c450.2 T) 0 0 _
  rcases ai_ifE h with ⟨hc, h⟩ | ⟨hc, h⟩
  · refine ev_if_eq (t := 28) rfl rfl (fun _ => ?_) (fun c9 => absurd hc c9)
    refine ev_go 2 (pc' := 31) (L' := [some (.ref 89), some (.int x443), some (.int x444), some (.int x445)]) (st' := [.int (-10), .ref 89]) (h' := (HM P c450.2 T)) (cs' := 0) (sl' := 0) rfl ?_
    obtain ⟨c451, hq, h⟩ := ai_bdE h
    refine ev_call (M' := mm_badAs) (L' := [some (.ref 89), some (.int (-10))]) (rest := []) (rv := some (.int c451.1)) (h' := (HM P c451.2 T)) rfl (Em_badAs_89 (-10) c450.2 _ _ hq P T) ?_
    show ai_ev D1 mm_sink 34 [some (.ref 89), some (.int x443), some (.int x444), some (.int x445)] [.int c451.1] (HM P c451.2 T) 0 0 _
    obtain ⟨rfl, rfl⟩ := ai_smP h
    exact ev_end rfl
  · refine ev_if_eq (t := 28) rfl rfl (fun c9 => absurd c9 hc) (fun _ => ?_)
    refine ev_go 2 (pc' := 10) (L' := [some (.ref 89), some (.int x443), some (.int x444), some (.int x445)]) (st' := [.int x444, .ref 89]) (h' := (HM P c450.2 T)) (cs' := 0) (sl' := 0) rfl ?_
    obtain ⟨c452, hq, h⟩ := ai_bdE h
    refine ev_call (M' := mm_isCell) (L' := [some (.ref 89), some (.int x444)]) (rest := []) (rv := some (.int c452.1)) (h' := (HM P c452.2 T)) rfl (Em_isCell_89 x444 c450.2 _ _ hq P T) ?_
    show ai_ev D1 mm_sink 13 [some (.ref 89), some (.int x443), some (.int x444), some (.int x445)] [.int c452.1] (HM P c452.2 T) 0 0 _
    rcases ai_ifE h with ⟨hc, h⟩ | ⟨hc, h⟩
    · refine ev_if_eq (t := 28) rfl rfl (fun _ => ?_) (fun c9 => absurd hc c9)
      refine ev_go 2 (pc' := 31) (L' := [some (.ref 89), some (.int x443), some (.int x444), some (.int x445)]) (st' := [.int (-10), .ref 89]) (h' := (HM P c452.2 T)) (cs' := 0) (sl' := 0) rfl ?_
      obtain ⟨c453, hq, h⟩ := ai_bdE h
      refine ev_call (M' := mm_badAs) (L' := [some (.ref 89), some (.int (-10))]) (rest := []) (rv := some (.int c453.1)) (h' := (HM P c453.2 T)) rfl (Em_badAs_89 (-10) c452.2 _ _ hq P T) ?_
      show ai_ev D1 mm_sink 34 [some (.ref 89), some (.int x443), some (.int x444), some (.int x445)] [.int c453.1] (HM P c453.2 T) 0 0 _
      obtain ⟨rfl, rfl⟩ := ai_smP h
      exact ev_end rfl
    · refine ev_if_eq (t := 28) rfl rfl (fun c9 => absurd c9 hc) (fun _ => ?_)
      refine ev_go 4 (pc' := 22) (L' := [some (.ref 89), some (.int x443), some (.int x444), some (.int x445)]) (st' := [.long 4, .long 0, .long (x445).toInt64]) (h' := (HM P c452.2 T)) (cs' := 0) (sl' := 0) rfl ?_
      obtain ⟨c454, hq, h⟩ := ai_bdE h
      refine ev_call (M' := mm_in) (L' := [some (.long (x445).toInt64), none, some (.long 0), none, some (.long 4), none]) (rest := []) (rv := some (.int c454)) (h' := (HM P c452.2 T)) rfl (Em_in (x445).toInt64 0 4 _ hq (HM P c452.2 T)) ?_
      show ai_ev D1 mm_sink 25 [some (.ref 89), some (.int x443), some (.int x444), some (.int x445)] [.int c454] (HM P c452.2 T) 0 0 _
      rcases ai_ifE h with ⟨hc, h⟩ | ⟨hc, h⟩
      · refine ev_if_ne (t := 35) rfl rfl (fun c9 => absurd hc c9) (fun _ => ?_)
        refine ev_go 2 (pc' := 31) (L' := [some (.ref 89), some (.int x443), some (.int x444), some (.int x445)]) (st' := [.int (-10), .ref 89]) (h' := (HM P c452.2 T)) (cs' := 0) (sl' := 0) rfl ?_
        obtain ⟨c464, hq, h⟩ := ai_bdE h
        refine ev_call (M' := mm_badAs) (L' := [some (.ref 89), some (.int (-10))]) (rest := []) (rv := some (.int c464.1)) (h' := (HM P c464.2 T)) rfl (Em_badAs_89 (-10) c452.2 _ _ hq P T) ?_
        show ai_ev D1 mm_sink 34 [some (.ref 89), some (.int x443), some (.int x444), some (.int x445)] [.int c464.1] (HM P c464.2 T) 0 0 _
        obtain ⟨rfl, rfl⟩ := ai_smP h
        exact ev_end rfl
      · refine ev_if_ne (t := 35) rfl rfl (fun _ => ?_) (fun c9 => absurd c9 hc)
        refine ev_go 2 (pc' := 37) (L' := [some (.ref 89), some (.int x443), some (.int x444), some (.int x445)]) (st' := [.int x443, .ref 89]) (h' := (HM P c452.2 T)) (cs' := 0) (sl' := 0) rfl ?_
        obtain ⟨c455, hq, h⟩ := ai_bdE h
        refine ev_call (M' := mm_lay) (L' := [some (.ref 89), some (.int x443)]) (rest := []) (rv := none) (h' := (HM P c455 T)) rfl (Em_lay_89 x443 c452.2 _ hq P T) ?_
        show ai_ev D1 mm_sink 40 [some (.ref 89), some (.int x443), some (.int x444), some (.int x445)] [] (HM P c455 T) 0 0 _
        refine ev_go 3 (pc' := 43) (L' := [some (.ref 89), some (.int x443), some (.int x444), some (.int x445)]) (st' := [.int x445, .int x444, .ref 89]) (h' := (HM P c455 T)) (cs' := 0) (sl' := 0) rfl ?_
        obtain ⟨c463, hq, h⟩ := ai_bdE h
        refine ev_call (M' := mm_leastFor) (L' := [some (.ref 89), some (.int x444), some (.int x445), none, none]) (rest := []) (rv := some (.int c463.1)) (h' := (HM P c463.2 T)) rfl (Em_leastFor_89 n x444 x445 c455 _ _ hq P T) ?_
        show ai_ev D1 mm_sink 46 [some (.ref 89), some (.int x443), some (.int x444), some (.int x445)] [.int c463.1] (HM P c463.2 T) 0 0 _
        obtain ⟨rfl, rfl⟩ := ai_smP h
        exact ev_end rfl
set_option maxHeartbeats 40000000 in
set_option maxRecDepth 100000 in
theorem Em_holds_89 (n : Nat) (x465 : Int32) (x466 : Int32) (w : WM) (r : Int32) (w' : WM) (h : Fm_holds_89 n x465 x466 w = some (r, w')) (P : Nat → ai_E) (T : ai_H) : ai_ev D1 mm_holds 0 [some (.ref 89), some (.int x465), some (.int x466)] [] (HM P w T) 0 0 (some (.int r), HM P w' T) := by
  unfold Fm_holds_89 at h
  refine ev_go 2 (pc' := 2) (L' := [some (.ref 89), some (.int x465), some (.int x466)]) (st' := [.int x465, .ref 89]) (h' := (HM P w T)) (cs' := 0) (sl' := 0) rfl ?_
  obtain ⟨c467, hq, h⟩ := ai_bdE h
  refine ev_call (M' := mm_isLoaded) (L' := [some (.ref 89), some (.int x465)]) (rest := []) (rv := some (.int c467.1)) (h' := (HM P c467.2 T)) rfl (Em_isLoaded_89 x465 w _ _ hq P T) ?_
  show ai_ev D1 mm_holds 5 [some (.ref 89), some (.int x465), some (.int x466)] [.int c467.1] (HM P c467.2 T) 0 0 _
  rcases ai_ifE h with ⟨hc, h⟩ | ⟨hc, h⟩
  · refine ev_if_eq (t := 16) rfl rfl (fun _ => ?_) (fun c9 => absurd hc c9)
    refine ev_go 2 (pc' := 19) (L' := [some (.ref 89), some (.int x465), some (.int x466)]) (st' := [.int (-10), .ref 89]) (h' := (HM P c467.2 T)) (cs' := 0) (sl' := 0) rfl ?_
    obtain ⟨c468, hq, h⟩ := ai_bdE h
    refine ev_call (M' := mm_badAs) (L' := [some (.ref 89), some (.int (-10))]) (rest := []) (rv := some (.int c468.1)) (h' := (HM P c468.2 T)) rfl (Em_badAs_89 (-10) c467.2 _ _ hq P T) ?_
    show ai_ev D1 mm_holds 22 [some (.ref 89), some (.int x465), some (.int x466)] [.int c468.1] (HM P c468.2 T) 0 0 _
    obtain ⟨rfl, rfl⟩ := ai_smP h
    exact ev_end rfl
  · refine ev_if_eq (t := 16) rfl rfl (fun c9 => absurd c9 hc) (fun _ => ?_)
    refine ev_go 2 (pc' := 10) (L' := [some (.ref 89), some (.int x465), some (.int x466)]) (st' := [.int x466, .ref 89]) (h' := (HM P c467.2 T)) (cs' := 0) (sl' := 0) rfl ?_
    obtain ⟨c469, hq, h⟩ := ai_bdE h
    refine ev_call (M' := mm_isCell) (L' := [some (.ref 89), some (.int x466)]) (rest := []) (rv := some (.int c469.1)) (h' := (HM P c469.2 T)) rfl (Em_isCell_89 x466 c467.2 _ _ hq P T) ?_
    show ai_ev D1 mm_holds 13 [some (.ref 89), some (.int x465), some (.int x466)] [.int c469.1] (HM P c469.2 T) 0 0 _
    rcases ai_ifE h with ⟨hc, h⟩ | ⟨hc, h⟩
    · refine ev_if_ne (t := 23) rfl rfl (fun c9 => absurd hc c9) (fun _ => ?_)
      refine ev_go 2 (pc' := 19) (L' := [some (.ref 89), some (.int x465), some (.int x466)]) (st' := [.int (-10), .ref 89]) (h' := (HM P c469.2 T)) (cs' := 0) (sl' := 0) rfl ?_
      obtain ⟨c472, hq, h⟩ := ai_bdE h
      refine ev_call (M' := mm_badAs) (L' := [some (.ref 89), some (.int (-10))]) (rest := []) (rv := some (.int c472.1)) (h' := (HM P c472.2 T)) rfl (Em_badAs_89 (-10) c469.2 _ _ hq P T) ?_
      show ai_ev D1 mm_holds 22 [some (.ref 89), some (.int x465), some (.int x466)] [.int c472.1] (HM P c472.2 T) 0 0 _
      obtain ⟨rfl, rfl⟩ := ai_smP h
      exact ev_end rfl
    · refine ev_if_ne (t := 23) rfl rfl (fun _ => ?_) (fun c9 => absurd c9 hc)
      refine ev_go 2 (pc' := 25) (L' := [some (.ref 89), some (.int x465), some (.int x466)]) (st' := [.int x465, .ref 89]) (h' := (HM P c469.2 T)) (cs' := 0) (sl' := 0) rfl ?_
      obtain ⟨c470, hq, h⟩ := ai_bdE h
      refine ev_call (M' := mm_lay) (L' := [some (.ref 89), some (.int x465)]) (rest := []) (rv := none) (h' := (HM P c470 T)) rfl (Em_lay_89 x465 c469.2 _ hq P T) ?_
      show ai_ev D1 mm_holds 28 [some (.ref 89), some (.int x465), some (.int x466)] [] (HM P c470 T) 0 0 _
      refine ev_go 2 (pc' := 31) (L' := [some (.ref 89), some (.int x465), some (.int x466)]) (st' := [.int 99, .ref 89]) (h' := (HM P c470 T)) (cs' := 0) (sl' := 0) rfl ?_
      refine ev_step rfl rfl rfl (PFM_8_186_89 rfl) ?_
      refine ev_go 2 (pc' := 36) (L' := [some (.ref 89), some (.int x465), some (.int x466)]) (st' := [.int x466, .ref 89]) (h' := (HM P (u_m_load c470 99) T)) (cs' := 0) (sl' := 0) rfl ?_
      obtain ⟨c471, hq, h⟩ := ai_bdE h
      refine ev_call (M' := mm_comesDown) (L' := [some (.ref 89), some (.int x466), none, none, none]) (rest := []) (rv := none) (h' := (HM P c471 T)) rfl (Em_comesDown_89 n x466 (u_m_load c470 99) _ hq P T) ?_
      show ai_ev D1 mm_holds 39 [some (.ref 89), some (.int x465), some (.int x466)] [] (HM P c471 T) 0 0 _
      refine ev_go 2 (pc' := 43) (L' := [some (.ref 89), some (.int x465), some (.int x466)]) (st' := [.int (a_m_stops c471)]) (h' := (HM P c471 T)) (cs' := 0) (sl' := 0) rfl ?_
      obtain ⟨rfl, rfl⟩ := ai_smP h
      exact ev_end rfl
set_option maxHeartbeats 40000000 in
set_option maxRecDepth 100000 in
theorem EGm_bestHour_89 : ∀ n : Nat, (∀ (y483 : Int32) (y484 : Int32) (y485 : Int32) (y486 : Int32) (y487 : Int32) (y488 : Int32) (w : WM) (r : Int32) (w' : WM), Gm_bestHour_89 n 0 y483 y484 y485 y486 y487 y488 w = some (r, w') → ∀ (P : Nat → ai_E) (T : ai_H) (o7 : Option Value), ai_ev D1 mm_bestHour 50 [some (.ref 89), some (.int y483), some (.int y484), some (.int y485), some (.int y486), some (.int y487), some (.int y488), o7] [] (HM P w T) 0 0 (some (.int r), HM P w' T)) := by
  intro n
  induction n with
  | zero =>
    exact (fun _ _ _ _ _ _ _ _ _ h => by cases h)
  | succ n ih0 =>
    intro y483 y484 y485 y486 y487 y488 w r w' h P T o7
    simp only [Gm_bestHour_89] at h
    refine ev_go 2 (pc' := 54) (L' := [some (.ref 89), some (.int y483), some (.int y484), some (.int y485), some (.int y486), some (.int y487), some (.int y488), o7]) (st' := [.int 6, .int y488]) (h' := (HM P w T)) (cs' := 0) (sl' := 0) rfl ?_
    rcases ai_ifE h with ⟨hc, h⟩ | ⟨hc, h⟩
    · refine ev_ic_ge (t := 126) rfl rfl (fun _ => ?_) (fun c9 => absurd hc c9)
      refine ev_go 1 (pc' := 128) (L' := [some (.ref 89), some (.int y483), some (.int y484), some (.int y485), some (.int y486), some (.int y487), some (.int y488), o7]) (st' := [.int y486]) (h' := (HM P w T)) (cs' := 0) (sl' := 0) rfl ?_
      obtain ⟨rfl, rfl⟩ := ai_smP h
      exact ev_end rfl
    · refine ev_ic_ge (t := 126) rfl rfl (fun c9 => absurd c9 hc) (fun _ => ?_)
      refine ev_go 4 (pc' := 63) (L' := [some (.ref 89), some (.int y483), some (.int y484), some (.int y485), some (.int y486), some (.int y487), some (.int y488), o7]) (st' := [.int 1, .ref 90, .ref 89]) (h' := (HM P w T)) (cs' := 0) (sl' := 0) rfl ?_
      obtain ⟨v489, hq, h⟩ := ai_bdE h
      refine ev_iald rfl rfl hq ?_
      refine ev_go 2 (pc' := 67) (L' := [some (.ref 89), some (.int y483), some (.int y484), some (.int y485), some (.int y486), some (.int y487), some (.int y488), o7]) (st' := [.int (v489 + y488), .ref 89]) (h' := (HM P w T)) (cs' := 0) (sl' := 0) rfl ?_
      refine ev_step rfl rfl rfl (PFM_8_189_89 rfl) ?_
      refine ev_go 3 (pc' := 73) (L' := [some (.ref 89), some (.int y483), some (.int y484), some (.int y485), some (.int y486), some (.int y487), some (.int y488), o7]) (st' := [.int y485, .int y484, .ref 89]) (h' := (HM P (u_m_hour w (v489 + y488)) T)) (cs' := 0) (sl' := 0) rfl ?_
      obtain ⟨c490, hq, h⟩ := ai_bdE h
      refine ev_call (M' := mm_leastFor) (L' := [some (.ref 89), some (.int y484), some (.int y485), none, none]) (rest := []) (rv := some (.int c490.1)) (h' := (HM P c490.2 T)) rfl (Em_leastFor_89 n y484 y485 (u_m_hour w (v489 + y488)) _ _ hq P T) ?_
      show ai_ev D1 mm_bestHour 76 [some (.ref 89), some (.int y483), some (.int y484), some (.int y485), some (.int y486), some (.int y487), some (.int y488), o7] [.int c490.1] (HM P c490.2 T) 0 0 _
      refine ev_go 2 (pc' := 80) (L' := [some (.ref 89), some (.int y483), some (.int y484), some (.int y485), some (.int y486), some (.int y487), some (.int y488), some (.int c490.1)]) (st' := [.int c490.1]) (h' := (HM P c490.2 T)) (cs' := 0) (sl' := 0) rfl ?_
      rcases ai_ifE h with ⟨hc, h⟩ | ⟨hc, h⟩
      · refine ev_if_lt (t := 95) rfl rfl (fun _ => ?_) (fun c9 => absurd hc c9)
        refine ev_go 3 (pc' := 101) (L' := [some (.ref 89), some (.int y483), some (.int y484), some (.int y485), some (.int y486), some (.int y487), some (.int y488), some (.int c490.1)]) (st' := [.int c490.1]) (h' := (HM P c490.2 T)) (cs' := 0) (sl' := 0) rfl ?_
        rcases ai_ifE h with ⟨hc, h⟩ | ⟨hc, h⟩
        · refine ev_if_lt (t := 116) rfl rfl (fun _ => ?_) (fun c9 => absurd hc c9)
          refine ev_go 4 (pc' := 50) (L' := [some (.ref 89), some (.int y483), some (.int y484), some (.int y485), some (.int y486), some (.int y487), some (.int (y488 + 1)), some (.int c490.1)]) (st' := []) (h' := (HM P c490.2 T)) (cs' := 0) (sl' := 0) rfl ?_
          exact ih0 _ _ _ _ _ _ _ _ _ h P T _
        · refine ev_if_lt (t := 116) rfl rfl (fun c9 => absurd c9 hc) (fun _ => ?_)
          refine ev_go 2 (pc' := 108) (L' := [some (.ref 89), some (.int y483), some (.int y484), some (.int y485), some (.int y486), some (.int y487), some (.int y488), some (.int c490.1)]) (st' := [.int y487, .int c490.1]) (h' := (HM P c490.2 T)) (cs' := 0) (sl' := 0) rfl ?_
          rcases ai_ifE h with ⟨hc, h⟩ | ⟨hc, h⟩
          · refine ev_ic_ge (t := 116) rfl rfl (fun _ => ?_) (fun c9 => absurd hc c9)
            refine ev_go 4 (pc' := 50) (L' := [some (.ref 89), some (.int y483), some (.int y484), some (.int y485), some (.int y486), some (.int y487), some (.int (y488 + 1)), some (.int c490.1)]) (st' := []) (h' := (HM P c490.2 T)) (cs' := 0) (sl' := 0) rfl ?_
            exact ih0 _ _ _ _ _ _ _ _ _ h P T _
          · refine ev_ic_ge (t := 116) rfl rfl (fun c9 => absurd c9 hc) (fun _ => ?_)
            refine ev_go 5 (pc' := 50) (L' := [some (.ref 89), some (.int y483), some (.int y484), some (.int y485), some (.int y486), some (.int c490.1), some (.int (y488 + 1)), some (.int c490.1)]) (st' := []) (h' := (HM P c490.2 T)) (cs' := 0) (sl' := 0) rfl ?_
            exact ih0 _ _ _ _ _ _ _ _ _ h P T _
      · refine ev_if_lt (t := 95) rfl rfl (fun c9 => absurd c9 hc) (fun _ => ?_)
        refine ev_go 2 (pc' := 87) (L' := [some (.ref 89), some (.int y483), some (.int y484), some (.int y485), some (.int y486), some (.int y487), some (.int y488), some (.int c490.1)]) (st' := [.int y487, .int c490.1]) (h' := (HM P c490.2 T)) (cs' := 0) (sl' := 0) rfl ?_
        rcases ai_ifE h with ⟨hc, h⟩ | ⟨hc, h⟩
        · refine ev_ic_ge (t := 95) rfl rfl (fun _ => ?_) (fun c9 => absurd hc c9)
          refine ev_go 3 (pc' := 101) (L' := [some (.ref 89), some (.int y483), some (.int y484), some (.int y485), some (.int y486), some (.int y487), some (.int y488), some (.int c490.1)]) (st' := [.int c490.1]) (h' := (HM P c490.2 T)) (cs' := 0) (sl' := 0) rfl ?_
          rcases ai_ifE h with ⟨hc, h⟩ | ⟨hc, h⟩
          · refine ev_if_lt (t := 116) rfl rfl (fun _ => ?_) (fun c9 => absurd hc c9)
            refine ev_go 4 (pc' := 50) (L' := [some (.ref 89), some (.int y483), some (.int y484), some (.int y485), some (.int y486), some (.int y487), some (.int (y488 + 1)), some (.int c490.1)]) (st' := []) (h' := (HM P c490.2 T)) (cs' := 0) (sl' := 0) rfl ?_
            exact ih0 _ _ _ _ _ _ _ _ _ h P T _
          · refine ev_if_lt (t := 116) rfl rfl (fun c9 => absurd c9 hc) (fun _ => ?_)
            refine ev_go 2 (pc' := 108) (L' := [some (.ref 89), some (.int y483), some (.int y484), some (.int y485), some (.int y486), some (.int y487), some (.int y488), some (.int c490.1)]) (st' := [.int y487, .int c490.1]) (h' := (HM P c490.2 T)) (cs' := 0) (sl' := 0) rfl ?_
            rcases ai_ifE h with ⟨hc, h⟩ | ⟨hc, h⟩
            · refine ev_ic_ge (t := 116) rfl rfl (fun _ => ?_) (fun c9 => absurd hc c9)
              refine ev_go 4 (pc' := 50) (L' := [some (.ref 89), some (.int y483), some (.int y484), some (.int y485), some (.int y486), some (.int y487), some (.int (y488 + 1)), some (.int c490.1)]) (st' := []) (h' := (HM P c490.2 T)) (cs' := 0) (sl' := 0) rfl ?_
              exact ih0 _ _ _ _ _ _ _ _ _ h P T _
            · refine ev_ic_ge (t := 116) rfl rfl (fun c9 => absurd c9 hc) (fun _ => ?_)
              refine ev_go 5 (pc' := 50) (L' := [some (.ref 89), some (.int y483), some (.int y484), some (.int y485), some (.int y486), some (.int c490.1), some (.int (y488 + 1)), some (.int c490.1)]) (st' := []) (h' := (HM P c490.2 T)) (cs' := 0) (sl' := 0) rfl ?_
              exact ih0 _ _ _ _ _ _ _ _ _ h P T _
        · refine ev_ic_ge (t := 95) rfl rfl (fun c9 => absurd c9 hc) (fun _ => ?_)
          refine ev_go 4 (pc' := 101) (L' := [some (.ref 89), some (.int y483), some (.int y484), some (.int y485), some (.int y488), some (.int y487), some (.int y488), some (.int c490.1)]) (st' := [.int c490.1]) (h' := (HM P c490.2 T)) (cs' := 0) (sl' := 0) rfl ?_
          rcases ai_ifE h with ⟨hc, h⟩ | ⟨hc, h⟩
          · refine ev_if_lt (t := 116) rfl rfl (fun _ => ?_) (fun c9 => absurd hc c9)
            refine ev_go 4 (pc' := 50) (L' := [some (.ref 89), some (.int y483), some (.int y484), some (.int y485), some (.int y488), some (.int y487), some (.int (y488 + 1)), some (.int c490.1)]) (st' := []) (h' := (HM P c490.2 T)) (cs' := 0) (sl' := 0) rfl ?_
            exact ih0 _ _ _ _ _ _ _ _ _ h P T _
          · refine ev_if_lt (t := 116) rfl rfl (fun c9 => absurd c9 hc) (fun _ => ?_)
            refine ev_go 2 (pc' := 108) (L' := [some (.ref 89), some (.int y483), some (.int y484), some (.int y485), some (.int y488), some (.int y487), some (.int y488), some (.int c490.1)]) (st' := [.int y487, .int c490.1]) (h' := (HM P c490.2 T)) (cs' := 0) (sl' := 0) rfl ?_
            rcases ai_ifE h with ⟨hc, h⟩ | ⟨hc, h⟩
            · refine ev_ic_ge (t := 116) rfl rfl (fun _ => ?_) (fun c9 => absurd hc c9)
              refine ev_go 4 (pc' := 50) (L' := [some (.ref 89), some (.int y483), some (.int y484), some (.int y485), some (.int y488), some (.int y487), some (.int (y488 + 1)), some (.int c490.1)]) (st' := []) (h' := (HM P c490.2 T)) (cs' := 0) (sl' := 0) rfl ?_
              exact ih0 _ _ _ _ _ _ _ _ _ h P T _
            · refine ev_ic_ge (t := 116) rfl rfl (fun c9 => absurd c9 hc) (fun _ => ?_)
              refine ev_go 5 (pc' := 50) (L' := [some (.ref 89), some (.int y483), some (.int y484), some (.int y485), some (.int y488), some (.int c490.1), some (.int (y488 + 1)), some (.int c490.1)]) (st' := []) (h' := (HM P c490.2 T)) (cs' := 0) (sl' := 0) rfl ?_
              exact ih0 _ _ _ _ _ _ _ _ _ h P T _
set_option maxHeartbeats 40000000 in
set_option maxRecDepth 100000 in
theorem Em_bestHour_89 (n : Nat) (x473 : Int32) (x474 : Int32) (x475 : Int32) (w : WM) (r : Int32) (w' : WM) (h : Fm_bestHour_89 n x473 x474 x475 w = some (r, w')) (P : Nat → ai_E) (T : ai_H) : ai_ev D1 mm_bestHour 0 [some (.ref 89), some (.int x473), some (.int x474), some (.int x475), none, none, none, none] [] (HM P w T) 0 0 (some (.int r), HM P w' T) := by
  unfold Fm_bestHour_89 at h
  have ih0 := EGm_bestHour_89 n
  refine ev_go 2 (pc' := 2) (L' := [some (.ref 89), some (.int x473), some (.int x474), some (.int x475), none, none, none, none]) (st' := [.int x473, .ref 89]) (h' := (HM P w T)) (cs' := 0) (sl' := 0) rfl ?_
  obtain ⟨c476, hq, h⟩ := ai_bdE h
  refine ev_call (M' := mm_isLoaded) (L' := [some (.ref 89), some (.int x473)]) (rest := []) (rv := some (.int c476.1)) (h' := (HM P c476.2 T)) rfl (Em_isLoaded_89 x473 w _ _ hq P T) ?_
  show ai_ev D1 mm_bestHour 5 [some (.ref 89), some (.int x473), some (.int x474), some (.int x475), none, none, none, none] [.int c476.1] (HM P c476.2 T) 0 0 _
  rcases ai_ifE h with ⟨hc, h⟩ | ⟨hc, h⟩
  · refine ev_if_eq (t := 28) rfl rfl (fun _ => ?_) (fun c9 => absurd hc c9)
    refine ev_go 2 (pc' := 31) (L' := [some (.ref 89), some (.int x473), some (.int x474), some (.int x475), none, none, none, none]) (st' := [.int (-10), .ref 89]) (h' := (HM P c476.2 T)) (cs' := 0) (sl' := 0) rfl ?_
    obtain ⟨c477, hq, h⟩ := ai_bdE h
    refine ev_call (M' := mm_badAs) (L' := [some (.ref 89), some (.int (-10))]) (rest := []) (rv := some (.int c477.1)) (h' := (HM P c477.2 T)) rfl (Em_badAs_89 (-10) c476.2 _ _ hq P T) ?_
    show ai_ev D1 mm_bestHour 34 [some (.ref 89), some (.int x473), some (.int x474), some (.int x475), none, none, none, none] [.int c477.1] (HM P c477.2 T) 0 0 _
    obtain ⟨rfl, rfl⟩ := ai_smP h
    exact ev_end rfl
  · refine ev_if_eq (t := 28) rfl rfl (fun c9 => absurd c9 hc) (fun _ => ?_)
    refine ev_go 2 (pc' := 10) (L' := [some (.ref 89), some (.int x473), some (.int x474), some (.int x475), none, none, none, none]) (st' := [.int x474, .ref 89]) (h' := (HM P c476.2 T)) (cs' := 0) (sl' := 0) rfl ?_
    obtain ⟨c478, hq, h⟩ := ai_bdE h
    refine ev_call (M' := mm_isCell) (L' := [some (.ref 89), some (.int x474)]) (rest := []) (rv := some (.int c478.1)) (h' := (HM P c478.2 T)) rfl (Em_isCell_89 x474 c476.2 _ _ hq P T) ?_
    show ai_ev D1 mm_bestHour 13 [some (.ref 89), some (.int x473), some (.int x474), some (.int x475), none, none, none, none] [.int c478.1] (HM P c478.2 T) 0 0 _
    rcases ai_ifE h with ⟨hc, h⟩ | ⟨hc, h⟩
    · refine ev_if_eq (t := 28) rfl rfl (fun _ => ?_) (fun c9 => absurd hc c9)
      refine ev_go 2 (pc' := 31) (L' := [some (.ref 89), some (.int x473), some (.int x474), some (.int x475), none, none, none, none]) (st' := [.int (-10), .ref 89]) (h' := (HM P c478.2 T)) (cs' := 0) (sl' := 0) rfl ?_
      obtain ⟨c479, hq, h⟩ := ai_bdE h
      refine ev_call (M' := mm_badAs) (L' := [some (.ref 89), some (.int (-10))]) (rest := []) (rv := some (.int c479.1)) (h' := (HM P c479.2 T)) rfl (Em_badAs_89 (-10) c478.2 _ _ hq P T) ?_
      show ai_ev D1 mm_bestHour 34 [some (.ref 89), some (.int x473), some (.int x474), some (.int x475), none, none, none, none] [.int c479.1] (HM P c479.2 T) 0 0 _
      obtain ⟨rfl, rfl⟩ := ai_smP h
      exact ev_end rfl
    · refine ev_if_eq (t := 28) rfl rfl (fun c9 => absurd c9 hc) (fun _ => ?_)
      refine ev_go 4 (pc' := 22) (L' := [some (.ref 89), some (.int x473), some (.int x474), some (.int x475), none, none, none, none]) (st' := [.long 4, .long 0, .long (x475).toInt64]) (h' := (HM P c478.2 T)) (cs' := 0) (sl' := 0) rfl ?_
      obtain ⟨c480, hq, h⟩ := ai_bdE h
      refine ev_call (M' := mm_in) (L' := [some (.long (x475).toInt64), none, some (.long 0), none, some (.long 4), none]) (rest := []) (rv := some (.int c480)) (h' := (HM P c478.2 T)) rfl (Em_in (x475).toInt64 0 4 _ hq (HM P c478.2 T)) ?_
      show ai_ev D1 mm_bestHour 25 [some (.ref 89), some (.int x473), some (.int x474), some (.int x475), none, none, none, none] [.int c480] (HM P c478.2 T) 0 0 _
      rcases ai_ifE h with ⟨hc, h⟩ | ⟨hc, h⟩
      · refine ev_if_ne (t := 35) rfl rfl (fun c9 => absurd hc c9) (fun _ => ?_)
        refine ev_go 2 (pc' := 31) (L' := [some (.ref 89), some (.int x473), some (.int x474), some (.int x475), none, none, none, none]) (st' := [.int (-10), .ref 89]) (h' := (HM P c478.2 T)) (cs' := 0) (sl' := 0) rfl ?_
        obtain ⟨c482, hq, h⟩ := ai_bdE h
        refine ev_call (M' := mm_badAs) (L' := [some (.ref 89), some (.int (-10))]) (rest := []) (rv := some (.int c482.1)) (h' := (HM P c482.2 T)) rfl (Em_badAs_89 (-10) c478.2 _ _ hq P T) ?_
        show ai_ev D1 mm_bestHour 34 [some (.ref 89), some (.int x473), some (.int x474), some (.int x475), none, none, none, none] [.int c482.1] (HM P c482.2 T) 0 0 _
        obtain ⟨rfl, rfl⟩ := ai_smP h
        exact ev_end rfl
      · refine ev_if_ne (t := 35) rfl rfl (fun _ => ?_) (fun c9 => absurd c9 hc)
        refine ev_go 6 (pc' := 44) (L' := [some (.ref 89), some (.int x473), some (.int x474), some (.int x475), some (.int (-1)), some (.int 1000000), none, none]) (st' := [.int x473, .ref 89]) (h' := (HM P c478.2 T)) (cs' := 0) (sl' := 0) rfl ?_
        obtain ⟨c481, hq, h⟩ := ai_bdE h
        refine ev_call (M' := mm_lay) (L' := [some (.ref 89), some (.int x473)]) (rest := []) (rv := none) (h' := (HM P c481 T)) rfl (Em_lay_89 x473 c478.2 _ hq P T) ?_
        show ai_ev D1 mm_bestHour 47 [some (.ref 89), some (.int x473), some (.int x474), some (.int x475), some (.int (-1)), some (.int 1000000), none, none] [] (HM P c481 T) 0 0 _
        refine ev_go 2 (pc' := 50) (L' := [some (.ref 89), some (.int x473), some (.int x474), some (.int x475), some (.int (-1)), some (.int 1000000), some (.int 0), none]) (st' := []) (h' := (HM P c481 T)) (cs' := 0) (sl' := 0) rfl ?_
        exact ih0 _ _ _ _ _ _ _ _ _ h P T _
set_option maxHeartbeats 40000000 in
set_option maxRecDepth 100000 in
theorem Em_comesTo_89 (x515 : Int32) (x516 : Int32) (x517 : Int32) (w : WM) (r : Int32) (w' : WM) (h : Fm_comesTo_89 x515 x516 x517 w = some (r, w')) (P : Nat → ai_E) (T : ai_H) : ai_ev D1 mm_comesTo 0 [some (.ref 89), some (.int x515), some (.int x516), some (.int x517), none] [] (HM P w T) 0 0 (some (.int r), HM P w' T) := by
  unfold Fm_comesTo_89 at h
  refine ev_go 3 (pc' := 5) (L' := [some (.ref 89), some (.int x515), some (.int x516), some (.int x517), none]) (st' := [.int x515, .ref 95]) (h' := (HM P w T)) (cs' := 0) (sl' := 0) rfl ?_
  obtain ⟨v518, hq, h⟩ := ai_bdE h
  refine ev_iald rfl rfl hq ?_
  refine ev_go 1 (pc' := 8) (L' := [some (.ref 89), some (.int x515), some (.int x516), some (.int x517), none]) (st' := [.int 1000000, .int v518]) (h' := (HM P w T)) (cs' := 0) (sl' := 0) rfl ?_
  rcases ai_ifE h with ⟨hc, h⟩ | ⟨hc, h⟩
  · refine ev_ic_ge (t := 32) rfl rfl (fun _ => ?_) (fun c9 => absurd hc c9)
    refine ev_go 10 (pc' := 61) (L' := [some (.ref 89), some (.int x515), some (.int x516), some (.int x517), some (.int 0)]) (st' := [.int x516, .ref 95, .int x516, .ref 95]) (h' := (HM P w T)) (cs' := 0) (sl' := 0) rfl ?_
    obtain ⟨v519, hq, h⟩ := ai_bdE h
    refine ev_iald rfl rfl hq ?_
    obtain ⟨q520, hq, h⟩ := ai_bdE h
    refine ev_iast rfl rfl hq ?_
    rw [HMs_95]
    refine ev_go 1 (pc' := 65) (L' := [some (.ref 89), some (.int x515), some (.int x516), some (.int x517), some (.int 0)]) (st' := [.int 0]) (h' := (HM P (u_m_far w q520) T)) (cs' := 0) (sl' := 0) rfl ?_
    obtain ⟨rfl, rfl⟩ := ai_smP h
    exact ev_end rfl
  · refine ev_ic_ge (t := 32) rfl rfl (fun c9 => absurd c9 hc) (fun _ => ?_)
    refine ev_go 3 (pc' := 16) (L' := [some (.ref 89), some (.int x515), some (.int x516), some (.int x517), none]) (st' := [.int x515, .ref 95]) (h' := (HM P w T)) (cs' := 0) (sl' := 0) rfl ?_
    obtain ⟨v521, hq, h⟩ := ai_bdE h
    refine ev_iald rfl rfl hq ?_
    refine ev_go 5 (pc' := 24) (L' := [some (.ref 89), some (.int x515), some (.int x516), some (.int x517), none]) (st' := [.int x516, .ref 95, .int (v521 + x517)]) (h' := (HM P w T)) (cs' := 0) (sl' := 0) rfl ?_
    obtain ⟨v522, hq, h⟩ := ai_bdE h
    refine ev_iald rfl rfl hq ?_
    rcases ai_ifE h with ⟨hc, h⟩ | ⟨hc, h⟩
    · refine ev_ic_ge (t := 32) rfl rfl (fun _ => ?_) (fun c9 => absurd hc c9)
      refine ev_go 10 (pc' := 61) (L' := [some (.ref 89), some (.int x515), some (.int x516), some (.int x517), some (.int 0)]) (st' := [.int x516, .ref 95, .int x516, .ref 95]) (h' := (HM P w T)) (cs' := 0) (sl' := 0) rfl ?_
      obtain ⟨v523, hq, h⟩ := ai_bdE h
      refine ev_iald rfl rfl hq ?_
      obtain ⟨q524, hq, h⟩ := ai_bdE h
      refine ev_iast rfl rfl hq ?_
      rw [HMs_95]
      refine ev_go 1 (pc' := 65) (L' := [some (.ref 89), some (.int x515), some (.int x516), some (.int x517), some (.int 0)]) (st' := [.int 0]) (h' := (HM P (u_m_far w q524) T)) (cs' := 0) (sl' := 0) rfl ?_
      obtain ⟨rfl, rfl⟩ := ai_smP h
      exact ev_end rfl
    · refine ev_ic_ge (t := 32) rfl rfl (fun c9 => absurd c9 hc) (fun _ => ?_)
      refine ev_go 11 (pc' := 50) (L' := [some (.ref 89), some (.int x515), some (.int x516), some (.int x517), some (.int 1)]) (st' := [.int x515, .ref 95, .int x516, .ref 95]) (h' := (HM P w T)) (cs' := 0) (sl' := 0) rfl ?_
      obtain ⟨v525, hq, h⟩ := ai_bdE h
      refine ev_iald rfl rfl hq ?_
      refine ev_go 3 (pc' := 62) (L' := [some (.ref 89), some (.int x515), some (.int x516), some (.int x517), some (.int 1)]) (st' := [.int (v525 + x517), .int x516, .ref 95]) (h' := (HM P w T)) (cs' := 0) (sl' := 0) rfl ?_
      obtain ⟨q526, hq, h⟩ := ai_bdE h
      refine ev_iast rfl rfl hq ?_
      rw [HMs_95]
      refine ev_go 1 (pc' := 65) (L' := [some (.ref 89), some (.int x515), some (.int x516), some (.int x517), some (.int 1)]) (st' := [.int 1]) (h' := (HM P (u_m_far w q526) T)) (cs' := 0) (sl' := 0) rfl ?_
      obtain ⟨rfl, rfl⟩ := ai_smP h
      exact ev_end rfl
set_option maxHeartbeats 40000000 in
set_option maxRecDepth 100000 in
theorem Em_isThick_89 (x538 : Int32) (w : WM) (r : Int32) (w' : WM) (h : Fm_isThick_89 x538 w = some (r, w')) (P : Nat → ai_E) (T : ai_H) : ai_ev D1 mm_isThick 0 [some (.ref 89), some (.int x538)] [] (HM P w T) 0 0 (some (.int r), HM P w' T) := by
  unfold Fm_isThick_89 at h
  refine ev_go 10 (pc' := 14) (L' := [some (.ref 89), some (.int x538)]) (st' := [.int 1, .ref 90, .int (x538 / 10), .int (x538 - x538 / 10 * 10), .ref 89]) (h' := (HM P w T)) (cs' := 0) (sl' := 0) rfl ?_
  obtain ⟨v539, hq, h⟩ := ai_bdE h
  refine ev_iald rfl rfl hq ?_
  obtain ⟨c540, hq, h⟩ := ai_bdE h
  refine ev_call (M' := mm_thickIn) (L' := [some (.ref 89), some (.int (x538 - x538 / 10 * 10)), some (.int (x538 / 10)), some (.int v539), none]) (rest := []) (rv := some (.int c540.1)) (h' := (HM P c540.2 T)) rfl (Em_thickIn_89 (x538 - x538 / 10 * 10) (x538 / 10) v539 w _ _ hq P T) ?_
  show ai_ev D1 mm_isThick 18 [some (.ref 89), some (.int x538)] [.int c540.1] (HM P c540.2 T) 0 0 _
  rcases ai_ifE h with ⟨hc, h⟩ | ⟨hc, h⟩
  · refine ev_if_le (t := 25) rfl rfl (fun _ => ?_) (fun c9 => absurd hc c9)
    refine ev_go 1 (pc' := 26) (L' := [some (.ref 89), some (.int x538)]) (st' := [.int 0]) (h' := (HM P c540.2 T)) (cs' := 0) (sl' := 0) rfl ?_
    obtain ⟨rfl, rfl⟩ := ai_smP h
    exact ev_end rfl
  · refine ev_if_le (t := 25) rfl rfl (fun c9 => absurd c9 hc) (fun _ => ?_)
    refine ev_go 2 (pc' := 26) (L' := [some (.ref 89), some (.int x538)]) (st' := [.int 1]) (h' := (HM P c540.2 T)) (cs' := 0) (sl' := 0) rfl ?_
    obtain ⟨rfl, rfl⟩ := ai_smP h
    exact ev_end rfl
set_option maxHeartbeats 40000000 in
set_option maxRecDepth 100000 in
theorem EGm_soonest_89 : ∀ n : Nat, (∀ (y497 : Int32) (y498 : Int32) (y499 : Int32) (w : WM) (r : Int32) (w' : WM), Gm_soonest_89 n 0 y497 y498 y499 0 w = some (r, w') → ∀ (P : Nat → ai_E) (T : ai_H) (o4 : Option Value), ai_ev D1 mm_soonest 25 [some (.ref 89), some (.int y497), some (.int y498), some (.int y499), o4] [] (HM P w T) 0 0 (some (.int r), HM P w' T)) ∧ (∀ (y502 : Int32) (y503 : Int32) (y504 : Int32) (w : WM) (r : Int32) (w' : WM), Gm_soonest_89 n 1 y502 y503 y504 0 w = some (r, w') → ∀ (P : Nat → ai_E) (T : ai_H) (o4 : Option Value), ai_ev D1 mm_soonest 56 [some (.ref 89), some (.int y502), some (.int y503), some (.int y504), o4] [] (HM P w T) 0 0 (some (.int r), HM P w' T)) ∧ (∀ (y507 : Int32) (y508 : Int32) (y509 : Int32) (y510 : Int32) (w : WM) (r : Int32) (w' : WM), Gm_soonest_89 n 2 y507 y508 y509 y510 w = some (r, w') → ∀ (P : Nat → ai_E) (T : ai_H), ai_ev D1 mm_soonest 65 [some (.ref 89), some (.int y507), some (.int y508), some (.int y509), some (.int y510)] [] (HM P w T) 0 0 (some (.int r), HM P w' T)) ∧ (∀ (y532 : Int32) (y533 : Int32) (y534 : Int32) (y535 : Int32) (w : WM) (r : Int32) (w' : WM), Gm_soonest_89 n 3 y532 y533 y534 y535 w = some (r, w') → ∀ (P : Nat → ai_E) (T : ai_H), ai_ev D1 mm_soonest 159 [some (.ref 89), some (.int y532), some (.int y533), some (.int y534), some (.int y535)] [] (HM P w T) 0 0 (some (.int r), HM P w' T)) := by
  intro n
  induction n with
  | zero =>
    exact ⟨(fun _ _ _ _ _ _ h => by cases h), (fun _ _ _ _ _ _ h => by cases h), (fun _ _ _ _ _ _ _ h => by cases h), (fun _ _ _ _ _ _ _ h => by cases h)⟩
  | succ n ih =>
    obtain ⟨ih0, ih1, ih2, ih3⟩ := ih
    refine ⟨?_, ?_, ?_, ?_⟩
    · intro y497 y498 y499 w r w' h P T o4
      simp only [Gm_soonest_89] at h
      refine ev_go 2 (pc' := 28) (L' := [some (.ref 89), some (.int y497), some (.int y498), some (.int y499), o4]) (st' := [.int 60, .int y499]) (h' := (HM P w T)) (cs' := 0) (sl' := 0) rfl ?_
      rcases ai_ifE h with ⟨hc, h⟩ | ⟨hc, h⟩
      · refine ev_ic_ge (t := 54) rfl rfl (fun _ => ?_) (fun c9 => absurd hc c9)
        refine ev_go 2 (pc' := 56) (L' := [some (.ref 89), some (.int y497), some (.int y498), some (.int 1), o4]) (st' := []) (h' := (HM P w T)) (cs' := 0) (sl' := 0) rfl ?_
        exact ih1 _ _ _ _ _ _ h P T _
      · refine ev_ic_ge (t := 54) rfl rfl (fun c9 => absurd c9 hc) (fun _ => ?_)
        refine ev_go 5 (pc' := 38) (L' := [some (.ref 89), some (.int y497), some (.int y498), some (.int y499), o4]) (st' := [.int y497, .int y499, .int y499, .ref 95]) (h' := (HM P w T)) (cs' := 0) (sl' := 0) rfl ?_
        rcases ai_ifE h with ⟨hc, h⟩ | ⟨hc, h⟩
        · refine ev_ic_ne (t := 45) rfl rfl (fun c9 => absurd hc c9) (fun _ => ?_)
          refine ev_go 2 (pc' := 47) (L' := [some (.ref 89), some (.int y497), some (.int y498), some (.int y499), o4]) (st' := [.int 0, .int y499, .ref 95]) (h' := (HM P w T)) (cs' := 0) (sl' := 0) rfl ?_
          obtain ⟨q501, hq, h⟩ := ai_bdE h
          refine ev_iast rfl rfl hq ?_
          rw [HMs_95]
          refine ev_go 2 (pc' := 25) (L' := [some (.ref 89), some (.int y497), some (.int y498), some (.int (y499 + 1)), o4]) (st' := []) (h' := (HM P (u_m_far w q501) T)) (cs' := 0) (sl' := 0) rfl ?_
          exact ih0 _ _ _ _ _ _ h P T _
        · refine ev_ic_ne (t := 45) rfl rfl (fun _ => ?_) (fun c9 => absurd c9 hc)
          refine ev_go 1 (pc' := 47) (L' := [some (.ref 89), some (.int y497), some (.int y498), some (.int y499), o4]) (st' := [.int 1000000, .int y499, .ref 95]) (h' := (HM P w T)) (cs' := 0) (sl' := 0) rfl ?_
          obtain ⟨q500, hq, h⟩ := ai_bdE h
          refine ev_iast rfl rfl hq ?_
          rw [HMs_95]
          refine ev_go 2 (pc' := 25) (L' := [some (.ref 89), some (.int y497), some (.int y498), some (.int (y499 + 1)), o4]) (st' := []) (h' := (HM P (u_m_far w q500) T)) (cs' := 0) (sl' := 0) rfl ?_
          exact ih0 _ _ _ _ _ _ h P T _
    · intro y502 y503 y504 w r w' h P T o4
      simp only [Gm_soonest_89] at h
      refine ev_go 1 (pc' := 57) (L' := [some (.ref 89), some (.int y502), some (.int y503), some (.int y504), o4]) (st' := [.int y504]) (h' := (HM P w T)) (cs' := 0) (sl' := 0) rfl ?_
      rcases ai_ifE h with ⟨hc, h⟩ | ⟨hc, h⟩
      · refine ev_if_eq (t := 247) rfl rfl (fun _ => ?_) (fun c9 => absurd hc c9)
        refine ev_go 3 (pc' := 252) (L' := [some (.ref 89), some (.int y502), some (.int y503), some (.int y504), o4]) (st' := [.int y503, .ref 95]) (h' := (HM P w T)) (cs' := 0) (sl' := 0) rfl ?_
        obtain ⟨v505, hq, h⟩ := ai_bdE h
        refine ev_iald rfl rfl hq ?_
        refine ev_go 1 (pc' := 255) (L' := [some (.ref 89), some (.int y502), some (.int y503), some (.int y504), o4]) (st' := [.int 1000000, .int v505]) (h' := (HM P w T)) (cs' := 0) (sl' := 0) rfl ?_
        rcases ai_ifE h with ⟨hc, h⟩ | ⟨hc, h⟩
        · refine ev_ic_ne (t := 262) rfl rfl (fun c9 => absurd hc c9) (fun _ => ?_)
          refine ev_go 2 (pc' := 268) (L' := [some (.ref 89), some (.int y502), some (.int y503), some (.int y504), o4]) (st' := [.int (-1)]) (h' := (HM P w T)) (cs' := 0) (sl' := 0) rfl ?_
          obtain ⟨rfl, rfl⟩ := ai_smP h
          exact ev_end rfl
        · refine ev_ic_ne (t := 262) rfl rfl (fun _ => ?_) (fun c9 => absurd c9 hc)
          refine ev_go 3 (pc' := 267) (L' := [some (.ref 89), some (.int y502), some (.int y503), some (.int y504), o4]) (st' := [.int y503, .ref 95]) (h' := (HM P w T)) (cs' := 0) (sl' := 0) rfl ?_
          obtain ⟨v506, hq, h⟩ := ai_bdE h
          refine ev_iald rfl rfl hq ?_
          obtain ⟨rfl, rfl⟩ := ai_smP h
          exact ev_end rfl
      · refine ev_if_eq (t := 247) rfl rfl (fun c9 => absurd c9 hc) (fun _ => ?_)
        refine ev_go 4 (pc' := 65) (L' := [some (.ref 89), some (.int y502), some (.int y503), some (.int 0), some (.int 0)]) (st' := []) (h' := (HM P w T)) (cs' := 0) (sl' := 0) rfl ?_
        exact ih2 _ _ _ _ _ _ _ h P T
    · intro y507 y508 y509 y510 w r w' h P T
      simp only [Gm_soonest_89] at h
      refine ev_go 4 (pc' := 72) (L' := [some (.ref 89), some (.int y507), some (.int y508), some (.int y509), some (.int y510)]) (st' := [.int 3, .ref 90, .int y510]) (h' := (HM P w T)) (cs' := 0) (sl' := 0) rfl ?_
      obtain ⟨v511, hq, h⟩ := ai_bdE h
      refine ev_iald rfl rfl hq ?_
      rcases ai_ifE h with ⟨hc, h⟩ | ⟨hc, h⟩
      · refine ev_ic_ge (t := 156) rfl rfl (fun _ => ?_) (fun c9 => absurd hc c9)
        refine ev_go 2 (pc' := 159) (L' := [some (.ref 89), some (.int y507), some (.int y508), some (.int y509), some (.int 0)]) (st' := []) (h' := (HM P w T)) (cs' := 0) (sl' := 0) rfl ?_
        exact ih3 _ _ _ _ _ _ _ h P T
      · refine ev_ic_ge (t := 156) rfl rfl (fun c9 => absurd c9 hc) (fun _ => ?_)
        refine ev_go 7 (pc' := 87) (L' := [some (.ref 89), some (.int y507), some (.int y508), some (.int y509), some (.int y510)]) (st' := [.int (91 + y510), .ref 90, .ref 89, .int y509]) (h' := (HM P w T)) (cs' := 0) (sl' := 0) rfl ?_
        obtain ⟨v512, hq, h⟩ := ai_bdE h
        refine ev_iald rfl rfl hq ?_
        refine ev_go 5 (pc' := 97) (L' := [some (.ref 89), some (.int y507), some (.int y508), some (.int y509), some (.int y510)]) (st' := [.int (101 + y510), .ref 90, .int v512, .ref 89, .int y509]) (h' := (HM P w T)) (cs' := 0) (sl' := 0) rfl ?_
        obtain ⟨v513, hq, h⟩ := ai_bdE h
        refine ev_iald rfl rfl hq ?_
        refine ev_go 5 (pc' := 107) (L' := [some (.ref 89), some (.int y507), some (.int y508), some (.int y509), some (.int y510)]) (st' := [.int (111 + y510), .ref 90, .int v513, .int v512, .ref 89, .int y509]) (h' := (HM P w T)) (cs' := 0) (sl' := 0) rfl ?_
        obtain ⟨v514, hq, h⟩ := ai_bdE h
        refine ev_iald rfl rfl hq ?_
        obtain ⟨c527, hq, h⟩ := ai_bdE h
        refine ev_call (M' := mm_comesTo) (L' := [some (.ref 89), some (.int v512), some (.int v513), some (.int v514), none]) (rest := [.int y509]) (rv := some (.int c527.1)) (h' := (HM P c527.2 T)) rfl (Em_comesTo_89 v512 v513 v514 w _ _ hq P T) ?_
        show ai_ev D1 mm_soonest 111 [some (.ref 89), some (.int y507), some (.int y508), some (.int y509), some (.int y510)] [.int c527.1, .int y509] (HM P c527.2 T) 0 0 _
        refine ev_go 9 (pc' := 124) (L' := [some (.ref 89), some (.int y507), some (.int y508), some (.int (y509 ||| c527.1)), some (.int y510)]) (st' := [.int (101 + y510), .ref 90, .ref 89, .int (y509 ||| c527.1)]) (h' := (HM P c527.2 T)) (cs' := 0) (sl' := 0) rfl ?_
        obtain ⟨v528, hq, h⟩ := ai_bdE h
        refine ev_iald rfl rfl hq ?_
        refine ev_go 5 (pc' := 134) (L' := [some (.ref 89), some (.int y507), some (.int y508), some (.int (y509 ||| c527.1)), some (.int y510)]) (st' := [.int (91 + y510), .ref 90, .int v528, .ref 89, .int (y509 ||| c527.1)]) (h' := (HM P c527.2 T)) (cs' := 0) (sl' := 0) rfl ?_
        obtain ⟨v529, hq, h⟩ := ai_bdE h
        refine ev_iald rfl rfl hq ?_
        refine ev_go 5 (pc' := 144) (L' := [some (.ref 89), some (.int y507), some (.int y508), some (.int (y509 ||| c527.1)), some (.int y510)]) (st' := [.int (111 + y510), .ref 90, .int v529, .int v528, .ref 89, .int (y509 ||| c527.1)]) (h' := (HM P c527.2 T)) (cs' := 0) (sl' := 0) rfl ?_
        obtain ⟨v530, hq, h⟩ := ai_bdE h
        refine ev_iald rfl rfl hq ?_
        obtain ⟨c531, hq, h⟩ := ai_bdE h
        refine ev_call (M' := mm_comesTo) (L' := [some (.ref 89), some (.int v528), some (.int v529), some (.int v530), none]) (rest := [.int (y509 ||| c527.1)]) (rv := some (.int c531.1)) (h' := (HM P c531.2 T)) rfl (Em_comesTo_89 v528 v529 v530 c527.2 _ _ hq P T) ?_
        show ai_ev D1 mm_soonest 148 [some (.ref 89), some (.int y507), some (.int y508), some (.int (y509 ||| c527.1)), some (.int y510)] [.int c531.1, .int (y509 ||| c527.1)] (HM P c531.2 T) 0 0 _
        refine ev_go 4 (pc' := 65) (L' := [some (.ref 89), some (.int y507), some (.int y508), some (.int ((y509 ||| c527.1) ||| c531.1)), some (.int (y510 + 1))]) (st' := []) (h' := (HM P c531.2 T)) (cs' := 0) (sl' := 0) rfl ?_
        exact ih2 _ _ _ _ _ _ _ h P T
    · intro y532 y533 y534 y535 w r w' h P T
      simp only [Gm_soonest_89] at h
      refine ev_go 7 (pc' := 171) (L' := [some (.ref 89), some (.int y532), some (.int y533), some (.int y534), some (.int y535)]) (st' := [.int 0, .ref 90, .int 10, .int (y535 + 10)]) (h' := (HM P w T)) (cs' := 0) (sl' := 0) rfl ?_
      obtain ⟨v536, hq, h⟩ := ai_bdE h
      refine ev_iald rfl rfl hq ?_
      refine ev_go 1 (pc' := 173) (L' := [some (.ref 89), some (.int y532), some (.int y533), some (.int y534), some (.int y535)]) (st' := [.int (10 * v536), .int (y535 + 10)]) (h' := (HM P w T)) (cs' := 0) (sl' := 0) rfl ?_
      rcases ai_ifE h with ⟨hc, h⟩ | ⟨hc, h⟩
      · refine ev_ic_ge (t := 244) rfl rfl (fun _ => ?_) (fun c9 => absurd hc c9)
        refine ev_go 1 (pc' := 56) (L' := [some (.ref 89), some (.int y532), some (.int y533), some (.int y534), some (.int y535)]) (st' := []) (h' := (HM P w T)) (cs' := 0) (sl' := 0) rfl ?_
        exact ih1 _ _ _ _ _ _ h P T _
      · refine ev_ic_ge (t := 244) rfl rfl (fun c9 => absurd c9 hc) (fun _ => ?_)
        refine ev_go 3 (pc' := 181) (L' := [some (.ref 89), some (.int y532), some (.int y533), some (.int y534), some (.int y535)]) (st' := [.int (y535 - y535 / 10 * 10)]) (h' := (HM P w T)) (cs' := 0) (sl' := 0) rfl ?_
        obtain ⟨c537, hq, h⟩ := ai_bdE h
        refine ev_call (M' := mm_isLayer) (L' := [some (.int (y535 - y535 / 10 * 10))]) (rest := []) (rv := some (.int c537)) (h' := (HM P w T)) rfl (Em_isLayer (y535 - y535 / 10 * 10) _ hq (HM P w T)) ?_
        show ai_ev D1 mm_soonest 184 [some (.ref 89), some (.int y532), some (.int y533), some (.int y534), some (.int y535)] [.int c537] (HM P w T) 0 0 _
        rcases ai_ifE h with ⟨hc, h⟩ | ⟨hc, h⟩
        · refine ev_if_eq (t := 238) rfl rfl (fun _ => ?_) (fun c9 => absurd hc c9)
          refine ev_go 2 (pc' := 159) (L' := [some (.ref 89), some (.int y532), some (.int y533), some (.int y534), some (.int (y535 + 1))]) (st' := []) (h' := (HM P w T)) (cs' := 0) (sl' := 0) rfl ?_
          exact ih3 _ _ _ _ _ _ _ h P T
        · refine ev_if_eq (t := 238) rfl rfl (fun c9 => absurd c9 hc) (fun _ => ?_)
          refine ev_go 2 (pc' := 190) (L' := [some (.ref 89), some (.int y532), some (.int y533), some (.int y534), some (.int y535)]) (st' := [.int y535, .ref 89]) (h' := (HM P w T)) (cs' := 0) (sl' := 0) rfl ?_
          obtain ⟨c541, hq, h⟩ := ai_bdE h
          refine ev_call (M' := mm_isThick) (L' := [some (.ref 89), some (.int y535)]) (rest := []) (rv := some (.int c541.1)) (h' := (HM P c541.2 T)) rfl (Em_isThick_89 y535 w _ _ hq P T) ?_
          show ai_ev D1 mm_soonest 193 [some (.ref 89), some (.int y532), some (.int y533), some (.int y534), some (.int y535)] [.int c541.1] (HM P c541.2 T) 0 0 _
          rcases ai_ifE h with ⟨hc, h⟩ | ⟨hc, h⟩
          · refine ev_if_eq (t := 238) rfl rfl (fun _ => ?_) (fun c9 => absurd hc c9)
            refine ev_go 2 (pc' := 159) (L' := [some (.ref 89), some (.int y532), some (.int y533), some (.int y534), some (.int (y535 + 1))]) (st' := []) (h' := (HM P c541.2 T)) (cs' := 0) (sl' := 0) rfl ?_
            exact ih3 _ _ _ _ _ _ _ h P T
          · refine ev_if_eq (t := 238) rfl rfl (fun c9 => absurd c9 hc) (fun _ => ?_)
            refine ev_go 4 (pc' := 202) (L' := [some (.ref 89), some (.int y532), some (.int y533), some (.int y534), some (.int y535)]) (st' := [.int (y535 + 10), .ref 89]) (h' := (HM P c541.2 T)) (cs' := 0) (sl' := 0) rfl ?_
            obtain ⟨c542, hq, h⟩ := ai_bdE h
            refine ev_call (M' := mm_isThick) (L' := [some (.ref 89), some (.int (y535 + 10))]) (rest := []) (rv := some (.int c542.1)) (h' := (HM P c542.2 T)) rfl (Em_isThick_89 (y535 + 10) c541.2 _ _ hq P T) ?_
            show ai_ev D1 mm_soonest 205 [some (.ref 89), some (.int y532), some (.int y533), some (.int y534), some (.int y535)] [.int c542.1] (HM P c542.2 T) 0 0 _
            rcases ai_ifE h with ⟨hc, h⟩ | ⟨hc, h⟩
            · refine ev_if_eq (t := 238) rfl rfl (fun _ => ?_) (fun c9 => absurd hc c9)
              refine ev_go 2 (pc' := 159) (L' := [some (.ref 89), some (.int y532), some (.int y533), some (.int y534), some (.int (y535 + 1))]) (st' := []) (h' := (HM P c542.2 T)) (cs' := 0) (sl' := 0) rfl ?_
              exact ih3 _ _ _ _ _ _ _ h P T
            · refine ev_if_eq (t := 238) rfl rfl (fun c9 => absurd c9 hc) (fun _ => ?_)
              refine ev_go 7 (pc' := 218) (L' := [some (.ref 89), some (.int y532), some (.int y533), some (.int y534), some (.int y535)]) (st' := [.int 3, .int (y535 + 10), .int y535, .ref 89, .int y534]) (h' := (HM P c542.2 T)) (cs' := 0) (sl' := 0) rfl ?_
              obtain ⟨c543, hq, h⟩ := ai_bdE h
              refine ev_call (M' := mm_comesTo) (L' := [some (.ref 89), some (.int y535), some (.int (y535 + 10)), some (.int 3), none]) (rest := [.int y534]) (rv := some (.int c543.1)) (h' := (HM P c543.2 T)) rfl (Em_comesTo_89 y535 (y535 + 10) 3 c542.2 _ _ hq P T) ?_
              show ai_ev D1 mm_soonest 221 [some (.ref 89), some (.int y532), some (.int y533), some (.int y534), some (.int y535)] [.int c543.1, .int y534] (HM P c543.2 T) 0 0 _
              refine ev_go 9 (pc' := 233) (L' := [some (.ref 89), some (.int y532), some (.int y533), some (.int (y534 ||| c543.1)), some (.int y535)]) (st' := [.int 3, .int y535, .int (y535 + 10), .ref 89, .int (y534 ||| c543.1)]) (h' := (HM P c543.2 T)) (cs' := 0) (sl' := 0) rfl ?_
              obtain ⟨c544, hq, h⟩ := ai_bdE h
              refine ev_call (M' := mm_comesTo) (L' := [some (.ref 89), some (.int (y535 + 10)), some (.int y535), some (.int 3), none]) (rest := [.int (y534 ||| c543.1)]) (rv := some (.int c544.1)) (h' := (HM P c544.2 T)) rfl (Em_comesTo_89 (y535 + 10) y535 3 c543.2 _ _ hq P T) ?_
              show ai_ev D1 mm_soonest 236 [some (.ref 89), some (.int y532), some (.int y533), some (.int (y534 ||| c543.1)), some (.int y535)] [.int c544.1, .int (y534 ||| c543.1)] (HM P c544.2 T) 0 0 _
              refine ev_go 4 (pc' := 159) (L' := [some (.ref 89), some (.int y532), some (.int y533), some (.int ((y534 ||| c543.1) ||| c544.1)), some (.int (y535 + 1))]) (st' := []) (h' := (HM P c544.2 T)) (cs' := 0) (sl' := 0) rfl ?_
              exact ih3 _ _ _ _ _ _ _ h P T
set_option maxHeartbeats 40000000 in
set_option maxRecDepth 100000 in
theorem Em_soonest_89 (n : Nat) (x491 : Int32) (x492 : Int32) (w : WM) (r : Int32) (w' : WM) (h : Fm_soonest_89 n x491 x492 w = some (r, w')) (P : Nat → ai_E) (T : ai_H) : ai_ev D1 mm_soonest 0 [some (.ref 89), some (.int x491), some (.int x492), none, none] [] (HM P w T) 0 0 (some (.int r), HM P w' T) := by
  unfold Fm_soonest_89 at h
  obtain ⟨ih0, ih1, ih2, ih3⟩ := EGm_soonest_89 n
  refine ev_go 3 (pc' := 3) (L' := [some (.ref 89), some (.int x491), some (.int x492), none, none]) (st' := [.int x491, .int 0, .ref 89]) (h' := (HM P w T)) (cs' := 0) (sl' := 0) rfl ?_
  obtain ⟨c493, hq, h⟩ := ai_bdE h
  refine ev_call (M' := mm_isPlaceOf) (L' := [some (.ref 89), some (.int 0), some (.int x491)]) (rest := []) (rv := some (.int c493.1)) (h' := (HM P c493.2 T)) rfl (Em_isPlaceOf_89 0 x491 w _ _ hq P T) ?_
  show ai_ev D1 mm_soonest 6 [some (.ref 89), some (.int x491), some (.int x492), none, none] [.int c493.1] (HM P c493.2 T) 0 0 _
  rcases ai_ifE h with ⟨hc, h⟩ | ⟨hc, h⟩
  · refine ev_if_eq (t := 18) rfl rfl (fun _ => ?_) (fun c9 => absurd hc c9)
    refine ev_go 1 (pc' := 19) (L' := [some (.ref 89), some (.int x491), some (.int x492), none, none]) (st' := [.ref 89]) (h' := (HM P c493.2 T)) (cs' := 0) (sl' := 0) rfl ?_
    obtain ⟨c494, hq, h⟩ := ai_bdE h
    refine ev_call (M' := mm_bad) (L' := [some (.ref 89)]) (rest := []) (rv := some (.int c494.1)) (h' := (HM P c494.2 T)) rfl (Em_bad_89 c493.2 _ _ hq P T) ?_
    show ai_ev D1 mm_soonest 22 [some (.ref 89), some (.int x491), some (.int x492), none, none] [.int c494.1] (HM P c494.2 T) 0 0 _
    obtain ⟨rfl, rfl⟩ := ai_smP h
    exact ev_end rfl
  · refine ev_if_eq (t := 18) rfl rfl (fun c9 => absurd c9 hc) (fun _ => ?_)
    refine ev_go 3 (pc' := 12) (L' := [some (.ref 89), some (.int x491), some (.int x492), none, none]) (st' := [.int x492, .int 0, .ref 89]) (h' := (HM P c493.2 T)) (cs' := 0) (sl' := 0) rfl ?_
    obtain ⟨c495, hq, h⟩ := ai_bdE h
    refine ev_call (M' := mm_isPlaceOf) (L' := [some (.ref 89), some (.int 0), some (.int x492)]) (rest := []) (rv := some (.int c495.1)) (h' := (HM P c495.2 T)) rfl (Em_isPlaceOf_89 0 x492 c493.2 _ _ hq P T) ?_
    show ai_ev D1 mm_soonest 15 [some (.ref 89), some (.int x491), some (.int x492), none, none] [.int c495.1] (HM P c495.2 T) 0 0 _
    rcases ai_ifE h with ⟨hc, h⟩ | ⟨hc, h⟩
    · refine ev_if_ne (t := 23) rfl rfl (fun c9 => absurd hc c9) (fun _ => ?_)
      refine ev_go 1 (pc' := 19) (L' := [some (.ref 89), some (.int x491), some (.int x492), none, none]) (st' := [.ref 89]) (h' := (HM P c495.2 T)) (cs' := 0) (sl' := 0) rfl ?_
      obtain ⟨c496, hq, h⟩ := ai_bdE h
      refine ev_call (M' := mm_bad) (L' := [some (.ref 89)]) (rest := []) (rv := some (.int c496.1)) (h' := (HM P c496.2 T)) rfl (Em_bad_89 c495.2 _ _ hq P T) ?_
      show ai_ev D1 mm_soonest 22 [some (.ref 89), some (.int x491), some (.int x492), none, none] [.int c496.1] (HM P c496.2 T) 0 0 _
      obtain ⟨rfl, rfl⟩ := ai_smP h
      exact ev_end rfl
    · refine ev_if_ne (t := 23) rfl rfl (fun _ => ?_) (fun c9 => absurd c9 hc)
      refine ev_go 2 (pc' := 25) (L' := [some (.ref 89), some (.int x491), some (.int x492), some (.int 0), none]) (st' := []) (h' := (HM P c495.2 T)) (cs' := 0) (sl' := 0) rfl ?_
      exact ih0 _ _ _ _ _ _ h P T _
set_option maxHeartbeats 40000000 in
set_option maxRecDepth 100000 in
theorem EGm_ceilingOf_89 : ∀ n : Nat, (∀ (y550 : Int32) (y551 : Int32) (y552 : Int32) (y553 : Int32) (w : WM) (r : Int32) (w' : WM), Gm_ceilingOf_89 n 0 y550 y551 y552 y553 w = some (r, w') → ∀ (P : Nat → ai_E) (T : ai_H) (o5 o6 : Option Value), ai_ev D1 mm_ceilingOf 15 [some (.ref 89), some (.int y550), some (.int y551), some (.int y552), some (.int y553), o5, o6] [] (HM P w T) 0 0 (some (.int r), HM P w' T)) := by
  intro n
  induction n with
  | zero =>
    exact (fun _ _ _ _ _ _ _ h => by cases h)
  | succ n ih0 =>
    intro y550 y551 y552 y553 w r w' h P T o5 o6
    simp only [Gm_ceilingOf_89] at h
    refine ev_go 4 (pc' := 22) (L' := [some (.ref 89), some (.int y550), some (.int y551), some (.int y552), some (.int y553), o5, o6]) (st' := [.int 4, .ref 90, .int y553]) (h' := (HM P w T)) (cs' := 0) (sl' := 0) rfl ?_
    obtain ⟨v554, hq, h⟩ := ai_bdE h
    refine ev_iald rfl rfl hq ?_
    rcases ai_ifE h with ⟨hc, h⟩ | ⟨hc, h⟩
    · refine ev_ic_ge (t := 100) rfl rfl (fun _ => ?_) (fun c9 => absurd hc c9)
      refine ev_go 1 (pc' := 101) (L' := [some (.ref 89), some (.int y550), some (.int y551), some (.int y552), some (.int y553), o5, o6]) (st' := [.int y551]) (h' := (HM P w T)) (cs' := 0) (sl' := 0) rfl ?_
      obtain ⟨rfl, rfl⟩ := ai_smP h
      exact ev_end rfl
    · refine ev_ic_ge (t := 100) rfl rfl (fun c9 => absurd c9 hc) (fun _ => ?_)
      refine ev_go 5 (pc' := 35) (L' := [some (.ref 89), some (.int y550), some (.int y551), some (.int y552), some (.int y553), o5, o6]) (st' := [.int (121 + y553), .ref 90]) (h' := (HM P w T)) (cs' := 0) (sl' := 0) rfl ?_
      obtain ⟨v555, hq, h⟩ := ai_bdE h
      refine ev_iald rfl rfl hq ?_
      refine ev_go 7 (pc' := 47) (L' := [some (.ref 89), some (.int y550), some (.int y551), some (.int y552), some (.int y553), some (.int v555), o6]) (st' := [.int (y552 / 10), .int (v555 / 10)]) (h' := (HM P w T)) (cs' := 0) (sl' := 0) rfl ?_
      rcases ai_ifE h with ⟨hc, h⟩ | ⟨hc, h⟩
      · refine ev_ic_ne (t := 60) rfl rfl (fun c9 => absurd hc c9) (fun _ => ?_)
        refine ev_go 2 (pc' := 53) (L' := [some (.ref 89), some (.int y550), some (.int y551), some (.int y552), some (.int y553), some (.int v555), o6]) (st' := [.int y552, .int v555]) (h' := (HM P w T)) (cs' := 0) (sl' := 0) rfl ?_
        rcases ai_ifE h with ⟨hc, h⟩ | ⟨hc, h⟩
        · refine ev_ic_ge (t := 60) rfl rfl (fun _ => ?_) (fun c9 => absurd hc c9)
          refine ev_go 8 (pc' := 15) (L' := [some (.ref 89), some (.int y550), some (.int y551), some (.int y552), some (.int (y553 + 1)), some (.int v555), some (.int 0)]) (st' := []) (h' := (HM P w T)) (cs' := 0) (sl' := 0) rfl ?_
          exact ih0 _ _ _ _ _ _ _ h P T _ _
        · refine ev_ic_ge (t := 60) rfl rfl (fun c9 => absurd c9 hc) (fun _ => ?_)
          refine ev_go 7 (pc' := 70) (L' := [some (.ref 89), some (.int y550), some (.int y551), some (.int y552), some (.int y553), some (.int v555), some (.int 1)]) (st' := [.int (-1), .int y551]) (h' := (HM P w T)) (cs' := 0) (sl' := 0) rfl ?_
          rcases ai_ifE h with ⟨hc, h⟩ | ⟨hc, h⟩
          · refine ev_ic_eq (t := 87) rfl rfl (fun _ => ?_) (fun c9 => absurd hc c9)
            refine ev_go 5 (pc' := 15) (L' := [some (.ref 89), some (.int y550), some (.int y553), some (.int y552), some (.int (y553 + 1)), some (.int v555), some (.int 1)]) (st' := []) (h' := (HM P w T)) (cs' := 0) (sl' := 0) rfl ?_
            exact ih0 _ _ _ _ _ _ _ h P T _ _
          · refine ev_ic_eq (t := 87) rfl rfl (fun c9 => absurd c9 hc) (fun _ => ?_)
            refine ev_go 6 (pc' := 83) (L' := [some (.ref 89), some (.int y550), some (.int y551), some (.int y552), some (.int y553), some (.int v555), some (.int 1)]) (st' := [.int (121 + y551), .ref 90, .int v555]) (h' := (HM P w T)) (cs' := 0) (sl' := 0) rfl ?_
            obtain ⟨v556, hq, h⟩ := ai_bdE h
            refine ev_iald rfl rfl hq ?_
            rcases ai_ifE h with ⟨hc, h⟩ | ⟨hc, h⟩
            · refine ev_ic_le (t := 92) rfl rfl (fun _ => ?_) (fun c9 => absurd hc c9)
              refine ev_go 4 (pc' := 15) (L' := [some (.ref 89), some (.int y550), some (.int y551), some (.int y552), some (.int (y553 + 1)), some (.int v555), some (.int 1)]) (st' := []) (h' := (HM P w T)) (cs' := 0) (sl' := 0) rfl ?_
              exact ih0 _ _ _ _ _ _ _ h P T _ _
            · refine ev_ic_le (t := 92) rfl rfl (fun c9 => absurd c9 hc) (fun _ => ?_)
              refine ev_go 5 (pc' := 15) (L' := [some (.ref 89), some (.int y550), some (.int y553), some (.int y552), some (.int (y553 + 1)), some (.int v555), some (.int 1)]) (st' := []) (h' := (HM P w T)) (cs' := 0) (sl' := 0) rfl ?_
              exact ih0 _ _ _ _ _ _ _ h P T _ _
      · refine ev_ic_ne (t := 60) rfl rfl (fun _ => ?_) (fun c9 => absurd c9 hc)
        refine ev_go 8 (pc' := 15) (L' := [some (.ref 89), some (.int y550), some (.int y551), some (.int y552), some (.int (y553 + 1)), some (.int v555), some (.int 0)]) (st' := []) (h' := (HM P w T)) (cs' := 0) (sl' := 0) rfl ?_
        exact ih0 _ _ _ _ _ _ _ h P T _ _
set_option maxHeartbeats 40000000 in
set_option maxRecDepth 100000 in
theorem Em_ceilingOf_89 (n : Nat) (x548 : Int32) (w : WM) (r : Int32) (w' : WM) (h : Fm_ceilingOf_89 n x548 w = some (r, w')) (P : Nat → ai_E) (T : ai_H) : ai_ev D1 mm_ceilingOf 0 [some (.ref 89), some (.int x548), none, none, none, none, none] [] (HM P w T) 0 0 (some (.int r), HM P w' T) := by
  unfold Fm_ceilingOf_89 at h
  have ih0 := EGm_ceilingOf_89 n
  refine ev_go 7 (pc' := 10) (L' := [some (.ref 89), some (.int x548), some (.int (-1)), none, none, none, none]) (st' := [.int (121 + x548), .ref 90]) (h' := (HM P w T)) (cs' := 0) (sl' := 0) rfl ?_
  obtain ⟨v549, hq, h⟩ := ai_bdE h
  refine ev_iald rfl rfl hq ?_
  refine ev_go 3 (pc' := 15) (L' := [some (.ref 89), some (.int x548), some (.int (-1)), some (.int v549), some (.int 0), none, none]) (st' := []) (h' := (HM P w T)) (cs' := 0) (sl' := 0) rfl ?_
  exact ih0 _ _ _ _ _ _ _ h P T _ _
set_option maxHeartbeats 40000000 in
set_option maxRecDepth 100000 in
theorem Em_duesOf_89 (x558 : Int32) (w : WM) (r : Int32) (w' : WM) (h : Fm_duesOf_89 x558 w = some (r, w')) (P : Nat → ai_E) (T : ai_H) : ai_ev D1 mm_duesOf 0 [some (.ref 89), some (.int x558), none] [] (HM P w T) 0 0 (some (.int r), HM P w' T) := by
  unfold Fm_duesOf_89 at h
  refine ev_go 5 (pc' := 8) (L' := [some (.ref 89), some (.int x558), none]) (st' := [.int (121 + x558), .ref 90]) (h' := (HM P w T)) (cs' := 0) (sl' := 0) rfl ?_
  obtain ⟨v559, hq, h⟩ := ai_bdE h
  refine ev_iald rfl rfl hq ?_
  refine ev_go 11 (pc' := 24) (L' := [some (.ref 89), some (.int x558), some (.int v559)]) (st' := [.int 1, .ref 90, .int (v559 / 10), .int (v559 - v559 / 10 * 10), .ref 89]) (h' := (HM P w T)) (cs' := 0) (sl' := 0) rfl ?_
  obtain ⟨v560, hq, h⟩ := ai_bdE h
  refine ev_iald rfl rfl hq ?_
  obtain ⟨c561, hq, h⟩ := ai_bdE h
  refine ev_call (M' := mm_thickIn) (L' := [some (.ref 89), some (.int (v559 - v559 / 10 * 10)), some (.int (v559 / 10)), some (.int v560), none]) (rest := []) (rv := some (.int c561.1)) (h' := (HM P c561.2 T)) rfl (Em_thickIn_89 (v559 - v559 / 10 * 10) (v559 / 10) v560 w _ _ hq P T) ?_
  show ai_ev D1 mm_duesOf 28 [some (.ref 89), some (.int x558), some (.int v559)] [.int c561.1] (HM P c561.2 T) 0 0 _
  obtain ⟨rfl, rfl⟩ := ai_smP h
  exact ev_end rfl
set_option maxHeartbeats 40000000 in
set_option maxRecDepth 100000 in
theorem EGm_net_89 : ∀ n : Nat, (∀ (y564 : Int32) (y565 : Int32) (y566 : Int32) (w : WM) (r : Int32) (w' : WM), Gm_net_89 n 0 y564 y565 y566 w = some (r, w') → ∀ (P : Nat → ai_E) (T : ai_H), ai_ev D1 mm_net 48 [some (.ref 89), some (.int y564), some (.int y565), some (.int y566)] [] (HM P w T) 0 0 (some (.int r), HM P w' T)) := by
  intro n
  induction n with
  | zero =>
    exact (fun _ _ _ _ _ _ h => by cases h)
  | succ n ih0 =>
    intro y564 y565 y566 w r w' h P T
    simp only [Gm_net_89] at h
    refine ev_go 4 (pc' := 54) (L' := [some (.ref 89), some (.int y564), some (.int y565), some (.int y566)]) (st' := [.int 4, .ref 90, .int y566]) (h' := (HM P w T)) (cs' := 0) (sl' := 0) rfl ?_
    obtain ⟨v567, hq, h⟩ := ai_bdE h
    refine ev_iald rfl rfl hq ?_
    rcases ai_ifE h with ⟨hc, h⟩ | ⟨hc, h⟩
    · refine ev_ic_ge (t := 85) rfl rfl (fun _ => ?_) (fun c9 => absurd hc c9)
      refine ev_go 1 (pc' := 86) (L' := [some (.ref 89), some (.int y564), some (.int y565), some (.int y566)]) (st' := [.int y565]) (h' := (HM P w T)) (cs' := 0) (sl' := 0) rfl ?_
      obtain ⟨rfl, rfl⟩ := ai_smP h
      exact ev_end rfl
    · refine ev_ic_ge (t := 85) rfl rfl (fun c9 => absurd c9 hc) (fun _ => ?_)
      refine ev_go 3 (pc' := 61) (L' := [some (.ref 89), some (.int y564), some (.int y565), some (.int y566)]) (st' := [.int y566, .ref 89, .int y565]) (h' := (HM P w T)) (cs' := 0) (sl' := 0) rfl ?_
      obtain ⟨c568, hq, h⟩ := ai_bdE h
      refine ev_call (M' := mm_ceilingOf) (L' := [some (.ref 89), some (.int y566), none, none, none, none, none]) (rest := [.int y565]) (rv := some (.int c568.1)) (h' := (HM P c568.2 T)) rfl (Em_ceilingOf_89 n y566 w _ _ hq P T) ?_
      show ai_ev D1 mm_net 64 [some (.ref 89), some (.int y564), some (.int y565), some (.int y566)] [.int c568.1, .int y565] (HM P c568.2 T) 0 0 _
      refine ev_go 1 (pc' := 65) (L' := [some (.ref 89), some (.int y564), some (.int y565), some (.int y566)]) (st' := [.int y564, .int c568.1, .int y565]) (h' := (HM P c568.2 T)) (cs' := 0) (sl' := 0) rfl ?_
      rcases ai_ifE h with ⟨hc, h⟩ | ⟨hc, h⟩
      · refine ev_ic_ne (t := 76) rfl rfl (fun c9 => absurd hc c9) (fun _ => ?_)
        refine ev_go 2 (pc' := 70) (L' := [some (.ref 89), some (.int y564), some (.int y565), some (.int y566)]) (st' := [.int y566, .ref 89, .int y565]) (h' := (HM P c568.2 T)) (cs' := 0) (sl' := 0) rfl ?_
        obtain ⟨c569, hq, h⟩ := ai_bdE h
        refine ev_call (M' := mm_duesOf) (L' := [some (.ref 89), some (.int y566), none]) (rest := [.int y565]) (rv := some (.int c569.1)) (h' := (HM P c569.2 T)) rfl (Em_duesOf_89 y566 c568.2 _ _ hq P T) ?_
        show ai_ev D1 mm_net 73 [some (.ref 89), some (.int y564), some (.int y565), some (.int y566)] [.int c569.1, .int y565] (HM P c569.2 T) 0 0 _
        refine ev_go 5 (pc' := 48) (L' := [some (.ref 89), some (.int y564), some (.int (y565 + c569.1)), some (.int (y566 + 1))]) (st' := []) (h' := (HM P c569.2 T)) (cs' := 0) (sl' := 0) rfl ?_
        exact ih0 _ _ _ _ _ _ h P T
      · refine ev_ic_ne (t := 76) rfl rfl (fun _ => ?_) (fun c9 => absurd c9 hc)
        refine ev_go 5 (pc' := 48) (L' := [some (.ref 89), some (.int y564), some (.int (y565 + 0)), some (.int (y566 + 1))]) (st' := []) (h' := (HM P c568.2 T)) (cs' := 0) (sl' := 0) rfl ?_
        exact ih0 _ _ _ _ _ _ h P T
set_option maxHeartbeats 40000000 in
set_option maxRecDepth 100000 in
theorem Em_net_89 (n : Nat) (x545 : Int32) (w : WM) (r : Int32) (w' : WM) (h : Fm_net_89 n x545 w = some (r, w')) (P : Nat → ai_E) (T : ai_H) : ai_ev D1 mm_net 0 [some (.ref 89), some (.int x545), none, none] [] (HM P w T) 0 0 (some (.int r), HM P w' T) := by
  unfold Fm_net_89 at h
  have ih0 := EGm_net_89 n
  refine ev_go 6 (pc' := 8) (L' := [some (.ref 89), some (.int x545), none, none]) (st' := [.int 4, .ref 90, .long 0, .long (x545).toInt64]) (h' := (HM P w T)) (cs' := 0) (sl' := 0) rfl ?_
  obtain ⟨v546, hq, h⟩ := ai_bdE h
  refine ev_iald rfl rfl hq ?_
  refine ev_go 3 (pc' := 12) (L' := [some (.ref 89), some (.int x545), none, none]) (st' := [.long ((v546 - 1)).toInt64, .long 0, .long (x545).toInt64]) (h' := (HM P w T)) (cs' := 0) (sl' := 0) rfl ?_
  obtain ⟨c547, hq, h⟩ := ai_bdE h
  refine ev_call (M' := mm_in) (L' := [some (.long (x545).toInt64), none, some (.long 0), none, some (.long ((v546 - 1)).toInt64), none]) (rest := []) (rv := some (.int c547)) (h' := (HM P w T)) rfl (Em_in (x545).toInt64 0 ((v546 - 1)).toInt64 _ hq (HM P w T)) ?_
  show ai_ev D1 mm_net 15 [some (.ref 89), some (.int x545), none, none] [.int c547] (HM P w T) 0 0 _
  rcases ai_ifE h with ⟨hc, h⟩ | ⟨hc, h⟩
  · refine ev_if_ne (t := 26) rfl rfl (fun c9 => absurd hc c9) (fun _ => ?_)
    refine ev_go 2 (pc' := 22) (L' := [some (.ref 89), some (.int x545), none, none]) (st' := [.int (-1000), .ref 89]) (h' := (HM P w T)) (cs' := 0) (sl' := 0) rfl ?_
    obtain ⟨c563, hq, h⟩ := ai_bdE h
    refine ev_call (M' := mm_badAs) (L' := [some (.ref 89), some (.int (-1000))]) (rest := []) (rv := some (.int c563.1)) (h' := (HM P c563.2 T)) rfl (Em_badAs_89 (-1000) w _ _ hq P T) ?_
    show ai_ev D1 mm_net 25 [some (.ref 89), some (.int x545), none, none] [.int c563.1] (HM P c563.2 T) 0 0 _
    obtain ⟨rfl, rfl⟩ := ai_smP h
    exact ev_end rfl
  · refine ev_if_ne (t := 26) rfl rfl (fun _ => ?_) (fun c9 => absurd c9 hc)
    refine ev_go 2 (pc' := 28) (L' := [some (.ref 89), some (.int x545), none, none]) (st' := [.int x545, .ref 89]) (h' := (HM P w T)) (cs' := 0) (sl' := 0) rfl ?_
    obtain ⟨c557, hq, h⟩ := ai_bdE h
    refine ev_call (M' := mm_ceilingOf) (L' := [some (.ref 89), some (.int x545), none, none, none, none, none]) (rest := []) (rv := some (.int c557.1)) (h' := (HM P c557.2 T)) rfl (Em_ceilingOf_89 n x545 w _ _ hq P T) ?_
    show ai_ev D1 mm_net 31 [some (.ref 89), some (.int x545), none, none] [.int c557.1] (HM P c557.2 T) 0 0 _
    refine ev_go 1 (pc' := 32) (L' := [some (.ref 89), some (.int x545), none, none]) (st' := [.int (-1), .int c557.1]) (h' := (HM P c557.2 T)) (cs' := 0) (sl' := 0) rfl ?_
    rcases ai_ifE h with ⟨hc, h⟩ | ⟨hc, h⟩
    · refine ev_ic_ne (t := 39) rfl rfl (fun c9 => absurd hc c9) (fun _ => ?_)
      refine ev_go 5 (pc' := 48) (L' := [some (.ref 89), some (.int x545), some (.int 0), some (.int 0)]) (st' := []) (h' := (HM P c557.2 T)) (cs' := 0) (sl' := 0) rfl ?_
      exact ih0 _ _ _ _ _ _ h P T
    · refine ev_ic_ne (t := 39) rfl rfl (fun _ => ?_) (fun c9 => absurd c9 hc)
      refine ev_go 2 (pc' := 41) (L' := [some (.ref 89), some (.int x545), none, none]) (st' := [.int x545, .ref 89]) (h' := (HM P c557.2 T)) (cs' := 0) (sl' := 0) rfl ?_
      obtain ⟨c562, hq, h⟩ := ai_bdE h
      refine ev_call (M' := mm_duesOf) (L' := [some (.ref 89), some (.int x545), none]) (rest := []) (rv := some (.int c562.1)) (h' := (HM P c562.2 T)) rfl (Em_duesOf_89 x545 c557.2 _ _ hq P T) ?_
      show ai_ev D1 mm_net 44 [some (.ref 89), some (.int x545), none, none] [.int c562.1] (HM P c562.2 T) 0 0 _
      refine ev_go 4 (pc' := 48) (L' := [some (.ref 89), some (.int x545), some (.int (-c562.1)), some (.int 0)]) (st' := []) (h' := (HM P c562.2 T)) (cs' := 0) (sl' := 0) rfl ?_
      exact ih0 _ _ _ _ _ _ h P T
set_option maxHeartbeats 40000000 in
set_option maxRecDepth 100000 in
theorem EGm_laySpill_89 : ∀ n : Nat, (∀ (y583 : Int32) (y584 : Int32) (y585 : Int32) (w : WM) (w' : WM), Gm_laySpill_89 n 0 y583 y584 y585 w = some w' → ∀ (P : Nat → ai_E) (T : ai_H), ai_ev D1 mm_laySpill 2 [some (.ref 89), some (.int y583), some (.int y584), some (.int y585)] [] (HM P w T) 0 0 (none, HM P w' T)) := by
  intro n
  induction n with
  | zero =>
    exact (fun _ _ _ _ _ h => by cases h)
  | succ n ih0 =>
    intro y583 y584 y585 w w' h P T
    simp only [Gm_laySpill_89] at h
    refine ev_go 2 (pc' := 5) (L' := [some (.ref 89), some (.int y583), some (.int y584), some (.int y585)]) (st' := [.int 6, .int y585]) (h' := (HM P w T)) (cs' := 0) (sl' := 0) rfl ?_
    rcases ai_ifE h with ⟨hc, h⟩ | ⟨hc, h⟩
    · refine ev_ic_ge (t := 30) rfl rfl (fun _ => ?_) (fun c9 => absurd hc c9)
      obtain rfl := Option.some.inj h
      exact ev_end rfl
    · refine ev_ic_ge (t := 30) rfl rfl (fun c9 => absurd c9 hc) (fun _ => ?_)
      refine ev_go 5 (pc' := 15) (L' := [some (.ref 89), some (.int y583), some (.int y584), some (.int y585)]) (st' := [.int y583, .int y585, .int y585, .ref 96]) (h' := (HM P w T)) (cs' := 0) (sl' := 0) rfl ?_
      rcases ai_ifE h with ⟨hc, h⟩ | ⟨hc, h⟩
      · refine ev_ic_ne (t := 22) rfl rfl (fun c9 => absurd hc c9) (fun _ => ?_)
        refine ev_go 2 (pc' := 23) (L' := [some (.ref 89), some (.int y583), some (.int y584), some (.int y585)]) (st' := [.int y584, .int y585, .ref 96]) (h' := (HM P w T)) (cs' := 0) (sl' := 0) rfl ?_
        obtain ⟨q587, hq, h⟩ := ai_bdE h
        refine ev_iast rfl rfl hq ?_
        rw [HMs_96]
        refine ev_go 2 (pc' := 2) (L' := [some (.ref 89), some (.int y583), some (.int y584), some (.int (y585 + 1))]) (st' := []) (h' := (HM P (u_m_there w q587) T)) (cs' := 0) (sl' := 0) rfl ?_
        exact ih0 _ _ _ _ _ h P T
      · refine ev_ic_ne (t := 22) rfl rfl (fun _ => ?_) (fun c9 => absurd c9 hc)
        refine ev_go 1 (pc' := 23) (L' := [some (.ref 89), some (.int y583), some (.int y584), some (.int y585)]) (st' := [.int 0, .int y585, .ref 96]) (h' := (HM P w T)) (cs' := 0) (sl' := 0) rfl ?_
        obtain ⟨q586, hq, h⟩ := ai_bdE h
        refine ev_iast rfl rfl hq ?_
        rw [HMs_96]
        refine ev_go 2 (pc' := 2) (L' := [some (.ref 89), some (.int y583), some (.int y584), some (.int (y585 + 1))]) (st' := []) (h' := (HM P (u_m_there w q586) T)) (cs' := 0) (sl' := 0) rfl ?_
        exact ih0 _ _ _ _ _ h P T
set_option maxHeartbeats 40000000 in
set_option maxRecDepth 100000 in
theorem Em_laySpill_89 (n : Nat) (x581 : Int32) (x582 : Int32) (w : WM) (w' : WM) (h : Fm_laySpill_89 n x581 x582 w = some w') (P : Nat → ai_E) (T : ai_H) : ai_ev D1 mm_laySpill 0 [some (.ref 89), some (.int x581), some (.int x582), none] [] (HM P w T) 0 0 (none, HM P w' T) := by
  unfold Fm_laySpill_89 at h
  have ih0 := EGm_laySpill_89 n
  refine ev_go 2 (pc' := 2) (L' := [some (.ref 89), some (.int x581), some (.int x582), some (.int 0)]) (st' := []) (h' := (HM P w T)) (cs' := 0) (sl' := 0) rfl ?_
  exact ih0 _ _ _ _ _ h P T
set_option maxHeartbeats 40000000 in
set_option maxRecDepth 100000 in
theorem EGm_spills_89 : ∀ n : Nat, (∀ (y598 : Int32) (y599 : Int32) (w : WM) (w' : WM), Gm_spills_89 n 0 y598 y599 w = some w' → ∀ (P : Nat → ai_E) (T : ai_H), ai_ev D1 mm_spills 2 [some (.ref 89), some (.int y598), some (.int y599)] [] (HM P w T) 0 0 (none, HM P w' T)) ∧ (∀ (y603 : Int32) (y604 : Int32) (w : WM) (w' : WM), Gm_spills_89 n 1 y603 y604 w = some w' → ∀ (P : Nat → ai_E) (T : ai_H), ai_ev D1 mm_spills 34 [some (.ref 89), some (.int y603), some (.int y604)] [] (HM P w T) 0 0 (none, HM P w' T)) := by
  intro n
  induction n with
  | zero =>
    exact ⟨(fun _ _ _ _ h => by cases h), (fun _ _ _ _ h => by cases h)⟩
  | succ n ih =>
    obtain ⟨ih0, ih1⟩ := ih
    refine ⟨?_, ?_⟩
    · intro y598 y599 w w' h P T
      simp only [Gm_spills_89] at h
      refine ev_go 4 (pc' := 8) (L' := [some (.ref 89), some (.int y598), some (.int y599)]) (st' := [.int 0, .ref 90, .int y599]) (h' := (HM P w T)) (cs' := 0) (sl' := 0) rfl ?_
      obtain ⟨v600, hq, h⟩ := ai_bdE h
      refine ev_iald rfl rfl hq ?_
      rcases ai_ifE h with ⟨hc, h⟩ | ⟨hc, h⟩
      · refine ev_ic_ge (t := 32) rfl rfl (fun _ => ?_) (fun c9 => absurd hc c9)
        refine ev_go 2 (pc' := 34) (L' := [some (.ref 89), some (.int y598), some (.int 0)]) (st' := []) (h' := (HM P w T)) (cs' := 0) (sl' := 0) rfl ?_
        exact ih1 _ _ _ _ h P T
      · refine ev_ic_ge (t := 32) rfl rfl (fun c9 => absurd c9 hc) (fun _ => ?_)
        refine ev_go 6 (pc' := 22) (L' := [some (.ref 89), some (.int y598), some (.int y599)]) (st' := [.int y599, .ref 96, .int y599, .ref 97]) (h' := (HM P w T)) (cs' := 0) (sl' := 0) rfl ?_
        obtain ⟨v601, hq, h⟩ := ai_bdE h
        refine ev_iald rfl rfl hq ?_
        refine ev_go 2 (pc' := 25) (L' := [some (.ref 89), some (.int y598), some (.int y599)]) (st' := [.int (v601 / 4), .int y599, .ref 97]) (h' := (HM P w T)) (cs' := 0) (sl' := 0) rfl ?_
        obtain ⟨q602, hq, h⟩ := ai_bdE h
        refine ev_iast rfl rfl hq ?_
        rw [HMs_97]
        refine ev_go 2 (pc' := 2) (L' := [some (.ref 89), some (.int y598), some (.int (y599 + 1))]) (st' := []) (h' := (HM P (u_m_gives w q602) T)) (cs' := 0) (sl' := 0) rfl ?_
        exact ih0 _ _ _ _ h P T
    · intro y603 y604 w w' h P T
      simp only [Gm_spills_89] at h
      refine ev_go 6 (pc' := 42) (L' := [some (.ref 89), some (.int y603), some (.int y604)]) (st' := [.int 0, .ref 90, .int (y604 + 1)]) (h' := (HM P w T)) (cs' := 0) (sl' := 0) rfl ?_
      obtain ⟨v605, hq, h⟩ := ai_bdE h
      refine ev_iald rfl rfl hq ?_
      rcases ai_ifE h with ⟨hc, h⟩ | ⟨hc, h⟩
      · refine ev_ic_ge (t := 110) rfl rfl (fun _ => ?_) (fun c9 => absurd hc c9)
        obtain rfl := Option.some.inj h
        exact ev_end rfl
      · refine ev_ic_ge (t := 110) rfl rfl (fun c9 => absurd c9 hc) (fun _ => ?_)
        refine ev_go 2 (pc' := 48) (L' := [some (.ref 89), some (.int y603), some (.int y604)]) (st' := [.int y604, .int y603]) (h' := (HM P w T)) (cs' := 0) (sl' := 0) rfl ?_
        obtain ⟨c606, hq, h⟩ := ai_bdE h
        refine ev_call (M' := mm_has) (L' := [some (.int y603), some (.int y604)]) (rest := []) (rv := some (.int c606)) (h' := (HM P w T)) rfl (Em_has y603 y604 _ hq (HM P w T)) ?_
        show ai_ev D1 mm_spills 51 [some (.ref 89), some (.int y603), some (.int y604)] [.int c606] (HM P w T) 0 0 _
        rcases ai_ifE h with ⟨hc, h⟩ | ⟨hc, h⟩
        · refine ev_if_ne (t := 104) rfl rfl (fun c9 => absurd hc c9) (fun _ => ?_)
          refine ev_go 4 (pc' := 60) (L' := [some (.ref 89), some (.int y603), some (.int y604)]) (st' := [.int y604, .ref 96, .int y604, .ref 96]) (h' := (HM P w T)) (cs' := 0) (sl' := 0) rfl ?_
          obtain ⟨v607, hq, h⟩ := ai_bdE h
          refine ev_iald rfl rfl hq ?_
          refine ev_go 5 (pc' := 68) (L' := [some (.ref 89), some (.int y603), some (.int y604)]) (st' := [.int (y604 + 1), .ref 97, .int v607, .int y604, .ref 96]) (h' := (HM P w T)) (cs' := 0) (sl' := 0) rfl ?_
          obtain ⟨v608, hq, h⟩ := ai_bdE h
          refine ev_iald rfl rfl hq ?_
          refine ev_go 3 (pc' := 74) (L' := [some (.ref 89), some (.int y603), some (.int y604)]) (st' := [.int y604, .ref 97, .int v608, .int v607, .int y604, .ref 96]) (h' := (HM P w T)) (cs' := 0) (sl' := 0) rfl ?_
          obtain ⟨v609, hq, h⟩ := ai_bdE h
          refine ev_iald rfl rfl hq ?_
          refine ev_go 2 (pc' := 77) (L' := [some (.ref 89), some (.int y603), some (.int y604)]) (st' := [.int (v607 + (v608 - v609)), .int y604, .ref 96]) (h' := (HM P w T)) (cs' := 0) (sl' := 0) rfl ?_
          obtain ⟨q610, hq, h⟩ := ai_bdE h
          refine ev_iast rfl rfl hq ?_
          rw [HMs_96]
          refine ev_go 6 (pc' := 86) (L' := [some (.ref 89), some (.int y603), some (.int y604)]) (st' := [.int (y604 + 1), .ref 96, .int (y604 + 1), .ref 96]) (h' := (HM P (u_m_there w q610) T)) (cs' := 0) (sl' := 0) rfl ?_
          obtain ⟨v611, hq, h⟩ := ai_bdE h
          refine ev_iald rfl rfl hq ?_
          refine ev_go 3 (pc' := 92) (L' := [some (.ref 89), some (.int y603), some (.int y604)]) (st' := [.int y604, .ref 97, .int v611, .int (y604 + 1), .ref 96]) (h' := (HM P (u_m_there w q610) T)) (cs' := 0) (sl' := 0) rfl ?_
          obtain ⟨v612, hq, h⟩ := ai_bdE h
          refine ev_iald rfl rfl hq ?_
          refine ev_go 5 (pc' := 100) (L' := [some (.ref 89), some (.int y603), some (.int y604)]) (st' := [.int (y604 + 1), .ref 97, .int v612, .int v611, .int (y604 + 1), .ref 96]) (h' := (HM P (u_m_there w q610) T)) (cs' := 0) (sl' := 0) rfl ?_
          obtain ⟨v613, hq, h⟩ := ai_bdE h
          refine ev_iald rfl rfl hq ?_
          refine ev_go 2 (pc' := 103) (L' := [some (.ref 89), some (.int y603), some (.int y604)]) (st' := [.int (v611 + (v612 - v613)), .int (y604 + 1), .ref 96]) (h' := (HM P (u_m_there w q610) T)) (cs' := 0) (sl' := 0) rfl ?_
          obtain ⟨q614, hq, h⟩ := ai_bdE h
          refine ev_iast rfl rfl hq ?_
          rw [HMs_96]
          refine ev_go 2 (pc' := 34) (L' := [some (.ref 89), some (.int y603), some (.int (y604 + 1))]) (st' := []) (h' := (HM P (u_m_there (u_m_there w q610) q614) T)) (cs' := 0) (sl' := 0) rfl ?_
          exact ih1 _ _ _ _ h P T
        · refine ev_if_ne (t := 104) rfl rfl (fun _ => ?_) (fun c9 => absurd c9 hc)
          refine ev_go 2 (pc' := 34) (L' := [some (.ref 89), some (.int y603), some (.int (y604 + 1))]) (st' := []) (h' := (HM P w T)) (cs' := 0) (sl' := 0) rfl ?_
          exact ih1 _ _ _ _ h P T
set_option maxHeartbeats 40000000 in
set_option maxRecDepth 100000 in
theorem Em_spills_89 (n : Nat) (x597 : Int32) (w : WM) (w' : WM) (h : Fm_spills_89 n x597 w = some w') (P : Nat → ai_E) (T : ai_H) : ai_ev D1 mm_spills 0 [some (.ref 89), some (.int x597), none] [] (HM P w T) 0 0 (none, HM P w' T) := by
  unfold Fm_spills_89 at h
  obtain ⟨ih0, ih1⟩ := EGm_spills_89 n
  refine ev_go 2 (pc' := 2) (L' := [some (.ref 89), some (.int x597), some (.int 0)]) (st' := []) (h' := (HM P w T)) (cs' := 0) (sl' := 0) rfl ?_
  exact ih0 _ _ _ _ h P T
set_option maxHeartbeats 40000000 in
set_option maxRecDepth 100000 in
theorem EGm_spill_89 : ∀ n : Nat, (∀ (y590 : Int32) (y591 : Int32) (y592 : Int32) (y593 : Int32) (y594 : Int32) (w : WM) (r : Int32) (w' : WM), Gm_spill_89 n 0 y590 y591 y592 y593 y594 w = some (r, w') → ∀ (P : Nat → ai_E) (T : ai_H), ai_ev D1 mm_spill 55 [some (.ref 89), some (.int y590), some (.int y591), some (.int y592), some (.int y593), some (.int y594)] [] (HM P w T) 0 0 (some (.int r), HM P w' T)) := by
  intro n
  induction n with
  | zero =>
    exact (fun _ _ _ _ _ _ _ _ h => by cases h)
  | succ n ih0 =>
    intro y590 y591 y592 y593 y594 w r w' h P T
    simp only [Gm_spill_89] at h
    refine ev_go 2 (pc' := 58) (L' := [some (.ref 89), some (.int y590), some (.int y591), some (.int y592), some (.int y593), some (.int y594)]) (st' := [.int y592, .int y594]) (h' := (HM P w T)) (cs' := 0) (sl' := 0) rfl ?_
    rcases ai_ifE h with ⟨hc, h⟩ | ⟨hc, h⟩
    · refine ev_ic_ge (t := 77) rfl rfl (fun _ => ?_) (fun c9 => absurd hc c9)
      refine ev_go 3 (pc' := 83) (L' := [some (.ref 89), some (.int y590), some (.int y591), some (.int y592), some (.int y593), some (.int y594)]) (st' := [.int y593, .ref 96]) (h' := (HM P w T)) (cs' := 0) (sl' := 0) rfl ?_
      obtain ⟨v595, hq, h⟩ := ai_bdE h
      refine ev_iald rfl rfl hq ?_
      obtain ⟨rfl, rfl⟩ := ai_smP h
      exact ev_end rfl
    · refine ev_ic_ge (t := 77) rfl rfl (fun c9 => absurd c9 hc) (fun _ => ?_)
      refine ev_go 4 (pc' := 67) (L' := [some (.ref 89), some (.int y590), some (.int y591), some (.int y592), some (.int y593), some (.int y594)]) (st' := [.int 5, .ref 90, .ref 89]) (h' := (HM P w T)) (cs' := 0) (sl' := 0) rfl ?_
      obtain ⟨v596, hq, h⟩ := ai_bdE h
      refine ev_iald rfl rfl hq ?_
      obtain ⟨c615, hq, h⟩ := ai_bdE h
      refine ev_call (M' := mm_spills) (L' := [some (.ref 89), some (.int v596), none]) (rest := []) (rv := none) (h' := (HM P c615 T)) rfl (Em_spills_89 n v596 w _ hq P T) ?_
      show ai_ev D1 mm_spill 71 [some (.ref 89), some (.int y590), some (.int y591), some (.int y592), some (.int y593), some (.int y594)] [] (HM P c615 T) 0 0 _
      refine ev_go 2 (pc' := 55) (L' := [some (.ref 89), some (.int y590), some (.int y591), some (.int y592), some (.int y593), some (.int (y594 + 1))]) (st' := []) (h' := (HM P c615 T)) (cs' := 0) (sl' := 0) rfl ?_
      exact ih0 _ _ _ _ _ _ _ _ h P T
set_option maxHeartbeats 40000000 in
set_option maxRecDepth 100000 in
theorem Em_spill_89 (n : Nat) (x570 : Int32) (x571 : Int32) (x572 : Int32) (x573 : Int32) (w : WM) (r : Int32) (w' : WM) (h : Fm_spill_89 n x570 x571 x572 x573 w = some (r, w')) (P : Nat → ai_E) (T : ai_H) : ai_ev D1 mm_spill 0 [some (.ref 89), some (.int x570), some (.int x571), some (.int x572), some (.int x573), none] [] (HM P w T) 0 0 (some (.int r), HM P w' T) := by
  unfold Fm_spill_89 at h
  have ih0 := EGm_spill_89 n
  refine ev_go 2 (pc' := 2) (L' := [some (.ref 89), some (.int x570), some (.int x571), some (.int x572), some (.int x573), none]) (st' := [.int x570, .ref 89]) (h' := (HM P w T)) (cs' := 0) (sl' := 0) rfl ?_
  obtain ⟨c574, hq, h⟩ := ai_bdE h
  refine ev_call (M' := mm_isCell) (L' := [some (.ref 89), some (.int x570)]) (rest := []) (rv := some (.int c574.1)) (h' := (HM P c574.2 T)) rfl (Em_isCell_89 x570 w _ _ hq P T) ?_
  show ai_ev D1 mm_spill 5 [some (.ref 89), some (.int x570), some (.int x571), some (.int x572), some (.int x573), none] [.int c574.1] (HM P c574.2 T) 0 0 _
  rcases ai_ifE h with ⟨hc, h⟩ | ⟨hc, h⟩
  · refine ev_if_eq (t := 41) rfl rfl (fun _ => ?_) (fun c9 => absurd hc c9)
    refine ev_go 1 (pc' := 42) (L' := [some (.ref 89), some (.int x570), some (.int x571), some (.int x572), some (.int x573), none]) (st' := [.ref 89]) (h' := (HM P c574.2 T)) (cs' := 0) (sl' := 0) rfl ?_
    obtain ⟨c575, hq, h⟩ := ai_bdE h
    refine ev_call (M' := mm_bad) (L' := [some (.ref 89)]) (rest := []) (rv := some (.int c575.1)) (h' := (HM P c575.2 T)) rfl (Em_bad_89 c574.2 _ _ hq P T) ?_
    show ai_ev D1 mm_spill 45 [some (.ref 89), some (.int x570), some (.int x571), some (.int x572), some (.int x573), none] [.int c575.1] (HM P c575.2 T) 0 0 _
    obtain ⟨rfl, rfl⟩ := ai_smP h
    exact ev_end rfl
  · refine ev_if_eq (t := 41) rfl rfl (fun c9 => absurd c9 hc) (fun _ => ?_)
    refine ev_go 4 (pc' := 14) (L' := [some (.ref 89), some (.int x570), some (.int x571), some (.int x572), some (.int x573), none]) (st' := [.long 999, .long 0, .long (x571).toInt64]) (h' := (HM P c574.2 T)) (cs' := 0) (sl' := 0) rfl ?_
    obtain ⟨c576, hq, h⟩ := ai_bdE h
    refine ev_call (M' := mm_in) (L' := [some (.long (x571).toInt64), none, some (.long 0), none, some (.long 999), none]) (rest := []) (rv := some (.int c576)) (h' := (HM P c574.2 T)) rfl (Em_in (x571).toInt64 0 999 _ hq (HM P c574.2 T)) ?_
    show ai_ev D1 mm_spill 17 [some (.ref 89), some (.int x570), some (.int x571), some (.int x572), some (.int x573), none] [.int c576] (HM P c574.2 T) 0 0 _
    rcases ai_ifE h with ⟨hc, h⟩ | ⟨hc, h⟩
    · refine ev_if_eq (t := 41) rfl rfl (fun _ => ?_) (fun c9 => absurd hc c9)
      refine ev_go 1 (pc' := 42) (L' := [some (.ref 89), some (.int x570), some (.int x571), some (.int x572), some (.int x573), none]) (st' := [.ref 89]) (h' := (HM P c574.2 T)) (cs' := 0) (sl' := 0) rfl ?_
      obtain ⟨c577, hq, h⟩ := ai_bdE h
      refine ev_call (M' := mm_bad) (L' := [some (.ref 89)]) (rest := []) (rv := some (.int c577.1)) (h' := (HM P c577.2 T)) rfl (Em_bad_89 c574.2 _ _ hq P T) ?_
      show ai_ev D1 mm_spill 45 [some (.ref 89), some (.int x570), some (.int x571), some (.int x572), some (.int x573), none] [.int c577.1] (HM P c577.2 T) 0 0 _
      obtain ⟨rfl, rfl⟩ := ai_smP h
      exact ev_end rfl
    · refine ev_if_eq (t := 41) rfl rfl (fun c9 => absurd c9 hc) (fun _ => ?_)
      refine ev_go 4 (pc' := 26) (L' := [some (.ref 89), some (.int x570), some (.int x571), some (.int x572), some (.int x573), none]) (st' := [.long 40, .long 0, .long (x572).toInt64]) (h' := (HM P c574.2 T)) (cs' := 0) (sl' := 0) rfl ?_
      obtain ⟨c578, hq, h⟩ := ai_bdE h
      refine ev_call (M' := mm_in) (L' := [some (.long (x572).toInt64), none, some (.long 0), none, some (.long 40), none]) (rest := []) (rv := some (.int c578)) (h' := (HM P c574.2 T)) rfl (Em_in (x572).toInt64 0 40 _ hq (HM P c574.2 T)) ?_
      show ai_ev D1 mm_spill 29 [some (.ref 89), some (.int x570), some (.int x571), some (.int x572), some (.int x573), none] [.int c578] (HM P c574.2 T) 0 0 _
      rcases ai_ifE h with ⟨hc, h⟩ | ⟨hc, h⟩
      · refine ev_if_eq (t := 41) rfl rfl (fun _ => ?_) (fun c9 => absurd hc c9)
        refine ev_go 1 (pc' := 42) (L' := [some (.ref 89), some (.int x570), some (.int x571), some (.int x572), some (.int x573), none]) (st' := [.ref 89]) (h' := (HM P c574.2 T)) (cs' := 0) (sl' := 0) rfl ?_
        obtain ⟨c579, hq, h⟩ := ai_bdE h
        refine ev_call (M' := mm_bad) (L' := [some (.ref 89)]) (rest := []) (rv := some (.int c579.1)) (h' := (HM P c579.2 T)) rfl (Em_bad_89 c574.2 _ _ hq P T) ?_
        show ai_ev D1 mm_spill 45 [some (.ref 89), some (.int x570), some (.int x571), some (.int x572), some (.int x573), none] [.int c579.1] (HM P c579.2 T) 0 0 _
        obtain ⟨rfl, rfl⟩ := ai_smP h
        exact ev_end rfl
      · refine ev_if_eq (t := 41) rfl rfl (fun c9 => absurd c9 hc) (fun _ => ?_)
        refine ev_go 2 (pc' := 35) (L' := [some (.ref 89), some (.int x570), some (.int x571), some (.int x572), some (.int x573), none]) (st' := [.int x573, .ref 89]) (h' := (HM P c574.2 T)) (cs' := 0) (sl' := 0) rfl ?_
        obtain ⟨c580, hq, h⟩ := ai_bdE h
        refine ev_call (M' := mm_isCell) (L' := [some (.ref 89), some (.int x573)]) (rest := []) (rv := some (.int c580.1)) (h' := (HM P c580.2 T)) rfl (Em_isCell_89 x573 c574.2 _ _ hq P T) ?_
        show ai_ev D1 mm_spill 38 [some (.ref 89), some (.int x570), some (.int x571), some (.int x572), some (.int x573), none] [.int c580.1] (HM P c580.2 T) 0 0 _
        rcases ai_ifE h with ⟨hc, h⟩ | ⟨hc, h⟩
        · refine ev_if_ne (t := 46) rfl rfl (fun c9 => absurd hc c9) (fun _ => ?_)
          refine ev_go 1 (pc' := 42) (L' := [some (.ref 89), some (.int x570), some (.int x571), some (.int x572), some (.int x573), none]) (st' := [.ref 89]) (h' := (HM P c580.2 T)) (cs' := 0) (sl' := 0) rfl ?_
          obtain ⟨c589, hq, h⟩ := ai_bdE h
          refine ev_call (M' := mm_bad) (L' := [some (.ref 89)]) (rest := []) (rv := some (.int c589.1)) (h' := (HM P c589.2 T)) rfl (Em_bad_89 c580.2 _ _ hq P T) ?_
          show ai_ev D1 mm_spill 45 [some (.ref 89), some (.int x570), some (.int x571), some (.int x572), some (.int x573), none] [.int c589.1] (HM P c589.2 T) 0 0 _
          obtain ⟨rfl, rfl⟩ := ai_smP h
          exact ev_end rfl
        · refine ev_if_ne (t := 46) rfl rfl (fun _ => ?_) (fun c9 => absurd c9 hc)
          refine ev_go 3 (pc' := 49) (L' := [some (.ref 89), some (.int x570), some (.int x571), some (.int x572), some (.int x573), none]) (st' := [.int x571, .int x570, .ref 89]) (h' := (HM P c580.2 T)) (cs' := 0) (sl' := 0) rfl ?_
          obtain ⟨c588, hq, h⟩ := ai_bdE h
          refine ev_call (M' := mm_laySpill) (L' := [some (.ref 89), some (.int x570), some (.int x571), none]) (rest := []) (rv := none) (h' := (HM P c588 T)) rfl (Em_laySpill_89 n x570 x571 c580.2 _ hq P T) ?_
          show ai_ev D1 mm_spill 52 [some (.ref 89), some (.int x570), some (.int x571), some (.int x572), some (.int x573), none] [] (HM P c588 T) 0 0 _
          refine ev_go 2 (pc' := 55) (L' := [some (.ref 89), some (.int x570), some (.int x571), some (.int x572), some (.int x573), some (.int 0)]) (st' := []) (h' := (HM P c588 T)) (cs' := 0) (sl' := 0) rfl ?_
          exact ih0 _ _ _ _ _ _ _ _ h P T
set_option maxHeartbeats 40000000 in
set_option maxRecDepth 100000 in
theorem EGm_keepsOut_89 : ∀ n : Nat, (∀ (y644 : Int32) (y645 : Int32) (y646 : Int32) (y647 : Int32) (y648 : Int32) (y649 : Int32) (w : WM) (r : Int32) (w' : WM), Gm_keepsOut_89 n 0 y644 y645 y646 y647 y648 y649 0 w = some (r, w') → ∀ (P : Nat → ai_E) (T : ai_H) (o7 : Option Value), ai_ev D1 mm_keepsOut 9 [some (.ref 89), some (.int y644), some (.int y645), some (.int y646), some (.int y647), some (.int y648), some (.int y649), o7] [] (HM P w T) 0 0 (some (.int r), HM P w' T)) ∧ (∀ (y650 : Int32) (y651 : Int32) (y652 : Int32) (y653 : Int32) (y654 : Int32) (y655 : Int32) (y656 : Int32) (w : WM) (r : Int32) (w' : WM), Gm_keepsOut_89 n 1 y650 y651 y652 y653 y654 y655 y656 w = some (r, w') → ∀ (P : Nat → ai_E) (T : ai_H), ai_ev D1 mm_keepsOut 18 [some (.ref 89), some (.int y650), some (.int y651), some (.int y652), some (.int y653), some (.int y654), some (.int y655), some (.int y656)] [] (HM P w T) 0 0 (some (.int r), HM P w' T)) := by
  intro n
  induction n with
  | zero =>
    exact ⟨(fun _ _ _ _ _ _ _ _ _ h => by cases h), (fun _ _ _ _ _ _ _ _ _ _ h => by cases h)⟩
  | succ n ih =>
    obtain ⟨ih0, ih1⟩ := ih
    refine ⟨?_, ?_⟩
    · intro y644 y645 y646 y647 y648 y649 w r w' h P T o7
      simp only [Gm_keepsOut_89] at h
      refine ev_go 2 (pc' := 12) (L' := [some (.ref 89), some (.int y644), some (.int y645), some (.int y646), some (.int y647), some (.int y648), some (.int y649), o7]) (st' := [.int y646, .int y649]) (h' := (HM P w T)) (cs' := 0) (sl' := 0) rfl ?_
      rcases ai_ifE h with ⟨hc, h⟩ | ⟨hc, h⟩
      · refine ev_ic_gt (t := 69) rfl rfl (fun _ => ?_) (fun c9 => absurd hc c9)
        refine ev_go 1 (pc' := 70) (L' := [some (.ref 89), some (.int y644), some (.int y645), some (.int y646), some (.int y647), some (.int y648), some (.int y649), o7]) (st' := [.int 1]) (h' := (HM P w T)) (cs' := 0) (sl' := 0) rfl ?_
        obtain ⟨rfl, rfl⟩ := ai_smP h
        exact ev_end rfl
      · refine ev_ic_gt (t := 69) rfl rfl (fun c9 => absurd c9 hc) (fun _ => ?_)
        refine ev_go 2 (pc' := 18) (L' := [some (.ref 89), some (.int y644), some (.int y645), some (.int y646), some (.int y647), some (.int y648), some (.int y649), some (.int 0)]) (st' := []) (h' := (HM P w T)) (cs' := 0) (sl' := 0) rfl ?_
        exact ih1 _ _ _ _ _ _ _ _ _ _ h P T
    · intro y650 y651 y652 y653 y654 y655 y656 w r w' h P T
      simp only [Gm_keepsOut_89] at h
      refine ev_go 4 (pc' := 25) (L' := [some (.ref 89), some (.int y650), some (.int y651), some (.int y652), some (.int y653), some (.int y654), some (.int y655), some (.int y656)]) (st' := [.int 0, .ref 90, .int y656]) (h' := (HM P w T)) (cs' := 0) (sl' := 0) rfl ?_
      obtain ⟨v657, hq, h⟩ := ai_bdE h
      refine ev_iald rfl rfl hq ?_
      rcases ai_ifE h with ⟨hc, h⟩ | ⟨hc, h⟩
      · refine ev_ic_ge (t := 57) rfl rfl (fun _ => ?_) (fun c9 => absurd hc c9)
        refine ev_go 2 (pc' := 60) (L' := [some (.ref 89), some (.int y650), some (.int y651), some (.int y652), some (.int y653), some (.int y654), some (.int y655), some (.int y656)]) (st' := [.int y654, .ref 89]) (h' := (HM P w T)) (cs' := 0) (sl' := 0) rfl ?_
        obtain ⟨c658, hq, h⟩ := ai_bdE h
        refine ev_call (M' := mm_spills) (L' := [some (.ref 89), some (.int y654), none]) (rest := []) (rv := none) (h' := (HM P c658 T)) rfl (Em_spills_89 n y654 w _ hq P T) ?_
        show ai_ev D1 mm_keepsOut 63 [some (.ref 89), some (.int y650), some (.int y651), some (.int y652), some (.int y653), some (.int y654), some (.int y655), some (.int y656)] [] (HM P c658 T) 0 0 _
        refine ev_go 2 (pc' := 9) (L' := [some (.ref 89), some (.int y650), some (.int y651), some (.int y652), some (.int y653), some (.int y654), some (.int (y655 + 1)), some (.int y656)]) (st' := []) (h' := (HM P c658 T)) (cs' := 0) (sl' := 0) rfl ?_
        exact ih0 _ _ _ _ _ _ _ _ _ h P T _
      · refine ev_ic_ge (t := 57) rfl rfl (fun c9 => absurd c9 hc) (fun _ => ?_)
        refine ev_go 2 (pc' := 33) (L' := [some (.ref 89), some (.int y650), some (.int y651), some (.int y652), some (.int y653), some (.int y654), some (.int y655), some (.int y656)]) (st' := [.int y656, .int y653]) (h' := (HM P w T)) (cs' := 0) (sl' := 0) rfl ?_
        obtain ⟨c659, hq, h⟩ := ai_bdE h
        refine ev_call (M' := mm_has) (L' := [some (.int y653), some (.int y656)]) (rest := []) (rv := some (.int c659)) (h' := (HM P w T)) rfl (Em_has y653 y656 _ hq (HM P w T)) ?_
        show ai_ev D1 mm_keepsOut 36 [some (.ref 89), some (.int y650), some (.int y651), some (.int y652), some (.int y653), some (.int y654), some (.int y655), some (.int y656)] [.int c659] (HM P w T) 0 0 _
        rcases ai_ifE h with ⟨hc, h⟩ | ⟨hc, h⟩
        · refine ev_if_eq (t := 51) rfl rfl (fun _ => ?_) (fun c9 => absurd hc c9)
          refine ev_go 2 (pc' := 18) (L' := [some (.ref 89), some (.int y650), some (.int y651), some (.int y652), some (.int y653), some (.int y654), some (.int y655), some (.int (y656 + 1))]) (st' := []) (h' := (HM P w T)) (cs' := 0) (sl' := 0) rfl ?_
          exact ih1 _ _ _ _ _ _ _ _ _ _ h P T
        · refine ev_if_eq (t := 51) rfl rfl (fun c9 => absurd c9 hc) (fun _ => ?_)
          refine ev_go 3 (pc' := 45) (L' := [some (.ref 89), some (.int y650), some (.int y651), some (.int y652), some (.int y653), some (.int y654), some (.int y655), some (.int y656)]) (st' := [.int y656, .ref 96]) (h' := (HM P w T)) (cs' := 0) (sl' := 0) rfl ?_
          obtain ⟨v660, hq, h⟩ := ai_bdE h
          refine ev_iald rfl rfl hq ?_
          rcases ai_ifE h with ⟨hc, h⟩ | ⟨hc, h⟩
          · refine ev_if_le (t := 51) rfl rfl (fun _ => ?_) (fun c9 => absurd hc c9)
            refine ev_go 2 (pc' := 18) (L' := [some (.ref 89), some (.int y650), some (.int y651), some (.int y652), some (.int y653), some (.int y654), some (.int y655), some (.int (y656 + 1))]) (st' := []) (h' := (HM P w T)) (cs' := 0) (sl' := 0) rfl ?_
            exact ih1 _ _ _ _ _ _ _ _ _ _ h P T
          · refine ev_if_le (t := 51) rfl rfl (fun c9 => absurd c9 hc) (fun _ => ?_)
            refine ev_go 1 (pc' := 50) (L' := [some (.ref 89), some (.int y650), some (.int y651), some (.int y652), some (.int y653), some (.int y654), some (.int y655), some (.int y656)]) (st' := [.int 0]) (h' := (HM P w T)) (cs' := 0) (sl' := 0) rfl ?_
            obtain ⟨rfl, rfl⟩ := ai_smP h
            exact ev_end rfl
set_option maxHeartbeats 40000000 in
set_option maxRecDepth 100000 in
theorem Em_keepsOut_89 (n : Nat) (x638 : Int32) (x639 : Int32) (x640 : Int32) (x641 : Int32) (x642 : Int32) (w : WM) (r : Int32) (w' : WM) (h : Fm_keepsOut_89 n x638 x639 x640 x641 x642 w = some (r, w')) (P : Nat → ai_E) (T : ai_H) : ai_ev D1 mm_keepsOut 0 [some (.ref 89), some (.int x638), some (.int x639), some (.int x640), some (.int x641), some (.int x642), none, none] [] (HM P w T) 0 0 (some (.int r), HM P w' T) := by
  unfold Fm_keepsOut_89 at h
  obtain ⟨ih0, ih1⟩ := EGm_keepsOut_89 n
  refine ev_go 3 (pc' := 3) (L' := [some (.ref 89), some (.int x638), some (.int x639), some (.int x640), some (.int x641), some (.int x642), none, none]) (st' := [.int x639, .int x638, .ref 89]) (h' := (HM P w T)) (cs' := 0) (sl' := 0) rfl ?_
  obtain ⟨c643, hq, h⟩ := ai_bdE h
  refine ev_call (M' := mm_laySpill) (L' := [some (.ref 89), some (.int x638), some (.int x639), none]) (rest := []) (rv := none) (h' := (HM P c643 T)) rfl (Em_laySpill_89 n x638 x639 w _ hq P T) ?_
  show ai_ev D1 mm_keepsOut 6 [some (.ref 89), some (.int x638), some (.int x639), some (.int x640), some (.int x641), some (.int x642), none, none] [] (HM P c643 T) 0 0 _
  refine ev_go 2 (pc' := 9) (L' := [some (.ref 89), some (.int x638), some (.int x639), some (.int x640), some (.int x641), some (.int x642), some (.int 0), none]) (st' := []) (h' := (HM P c643 T)) (cs' := 0) (sl' := 0) rfl ?_
  exact ih0 _ _ _ _ _ _ _ _ _ h P T _
set_option maxHeartbeats 40000000 in
set_option maxRecDepth 100000 in
theorem EGm_ones : ∀ n : Nat, (∀ (y663 : Int32) (y664 : Int32) (y665 : Int32) (r : Int32), Gm_ones n 0 y663 y664 y665 = some r → ∀ (hh : ai_H), ai_ev D1 mm_ones 4 [some (.int y663), some (.int y664), some (.int y665)] [] hh 0 0 (some (.int r), hh)) := by
  intro n
  induction n with
  | zero =>
    exact (fun _ _ _ _ h => by cases h)
  | succ n ih0 =>
    intro y663 y664 y665 r h hh
    simp only [Gm_ones] at h
    refine ev_go 2 (pc' := 7) (L' := [some (.int y663), some (.int y664), some (.int y665)]) (st' := [.int 6, .int y665]) (h' := hh) (cs' := 0) (sl' := 0) rfl ?_
    rcases ai_ifE h with ⟨hc, h⟩ | ⟨hc, h⟩
    · refine ev_ic_ge (t := 24) rfl rfl (fun _ => ?_) (fun c9 => absurd hc c9)
      refine ev_go 1 (pc' := 25) (L' := [some (.int y663), some (.int y664), some (.int y665)]) (st' := [.int y664]) (h' := hh) (cs' := 0) (sl' := 0) rfl ?_
      obtain rfl := Option.some.inj h
      exact ev_end rfl
    · refine ev_ic_ge (t := 24) rfl rfl (fun c9 => absurd c9 hc) (fun _ => ?_)
      refine ev_go 10 (pc' := 4) (L' := [some (.int y663), some (.int (y664 + ((y663 >>> (y665 &&& 31)) &&& 1))), some (.int (y665 + 1))]) (st' := []) (h' := hh) (cs' := 0) (sl' := 0) rfl ?_
      exact ih0 _ _ _ _ h hh
set_option maxHeartbeats 40000000 in
set_option maxRecDepth 100000 in
theorem Em_ones (n : Nat) (x662 : Int32) (r : Int32) (h : Fm_ones n x662 = some r) (hh : ai_H) : ai_ev D1 mm_ones 0 [some (.int x662), none, none] [] hh 0 0 (some (.int r), hh) := by
  unfold Fm_ones at h
  have ih0 := EGm_ones n
  refine ev_go 4 (pc' := 4) (L' := [some (.int x662), some (.int 0), some (.int 0)]) (st' := []) (h' := hh) (cs' := 0) (sl' := 0) rfl ?_
  exact ih0 _ _ _ _ h hh
set_option maxHeartbeats 40000000 in
set_option maxRecDepth 100000 in
theorem EGm_keepOut_89 : ∀ n : Nat, (∀ (y629 : Int32) (y630 : Int32) (y631 : Int32) (y632 : Int32) (y633 : Int32) (y634 : Int32) (w : WM) (r : Int32) (w' : WM), Gm_keepOut_89 n 0 y629 y630 y631 y632 y633 y634 w = some (r, w') → ∀ (P : Nat → ai_E) (T : ai_H) (o7 : Option Value), ai_ev D1 mm_keepOut 64 [some (.ref 89), some (.int y629), some (.int y630), some (.int y631), some (.int y632), some (.int y633), some (.int y634), o7] [] (HM P w T) 0 0 (some (.int r), HM P w' T)) := by
  intro n
  induction n with
  | zero =>
    exact (fun _ _ _ _ _ _ _ _ _ h => by cases h)
  | succ n ih0 =>
    intro y629 y630 y631 y632 y633 y634 w r w' h P T o7
    simp only [Gm_keepOut_89] at h
    refine ev_go 5 (pc' := 72) (L' := [some (.ref 89), some (.int y629), some (.int y630), some (.int y631), some (.int y632), some (.int y633), some (.int y634), o7]) (st' := [.int 0, .ref 90, .int 1, .int y634]) (h' := (HM P w T)) (cs' := 0) (sl' := 0) rfl ?_
    obtain ⟨v635, hq, h⟩ := ai_bdE h
    refine ev_iald rfl rfl hq ?_
    refine ev_go 3 (pc' := 76) (L' := [some (.ref 89), some (.int y629), some (.int y630), some (.int y631), some (.int y632), some (.int y633), some (.int y634), o7]) (st' := [.int (1 <<< ((v635 - 1) &&& 31)), .int y634]) (h' := (HM P w T)) (cs' := 0) (sl' := 0) rfl ?_
    rcases ai_ifE h with ⟨hc, h⟩ | ⟨hc, h⟩
    · refine ev_ic_ge (t := 158) rfl rfl (fun _ => ?_) (fun c9 => absurd hc c9)
      refine ev_go 1 (pc' := 160) (L' := [some (.ref 89), some (.int y629), some (.int y630), some (.int y631), some (.int y632), some (.int y633), some (.int y634), o7]) (st' := [.int y633]) (h' := (HM P w T)) (cs' := 0) (sl' := 0) rfl ?_
      obtain ⟨rfl, rfl⟩ := ai_smP h
      exact ev_end rfl
    · refine ev_ic_ge (t := 158) rfl rfl (fun c9 => absurd c9 hc) (fun _ => ?_)
      refine ev_go 4 (pc' := 86) (L' := [some (.ref 89), some (.int y629), some (.int y630), some (.int y631), some (.int y632), some (.int y633), some (.int y634), o7]) (st' := [.int 5, .ref 90, .int y634]) (h' := (HM P w T)) (cs' := 0) (sl' := 0) rfl ?_
      obtain ⟨v636, hq, h⟩ := ai_bdE h
      refine ev_iald rfl rfl hq ?_
      refine ev_go 1 (pc' := 88) (L' := [some (.ref 89), some (.int y629), some (.int y630), some (.int y631), some (.int y632), some (.int y633), some (.int y634), o7]) (st' := [.int (y634 &&& v636)]) (h' := (HM P w T)) (cs' := 0) (sl' := 0) rfl ?_
      rcases ai_ifE h with ⟨hc, h⟩ | ⟨hc, h⟩
      · refine ev_if_ne (t := 114) rfl rfl (fun c9 => absurd hc c9) (fun _ => ?_)
        refine ev_go 2 (pc' := 94) (L' := [some (.ref 89), some (.int y629), some (.int y630), some (.int y631), some (.int y632), some (.int y633), some (.int y634), o7]) (st' := [.int (-1), .int y633]) (h' := (HM P w T)) (cs' := 0) (sl' := 0) rfl ?_
        rcases ai_ifE h with ⟨hc, h⟩ | ⟨hc, h⟩
        · refine ev_ic_eq (t := 110) rfl rfl (fun _ => ?_) (fun c9 => absurd hc c9)
          refine ev_go 13 (pc' := 133) (L' := [some (.ref 89), some (.int y629), some (.int y630), some (.int y631), some (.int y632), some (.int y633), some (.int y634), some (.int 1)]) (st' := [.int 5, .ref 90, .int y632, .int y631, .int y630, .int y629, .ref 89]) (h' := (HM P w T)) (cs' := 0) (sl' := 0) rfl ?_
          obtain ⟨v637, hq, h⟩ := ai_bdE h
          refine ev_iald rfl rfl hq ?_
          refine ev_go 2 (pc' := 137) (L' := [some (.ref 89), some (.int y629), some (.int y630), some (.int y631), some (.int y632), some (.int y633), some (.int y634), some (.int 1)]) (st' := [.int (v637 ||| y634), .int y632, .int y631, .int y630, .int y629, .ref 89]) (h' := (HM P w T)) (cs' := 0) (sl' := 0) rfl ?_
          obtain ⟨c661, hq, h⟩ := ai_bdE h
          refine ev_call (M' := mm_keepsOut) (L' := [some (.ref 89), some (.int y629), some (.int y630), some (.int y631), some (.int y632), some (.int (v637 ||| y634)), none, none]) (rest := []) (rv := some (.int c661.1)) (h' := (HM P c661.2 T)) rfl (Em_keepsOut_89 n y629 y630 y631 y632 (v637 ||| y634) w _ _ hq P T) ?_
          show ai_ev D1 mm_keepOut 140 [some (.ref 89), some (.int y629), some (.int y630), some (.int y631), some (.int y632), some (.int y633), some (.int y634), some (.int 1)] [.int c661.1] (HM P c661.2 T) 0 0 _
          rcases ai_ifE h with ⟨hc, h⟩ | ⟨hc, h⟩
          · refine ev_if_eq (t := 148) rfl rfl (fun _ => ?_) (fun c9 => absurd hc c9)
            refine ev_go 4 (pc' := 64) (L' := [some (.ref 89), some (.int y629), some (.int y630), some (.int y631), some (.int y632), some (.int y633), some (.int (y634 + 1)), some (.int 1)]) (st' := []) (h' := (HM P c661.2 T)) (cs' := 0) (sl' := 0) rfl ?_
            exact ih0 _ _ _ _ _ _ _ _ _ h P T _
          · refine ev_if_eq (t := 148) rfl rfl (fun c9 => absurd c9 hc) (fun _ => ?_)
            refine ev_go 5 (pc' := 64) (L' := [some (.ref 89), some (.int y629), some (.int y630), some (.int y631), some (.int y632), some (.int y634), some (.int (y634 + 1)), some (.int 1)]) (st' := []) (h' := (HM P c661.2 T)) (cs' := 0) (sl' := 0) rfl ?_
            exact ih0 _ _ _ _ _ _ _ _ _ h P T _
        · refine ev_ic_eq (t := 110) rfl rfl (fun c9 => absurd c9 hc) (fun _ => ?_)
          refine ev_go 1 (pc' := 99) (L' := [some (.ref 89), some (.int y629), some (.int y630), some (.int y631), some (.int y632), some (.int y633), some (.int y634), o7]) (st' := [.int y634]) (h' := (HM P w T)) (cs' := 0) (sl' := 0) rfl ?_
          obtain ⟨c666, hq, h⟩ := ai_bdE h
          refine ev_call (M' := mm_ones) (L' := [some (.int y634), none, none]) (rest := []) (rv := some (.int c666)) (h' := (HM P w T)) rfl (Em_ones n y634 _ hq (HM P w T)) ?_
          show ai_ev D1 mm_keepOut 102 [some (.ref 89), some (.int y629), some (.int y630), some (.int y631), some (.int y632), some (.int y633), some (.int y634), o7] [.int c666] (HM P w T) 0 0 _
          refine ev_go 1 (pc' := 104) (L' := [some (.ref 89), some (.int y629), some (.int y630), some (.int y631), some (.int y632), some (.int y633), some (.int y634), o7]) (st' := [.int y633, .int c666]) (h' := (HM P w T)) (cs' := 0) (sl' := 0) rfl ?_
          obtain ⟨c667, hq, h⟩ := ai_bdE h
          refine ev_call (M' := mm_ones) (L' := [some (.int y633), none, none]) (rest := [.int c666]) (rv := some (.int c667)) (h' := (HM P w T)) rfl (Em_ones n y633 _ hq (HM P w T)) ?_
          show ai_ev D1 mm_keepOut 107 [some (.ref 89), some (.int y629), some (.int y630), some (.int y631), some (.int y632), some (.int y633), some (.int y634), o7] [.int c667, .int c666] (HM P w T) 0 0 _
          rcases ai_ifE h with ⟨hc, h⟩ | ⟨hc, h⟩
          · refine ev_ic_ge (t := 114) rfl rfl (fun _ => ?_) (fun c9 => absurd hc c9)
            refine ev_go 8 (pc' := 64) (L' := [some (.ref 89), some (.int y629), some (.int y630), some (.int y631), some (.int y632), some (.int y633), some (.int (y634 + 1)), some (.int 0)]) (st' := []) (h' := (HM P w T)) (cs' := 0) (sl' := 0) rfl ?_
            exact ih0 _ _ _ _ _ _ _ _ _ h P T _
          · refine ev_ic_ge (t := 114) rfl rfl (fun c9 => absurd c9 hc) (fun _ => ?_)
            refine ev_go 13 (pc' := 133) (L' := [some (.ref 89), some (.int y629), some (.int y630), some (.int y631), some (.int y632), some (.int y633), some (.int y634), some (.int 1)]) (st' := [.int 5, .ref 90, .int y632, .int y631, .int y630, .int y629, .ref 89]) (h' := (HM P w T)) (cs' := 0) (sl' := 0) rfl ?_
            obtain ⟨v668, hq, h⟩ := ai_bdE h
            refine ev_iald rfl rfl hq ?_
            refine ev_go 2 (pc' := 137) (L' := [some (.ref 89), some (.int y629), some (.int y630), some (.int y631), some (.int y632), some (.int y633), some (.int y634), some (.int 1)]) (st' := [.int (v668 ||| y634), .int y632, .int y631, .int y630, .int y629, .ref 89]) (h' := (HM P w T)) (cs' := 0) (sl' := 0) rfl ?_
            obtain ⟨c669, hq, h⟩ := ai_bdE h
            refine ev_call (M' := mm_keepsOut) (L' := [some (.ref 89), some (.int y629), some (.int y630), some (.int y631), some (.int y632), some (.int (v668 ||| y634)), none, none]) (rest := []) (rv := some (.int c669.1)) (h' := (HM P c669.2 T)) rfl (Em_keepsOut_89 n y629 y630 y631 y632 (v668 ||| y634) w _ _ hq P T) ?_
            show ai_ev D1 mm_keepOut 140 [some (.ref 89), some (.int y629), some (.int y630), some (.int y631), some (.int y632), some (.int y633), some (.int y634), some (.int 1)] [.int c669.1] (HM P c669.2 T) 0 0 _
            rcases ai_ifE h with ⟨hc, h⟩ | ⟨hc, h⟩
            · refine ev_if_eq (t := 148) rfl rfl (fun _ => ?_) (fun c9 => absurd hc c9)
              refine ev_go 4 (pc' := 64) (L' := [some (.ref 89), some (.int y629), some (.int y630), some (.int y631), some (.int y632), some (.int y633), some (.int (y634 + 1)), some (.int 1)]) (st' := []) (h' := (HM P c669.2 T)) (cs' := 0) (sl' := 0) rfl ?_
              exact ih0 _ _ _ _ _ _ _ _ _ h P T _
            · refine ev_if_eq (t := 148) rfl rfl (fun c9 => absurd c9 hc) (fun _ => ?_)
              refine ev_go 5 (pc' := 64) (L' := [some (.ref 89), some (.int y629), some (.int y630), some (.int y631), some (.int y632), some (.int y634), some (.int (y634 + 1)), some (.int 1)]) (st' := []) (h' := (HM P c669.2 T)) (cs' := 0) (sl' := 0) rfl ?_
              exact ih0 _ _ _ _ _ _ _ _ _ h P T _
      · refine ev_if_ne (t := 114) rfl rfl (fun _ => ?_) (fun c9 => absurd c9 hc)
        refine ev_go 8 (pc' := 64) (L' := [some (.ref 89), some (.int y629), some (.int y630), some (.int y631), some (.int y632), some (.int y633), some (.int (y634 + 1)), some (.int 0)]) (st' := []) (h' := (HM P w T)) (cs' := 0) (sl' := 0) rfl ?_
        exact ih0 _ _ _ _ _ _ _ _ _ h P T _
set_option maxHeartbeats 40000000 in
set_option maxRecDepth 100000 in
theorem Em_keepOut_89 (n : Nat) (x616 : Int32) (x617 : Int32) (x618 : Int32) (x619 : Int32) (w : WM) (r : Int32) (w' : WM) (h : Fm_keepOut_89 n x616 x617 x618 x619 w = some (r, w')) (P : Nat → ai_E) (T : ai_H) : ai_ev D1 mm_keepOut 0 [some (.ref 89), some (.int x616), some (.int x617), some (.int x618), some (.int x619), none, none, none] [] (HM P w T) 0 0 (some (.int r), HM P w' T) := by
  unfold Fm_keepOut_89 at h
  have ih0 := EGm_keepOut_89 n
  refine ev_go 2 (pc' := 2) (L' := [some (.ref 89), some (.int x616), some (.int x617), some (.int x618), some (.int x619), none, none, none]) (st' := [.int x616, .ref 89]) (h' := (HM P w T)) (cs' := 0) (sl' := 0) rfl ?_
  obtain ⟨c620, hq, h⟩ := ai_bdE h
  refine ev_call (M' := mm_isCell) (L' := [some (.ref 89), some (.int x616)]) (rest := []) (rv := some (.int c620.1)) (h' := (HM P c620.2 T)) rfl (Em_isCell_89 x616 w _ _ hq P T) ?_
  show ai_ev D1 mm_keepOut 5 [some (.ref 89), some (.int x616), some (.int x617), some (.int x618), some (.int x619), none, none, none] [.int c620.1] (HM P c620.2 T) 0 0 _
  rcases ai_ifE h with ⟨hc, h⟩ | ⟨hc, h⟩
  · refine ev_if_eq (t := 53) rfl rfl (fun _ => ?_) (fun c9 => absurd hc c9)
    refine ev_go 1 (pc' := 54) (L' := [some (.ref 89), some (.int x616), some (.int x617), some (.int x618), some (.int x619), none, none, none]) (st' := [.ref 89]) (h' := (HM P c620.2 T)) (cs' := 0) (sl' := 0) rfl ?_
    obtain ⟨c621, hq, h⟩ := ai_bdE h
    refine ev_call (M' := mm_bad) (L' := [some (.ref 89)]) (rest := []) (rv := some (.int c621.1)) (h' := (HM P c621.2 T)) rfl (Em_bad_89 c620.2 _ _ hq P T) ?_
    show ai_ev D1 mm_keepOut 57 [some (.ref 89), some (.int x616), some (.int x617), some (.int x618), some (.int x619), none, none, none] [.int c621.1] (HM P c621.2 T) 0 0 _
    obtain ⟨rfl, rfl⟩ := ai_smP h
    exact ev_end rfl
  · refine ev_if_eq (t := 53) rfl rfl (fun c9 => absurd c9 hc) (fun _ => ?_)
    refine ev_go 4 (pc' := 14) (L' := [some (.ref 89), some (.int x616), some (.int x617), some (.int x618), some (.int x619), none, none, none]) (st' := [.long 999, .long 0, .long (x617).toInt64]) (h' := (HM P c620.2 T)) (cs' := 0) (sl' := 0) rfl ?_
    obtain ⟨c622, hq, h⟩ := ai_bdE h
    refine ev_call (M' := mm_in) (L' := [some (.long (x617).toInt64), none, some (.long 0), none, some (.long 999), none]) (rest := []) (rv := some (.int c622)) (h' := (HM P c620.2 T)) rfl (Em_in (x617).toInt64 0 999 _ hq (HM P c620.2 T)) ?_
    show ai_ev D1 mm_keepOut 17 [some (.ref 89), some (.int x616), some (.int x617), some (.int x618), some (.int x619), none, none, none] [.int c622] (HM P c620.2 T) 0 0 _
    rcases ai_ifE h with ⟨hc, h⟩ | ⟨hc, h⟩
    · refine ev_if_eq (t := 53) rfl rfl (fun _ => ?_) (fun c9 => absurd hc c9)
      refine ev_go 1 (pc' := 54) (L' := [some (.ref 89), some (.int x616), some (.int x617), some (.int x618), some (.int x619), none, none, none]) (st' := [.ref 89]) (h' := (HM P c620.2 T)) (cs' := 0) (sl' := 0) rfl ?_
      obtain ⟨c623, hq, h⟩ := ai_bdE h
      refine ev_call (M' := mm_bad) (L' := [some (.ref 89)]) (rest := []) (rv := some (.int c623.1)) (h' := (HM P c623.2 T)) rfl (Em_bad_89 c620.2 _ _ hq P T) ?_
      show ai_ev D1 mm_keepOut 57 [some (.ref 89), some (.int x616), some (.int x617), some (.int x618), some (.int x619), none, none, none] [.int c623.1] (HM P c623.2 T) 0 0 _
      obtain ⟨rfl, rfl⟩ := ai_smP h
      exact ev_end rfl
    · refine ev_if_eq (t := 53) rfl rfl (fun c9 => absurd c9 hc) (fun _ => ?_)
      refine ev_go 4 (pc' := 26) (L' := [some (.ref 89), some (.int x616), some (.int x617), some (.int x618), some (.int x619), none, none, none]) (st' := [.long 40, .long 0, .long (x618).toInt64]) (h' := (HM P c620.2 T)) (cs' := 0) (sl' := 0) rfl ?_
      obtain ⟨c624, hq, h⟩ := ai_bdE h
      refine ev_call (M' := mm_in) (L' := [some (.long (x618).toInt64), none, some (.long 0), none, some (.long 40), none]) (rest := []) (rv := some (.int c624)) (h' := (HM P c620.2 T)) rfl (Em_in (x618).toInt64 0 40 _ hq (HM P c620.2 T)) ?_
      show ai_ev D1 mm_keepOut 29 [some (.ref 89), some (.int x616), some (.int x617), some (.int x618), some (.int x619), none, none, none] [.int c624] (HM P c620.2 T) 0 0 _
      rcases ai_ifE h with ⟨hc, h⟩ | ⟨hc, h⟩
      · refine ev_if_eq (t := 53) rfl rfl (fun _ => ?_) (fun c9 => absurd hc c9)
        refine ev_go 1 (pc' := 54) (L' := [some (.ref 89), some (.int x616), some (.int x617), some (.int x618), some (.int x619), none, none, none]) (st' := [.ref 89]) (h' := (HM P c620.2 T)) (cs' := 0) (sl' := 0) rfl ?_
        obtain ⟨c625, hq, h⟩ := ai_bdE h
        refine ev_call (M' := mm_bad) (L' := [some (.ref 89)]) (rest := []) (rv := some (.int c625.1)) (h' := (HM P c625.2 T)) rfl (Em_bad_89 c620.2 _ _ hq P T) ?_
        show ai_ev D1 mm_keepOut 57 [some (.ref 89), some (.int x616), some (.int x617), some (.int x618), some (.int x619), none, none, none] [.int c625.1] (HM P c625.2 T) 0 0 _
        obtain ⟨rfl, rfl⟩ := ai_smP h
        exact ev_end rfl
      · refine ev_if_eq (t := 53) rfl rfl (fun c9 => absurd c9 hc) (fun _ => ?_)
        refine ev_go 7 (pc' := 42) (L' := [some (.ref 89), some (.int x616), some (.int x617), some (.int x618), some (.int x619), none, none, none]) (st' := [.int 0, .ref 90, .int 1, .long 0, .long (x619).toInt64]) (h' := (HM P c620.2 T)) (cs' := 0) (sl' := 0) rfl ?_
        obtain ⟨v626, hq, h⟩ := ai_bdE h
        refine ev_iald rfl rfl hq ?_
        refine ev_go 4 (pc' := 47) (L' := [some (.ref 89), some (.int x616), some (.int x617), some (.int x618), some (.int x619), none, none, none]) (st' := [.long (((1 <<< (v626 &&& 31)) - 1)).toInt64, .long 0, .long (x619).toInt64]) (h' := (HM P c620.2 T)) (cs' := 0) (sl' := 0) rfl ?_
        obtain ⟨c627, hq, h⟩ := ai_bdE h
        refine ev_call (M' := mm_in) (L' := [some (.long (x619).toInt64), none, some (.long 0), none, some (.long (((1 <<< (v626 &&& 31)) - 1)).toInt64), none]) (rest := []) (rv := some (.int c627)) (h' := (HM P c620.2 T)) rfl (Em_in (x619).toInt64 0 (((1 <<< (v626 &&& 31)) - 1)).toInt64 _ hq (HM P c620.2 T)) ?_
        show ai_ev D1 mm_keepOut 50 [some (.ref 89), some (.int x616), some (.int x617), some (.int x618), some (.int x619), none, none, none] [.int c627] (HM P c620.2 T) 0 0 _
        rcases ai_ifE h with ⟨hc, h⟩ | ⟨hc, h⟩
        · refine ev_if_ne (t := 58) rfl rfl (fun c9 => absurd hc c9) (fun _ => ?_)
          refine ev_go 1 (pc' := 54) (L' := [some (.ref 89), some (.int x616), some (.int x617), some (.int x618), some (.int x619), none, none, none]) (st' := [.ref 89]) (h' := (HM P c620.2 T)) (cs' := 0) (sl' := 0) rfl ?_
          obtain ⟨c628, hq, h⟩ := ai_bdE h
          refine ev_call (M' := mm_bad) (L' := [some (.ref 89)]) (rest := []) (rv := some (.int c628.1)) (h' := (HM P c628.2 T)) rfl (Em_bad_89 c620.2 _ _ hq P T) ?_
          show ai_ev D1 mm_keepOut 57 [some (.ref 89), some (.int x616), some (.int x617), some (.int x618), some (.int x619), none, none, none] [.int c628.1] (HM P c628.2 T) 0 0 _
          obtain ⟨rfl, rfl⟩ := ai_smP h
          exact ev_end rfl
        · refine ev_if_ne (t := 58) rfl rfl (fun _ => ?_) (fun c9 => absurd c9 hc)
          refine ev_go 4 (pc' := 64) (L' := [some (.ref 89), some (.int x616), some (.int x617), some (.int x618), some (.int x619), some (.int (-1)), some (.int 0), none]) (st' := []) (h' := (HM P c620.2 T)) (cs' := 0) (sl' := 0) rfl ?_
          exact ih0 _ _ _ _ _ _ _ _ _ h P T _
set_option maxHeartbeats 40000000 in
set_option maxRecDepth 100000 in
theorem EGm_shaken_89 : ∀ n : Nat, (∀ (y679 : Int32) (y680 : Int32) (y681 : Int32) (y682 : Int32) (y683 : Int32) (w : WM) (r : Int32) (w' : WM), Gm_shaken_89 n 0 y679 y680 y681 y682 y683 0 0 w = some (r, w') → ∀ (P : Nat → ai_E) (T : ai_H) (o6 o7 : Option Value), ai_ev D1 mm_shaken 41 [some (.ref 89), some (.int y679), some (.int y680), some (.int y681), some (.int y682), some (.int y683), o6, o7] [] (HM P w T) 0 0 (some (.int r), HM P w' T)) ∧ (∀ (y686 : Int32) (y687 : Int32) (y688 : Int32) (y689 : Int32) (y690 : Int32) (y691 : Int32) (y692 : Int32) (w : WM) (r : Int32) (w' : WM), Gm_shaken_89 n 1 y686 y687 y688 y689 y690 y691 y692 w = some (r, w') → ∀ (P : Nat → ai_E) (T : ai_H), ai_ev D1 mm_shaken 80 [some (.ref 89), some (.int y686), some (.int y687), some (.int y688), some (.int y689), some (.int y690), some (.int y691), some (.int y692)] [] (HM P w T) 0 0 (some (.int r), HM P w' T)) := by
  intro n
  induction n with
  | zero =>
    exact ⟨(fun _ _ _ _ _ _ _ _ h => by cases h), (fun _ _ _ _ _ _ _ _ _ _ h => by cases h)⟩
  | succ n ih =>
    obtain ⟨ih0, ih1⟩ := ih
    refine ⟨?_, ?_⟩
    · intro y679 y680 y681 y682 y683 w r w' h P T o6 o7
      simp only [Gm_shaken_89] at h
      refine ev_go 2 (pc' := 44) (L' := [some (.ref 89), some (.int y679), some (.int y680), some (.int y681), some (.int y682), some (.int y683), o6, o7]) (st' := [.int 4, .int y683]) (h' := (HM P w T)) (cs' := 0) (sl' := 0) rfl ?_
      rcases ai_ifE h with ⟨hc, h⟩ | ⟨hc, h⟩
      · refine ev_ic_ge (t := 71) rfl rfl (fun _ => ?_) (fun c9 => absurd hc c9)
        refine ev_go 6 (pc' := 80) (L' := [some (.ref 89), some (.int y679), some (.int y680), some (.int y681), some (.int y682), some (.int 0), some (.int 0), some (.int y679)]) (st' := []) (h' := (HM P w T)) (cs' := 0) (sl' := 0) rfl ?_
        exact ih1 _ _ _ _ _ _ _ _ _ _ h P T
      · refine ev_ic_ge (t := 71) rfl rfl (fun c9 => absurd c9 hc) (fun _ => ?_)
        refine ev_go 7 (pc' := 58) (L' := [some (.ref 89), some (.int y679), some (.int y680), some (.int y681), some (.int y682), some (.int y683), o6, o7]) (st' := [.int 1, .ref 90, .int y680, .int y683, .ref 89, .int y682]) (h' := (HM P w T)) (cs' := 0) (sl' := 0) rfl ?_
        obtain ⟨v684, hq, h⟩ := ai_bdE h
        refine ev_iald rfl rfl hq ?_
        obtain ⟨c685, hq, h⟩ := ai_bdE h
        refine ev_call (M' := mm_thickIn) (L' := [some (.ref 89), some (.int y683), some (.int y680), some (.int v684), none]) (rest := [.int y682]) (rv := some (.int c685.1)) (h' := (HM P c685.2 T)) rfl (Em_thickIn_89 y683 y680 v684 w _ _ hq P T) ?_
        show ai_ev D1 mm_shaken 62 [some (.ref 89), some (.int y679), some (.int y680), some (.int y681), some (.int y682), some (.int y683), o6, o7] [.int c685.1, .int y682] (HM P c685.2 T) 0 0 _
        refine ev_go 4 (pc' := 41) (L' := [some (.ref 89), some (.int y679), some (.int y680), some (.int y681), some (.int (y682 + c685.1)), some (.int (y683 + 1)), o6, o7]) (st' := []) (h' := (HM P c685.2 T)) (cs' := 0) (sl' := 0) rfl ?_
        exact ih0 _ _ _ _ _ _ _ _ h P T _ _
    · intro y686 y687 y688 y689 y690 y691 y692 w r w' h P T
      simp only [Gm_shaken_89] at h
      refine ev_go 1 (pc' := 82) (L' := [some (.ref 89), some (.int y686), some (.int y687), some (.int y688), some (.int y689), some (.int y690), some (.int y691), some (.int y692)]) (st' := [.int y692]) (h' := (HM P w T)) (cs' := 0) (sl' := 0) rfl ?_
      rcases ai_ifE h with ⟨hc, h⟩ | ⟨hc, h⟩
      · refine ev_if_le (t := 119) rfl rfl (fun _ => ?_) (fun c9 => absurd hc c9)
        refine ev_go 1 (pc' := 120) (L' := [some (.ref 89), some (.int y686), some (.int y687), some (.int y688), some (.int y689), some (.int y690), some (.int y691), some (.int y692)]) (st' := [.int y688]) (h' := (HM P w T)) (cs' := 0) (sl' := 0) rfl ?_
        rcases ai_ifE h with ⟨hc, h⟩ | ⟨hc, h⟩
        · refine ev_if_ne (t := 128) rfl rfl (fun c9 => absurd hc c9) (fun _ => ?_)
          refine ev_go 2 (pc' := 130) (L' := [some (.ref 89), some (.int y686), some (.int y687), some (.int y688), some (.int y689), some (.int y690), some (.int y691), some (.int y692)]) (st' := [.int y690]) (h' := (HM P w T)) (cs' := 0) (sl' := 0) rfl ?_
          obtain ⟨rfl, rfl⟩ := ai_smP h
          exact ev_end rfl
        · refine ev_if_ne (t := 128) rfl rfl (fun _ => ?_) (fun c9 => absurd c9 hc)
          refine ev_go 1 (pc' := 130) (L' := [some (.ref 89), some (.int y686), some (.int y687), some (.int y688), some (.int y689), some (.int y690), some (.int y691), some (.int y692)]) (st' := [.int y691]) (h' := (HM P w T)) (cs' := 0) (sl' := 0) rfl ?_
          obtain ⟨rfl, rfl⟩ := ai_smP h
          exact ev_end rfl
      · refine ev_if_le (t := 119) rfl rfl (fun c9 => absurd c9 hc) (fun _ => ?_)
        refine ev_go 4 (pc' := 94) (L' := [some (.ref 89), some (.int y686), some (.int y687), some (.int y688), some (.int y689), some (.int (y690 + 1)), some (.int y691), some (.int y692)]) (st' := [.int y689, .int y692, .int y691]) (h' := (HM P w T)) (cs' := 0) (sl' := 0) rfl ?_
        rcases ai_ifE h with ⟨hc, h⟩ | ⟨hc, h⟩
        · refine ev_ic_le (t := 101) rfl rfl (fun _ => ?_) (fun c9 => absurd hc c9)
          refine ev_go 12 (pc' := 80) (L' := [some (.ref 89), some (.int y686), some (.int y687), some (.int y688), some (.int y689), some (.int (y690 + 1)), some (.int (y691 + 0)), some (.int (y692 - ((y692 + 3) / 4)))]) (st' := []) (h' := (HM P w T)) (cs' := 0) (sl' := 0) rfl ?_
          exact ih1 _ _ _ _ _ _ _ _ _ _ h P T
        · refine ev_ic_le (t := 101) rfl rfl (fun c9 => absurd c9 hc) (fun _ => ?_)
          refine ev_go 13 (pc' := 80) (L' := [some (.ref 89), some (.int y686), some (.int y687), some (.int y688), some (.int y689), some (.int (y690 + 1)), some (.int (y691 + 1)), some (.int (y692 - ((y692 + 3) / 4)))]) (st' := []) (h' := (HM P w T)) (cs' := 0) (sl' := 0) rfl ?_
          exact ih1 _ _ _ _ _ _ _ _ _ _ h P T
set_option maxHeartbeats 40000000 in
set_option maxRecDepth 100000 in
theorem Em_shaken_89 (n : Nat) (x670 : Int32) (x671 : Int32) (x672 : Int32) (w : WM) (r : Int32) (w' : WM) (h : Fm_shaken_89 n x670 x671 x672 w = some (r, w')) (P : Nat → ai_E) (T : ai_H) : ai_ev D1 mm_shaken 0 [some (.ref 89), some (.int x670), some (.int x671), some (.int x672), none, none, none, none] [] (HM P w T) 0 0 (some (.int r), HM P w' T) := by
  unfold Fm_shaken_89 at h
  obtain ⟨ih0, ih1⟩ := EGm_shaken_89 n
  refine ev_go 4 (pc' := 6) (L' := [some (.ref 89), some (.int x670), some (.int x671), some (.int x672), none, none, none, none]) (st' := [.long 99, .long 0, .long (x670).toInt64]) (h' := (HM P w T)) (cs' := 0) (sl' := 0) rfl ?_
  obtain ⟨c673, hq, h⟩ := ai_bdE h
  refine ev_call (M' := mm_in) (L' := [some (.long (x670).toInt64), none, some (.long 0), none, some (.long 99), none]) (rest := []) (rv := some (.int c673)) (h' := (HM P w T)) rfl (Em_in (x670).toInt64 0 99 _ hq (HM P w T)) ?_
  show ai_ev D1 mm_shaken 9 [some (.ref 89), some (.int x670), some (.int x671), some (.int x672), none, none, none, none] [.int c673] (HM P w T) 0 0 _
  rcases ai_ifE h with ⟨hc, h⟩ | ⟨hc, h⟩
  · refine ev_if_eq (t := 30) rfl rfl (fun _ => ?_) (fun c9 => absurd hc c9)
    refine ev_go 1 (pc' := 31) (L' := [some (.ref 89), some (.int x670), some (.int x671), some (.int x672), none, none, none, none]) (st' := [.ref 89]) (h' := (HM P w T)) (cs' := 0) (sl' := 0) rfl ?_
    obtain ⟨c674, hq, h⟩ := ai_bdE h
    refine ev_call (M' := mm_bad) (L' := [some (.ref 89)]) (rest := []) (rv := some (.int c674.1)) (h' := (HM P c674.2 T)) rfl (Em_bad_89 w _ _ hq P T) ?_
    show ai_ev D1 mm_shaken 34 [some (.ref 89), some (.int x670), some (.int x671), some (.int x672), none, none, none, none] [.int c674.1] (HM P c674.2 T) 0 0 _
    obtain ⟨rfl, rfl⟩ := ai_smP h
    exact ev_end rfl
  · refine ev_if_eq (t := 30) rfl rfl (fun c9 => absurd c9 hc) (fun _ => ?_)
    refine ev_go 2 (pc' := 14) (L' := [some (.ref 89), some (.int x670), some (.int x671), some (.int x672), none, none, none, none]) (st' := [.int x671, .ref 89]) (h' := (HM P w T)) (cs' := 0) (sl' := 0) rfl ?_
    obtain ⟨c675, hq, h⟩ := ai_bdE h
    refine ev_call (M' := mm_isCell) (L' := [some (.ref 89), some (.int x671)]) (rest := []) (rv := some (.int c675.1)) (h' := (HM P c675.2 T)) rfl (Em_isCell_89 x671 w _ _ hq P T) ?_
    show ai_ev D1 mm_shaken 17 [some (.ref 89), some (.int x670), some (.int x671), some (.int x672), none, none, none, none] [.int c675.1] (HM P c675.2 T) 0 0 _
    rcases ai_ifE h with ⟨hc, h⟩ | ⟨hc, h⟩
    · refine ev_if_eq (t := 30) rfl rfl (fun _ => ?_) (fun c9 => absurd hc c9)
      refine ev_go 1 (pc' := 31) (L' := [some (.ref 89), some (.int x670), some (.int x671), some (.int x672), none, none, none, none]) (st' := [.ref 89]) (h' := (HM P c675.2 T)) (cs' := 0) (sl' := 0) rfl ?_
      obtain ⟨c676, hq, h⟩ := ai_bdE h
      refine ev_call (M' := mm_bad) (L' := [some (.ref 89)]) (rest := []) (rv := some (.int c676.1)) (h' := (HM P c676.2 T)) rfl (Em_bad_89 c675.2 _ _ hq P T) ?_
      show ai_ev D1 mm_shaken 34 [some (.ref 89), some (.int x670), some (.int x671), some (.int x672), none, none, none, none] [.int c676.1] (HM P c676.2 T) 0 0 _
      obtain ⟨rfl, rfl⟩ := ai_smP h
      exact ev_end rfl
    · refine ev_if_eq (t := 30) rfl rfl (fun c9 => absurd c9 hc) (fun _ => ?_)
      refine ev_go 4 (pc' := 24) (L' := [some (.ref 89), some (.int x670), some (.int x671), some (.int x672), none, none, none, none]) (st' := [.long 1, .long 0, .long (x672).toInt64]) (h' := (HM P c675.2 T)) (cs' := 0) (sl' := 0) rfl ?_
      obtain ⟨c677, hq, h⟩ := ai_bdE h
      refine ev_call (M' := mm_in) (L' := [some (.long (x672).toInt64), none, some (.long 0), none, some (.long 1), none]) (rest := []) (rv := some (.int c677)) (h' := (HM P c675.2 T)) rfl (Em_in (x672).toInt64 0 1 _ hq (HM P c675.2 T)) ?_
      show ai_ev D1 mm_shaken 27 [some (.ref 89), some (.int x670), some (.int x671), some (.int x672), none, none, none, none] [.int c677] (HM P c675.2 T) 0 0 _
      rcases ai_ifE h with ⟨hc, h⟩ | ⟨hc, h⟩
      · refine ev_if_ne (t := 35) rfl rfl (fun c9 => absurd hc c9) (fun _ => ?_)
        refine ev_go 1 (pc' := 31) (L' := [some (.ref 89), some (.int x670), some (.int x671), some (.int x672), none, none, none, none]) (st' := [.ref 89]) (h' := (HM P c675.2 T)) (cs' := 0) (sl' := 0) rfl ?_
        obtain ⟨c678, hq, h⟩ := ai_bdE h
        refine ev_call (M' := mm_bad) (L' := [some (.ref 89)]) (rest := []) (rv := some (.int c678.1)) (h' := (HM P c678.2 T)) rfl (Em_bad_89 c675.2 _ _ hq P T) ?_
        show ai_ev D1 mm_shaken 34 [some (.ref 89), some (.int x670), some (.int x671), some (.int x672), none, none, none, none] [.int c678.1] (HM P c678.2 T) 0 0 _
        obtain ⟨rfl, rfl⟩ := ai_smP h
        exact ev_end rfl
      · refine ev_if_ne (t := 35) rfl rfl (fun _ => ?_) (fun c9 => absurd c9 hc)
        refine ev_go 4 (pc' := 41) (L' := [some (.ref 89), some (.int x670), some (.int x671), some (.int x672), some (.int 0), some (.int 0), none, none]) (st' := []) (h' := (HM P c675.2 T)) (cs' := 0) (sl' := 0) rfl ?_
        exact ih0 _ _ _ _ _ _ _ _ h P T _ _
set_option maxHeartbeats 40000000 in
set_option maxRecDepth 100000 in
theorem EGm_lies_89 : ∀ n : Nat, (∀ (y708 : Int32) (y709 : Int32) (y710 : Int32) (y711 : Int32) (y712 : Int32) (y713 : Int32) (y714 : Int32) (y715 : Int32) (y716 : Int32) (w : WM) (r : Int32) (w' : WM), Gm_lies_89 n 0 y708 y709 y710 y711 y712 y713 y714 y715 y716 w = some (r, w') → ∀ (P : Nat → ai_E) (T : ai_H), ai_ev D1 mm_lies 103 [some (.ref 89), some (.int y708), some (.int y709), some (.int y710), some (.int y711), some (.int y712), some (.int y713), some (.int y714), some (.int y715), some (.int y716)] [] (HM P w T) 0 0 (some (.int r), HM P w' T)) := by
  intro n
  induction n with
  | zero =>
    exact (fun _ _ _ _ _ _ _ _ _ _ _ _ h => by cases h)
  | succ n ih0 =>
    intro y708 y709 y710 y711 y712 y713 y714 y715 y716 w r w' h P T
    simp only [Gm_lies_89] at h
    refine ev_go 2 (pc' := 107) (L' := [some (.ref 89), some (.int y708), some (.int y709), some (.int y710), some (.int y711), some (.int y712), some (.int y713), some (.int y714), some (.int y715), some (.int y716)]) (st' := [.int 100, .int y716]) (h' := (HM P w T)) (cs' := 0) (sl' := 0) rfl ?_
    rcases ai_ifE h with ⟨hc, h⟩ | ⟨hc, h⟩
    · refine ev_ic_ge (t := 157) rfl rfl (fun _ => ?_) (fun c9 => absurd hc c9)
      refine ev_go 1 (pc' := 159) (L' := [some (.ref 89), some (.int y708), some (.int y709), some (.int y710), some (.int y711), some (.int y712), some (.int y713), some (.int y714), some (.int y715), some (.int y716)]) (st' := [.int y712]) (h' := (HM P w T)) (cs' := 0) (sl' := 0) rfl ?_
      rcases ai_ifE h with ⟨hc, h⟩ | ⟨hc, h⟩
      · refine ev_if_ne (t := 167) rfl rfl (fun c9 => absurd hc c9) (fun _ => ?_)
        refine ev_go 2 (pc' := 180) (L' := [some (.ref 89), some (.int y708), some (.int y709), some (.int y710), some (.int y711), some (.int y712), some (.int y713), some (.int y714), some (.int y715), some (.int y716)]) (st' := [.int y713]) (h' := (HM P w T)) (cs' := 0) (sl' := 0) rfl ?_
        obtain ⟨rfl, rfl⟩ := ai_smP h
        exact ev_end rfl
      · refine ev_if_ne (t := 167) rfl rfl (fun _ => ?_) (fun c9 => absurd c9 hc)
        refine ev_go 2 (pc' := 170) (L' := [some (.ref 89), some (.int y708), some (.int y709), some (.int y710), some (.int y711), some (.int y712), some (.int y713), some (.int y714), some (.int y715), some (.int y716)]) (st' := [.int 1, .int y712]) (h' := (HM P w T)) (cs' := 0) (sl' := 0) rfl ?_
        rcases ai_ifE h with ⟨hc, h⟩ | ⟨hc, h⟩
        · refine ev_ic_ne (t := 178) rfl rfl (fun c9 => absurd hc c9) (fun _ => ?_)
          refine ev_go 2 (pc' := 180) (L' := [some (.ref 89), some (.int y708), some (.int y709), some (.int y710), some (.int y711), some (.int y712), some (.int y713), some (.int y714), some (.int y715), some (.int y716)]) (st' := [.int y714]) (h' := (HM P w T)) (cs' := 0) (sl' := 0) rfl ?_
          obtain ⟨rfl, rfl⟩ := ai_smP h
          exact ev_end rfl
        · refine ev_ic_ne (t := 178) rfl rfl (fun _ => ?_) (fun c9 => absurd c9 hc)
          refine ev_go 1 (pc' := 180) (L' := [some (.ref 89), some (.int y708), some (.int y709), some (.int y710), some (.int y711), some (.int y712), some (.int y713), some (.int y714), some (.int y715), some (.int y716)]) (st' := [.int y715]) (h' := (HM P w T)) (cs' := 0) (sl' := 0) rfl ?_
          obtain ⟨rfl, rfl⟩ := ai_smP h
          exact ev_end rfl
    · refine ev_ic_ge (t := 157) rfl rfl (fun c9 => absurd c9 hc) (fun _ => ?_)
      refine ev_go 2 (pc' := 113) (L' := [some (.ref 89), some (.int y708), some (.int y709), some (.int y710), some (.int y711), some (.int y712), some (.int y713), some (.int y714), some (.int y715), some (.int y716)]) (st' := [.int y716, .ref 89]) (h' := (HM P w T)) (cs' := 0) (sl' := 0) rfl ?_
      refine ev_step rfl rfl rfl (PFM_8_180_89 rfl) ?_
      refine ev_go 2 (pc' := 118) (L' := [some (.ref 89), some (.int y708), some (.int y709), some (.int y710), some (.int y711), some (.int y712), some (.int y713), some (.int y714), some (.int y715), some (.int y716)]) (st' := [.int y709, .ref 89]) (h' := (HM P (u_m_weight w y716) T)) (cs' := 0) (sl' := 0) rfl ?_
      obtain ⟨c717, hq, h⟩ := ai_bdE h
      refine ev_call (M' := mm_comesDown) (L' := [some (.ref 89), some (.int y709), none, none, none]) (rest := []) (rv := none) (h' := (HM P c717 T)) rfl (Em_comesDown_89 n y709 (u_m_weight w y716) _ hq P T) ?_
      show ai_ev D1 mm_lies 121 [some (.ref 89), some (.int y708), some (.int y709), some (.int y710), some (.int y711), some (.int y712), some (.int y713), some (.int y714), some (.int y715), some (.int y716)] [] (HM P c717 T) 0 0 _
      refine ev_go 3 (pc' := 126) (L' := [some (.ref 89), some (.int y708), some (.int y709), some (.int y710), some (.int y711), some (.int y712), some (.int y713), some (.int y714), some (.int y715), some (.int y716)]) (st' := [.int y710, .int (a_m_restsIn c717)]) (h' := (HM P c717 T)) (cs' := 0) (sl' := 0) rfl ?_
      rcases ai_ifE h with ⟨hc, h⟩ | ⟨hc, h⟩
      · refine ev_ic_ne (t := 151) rfl rfl (fun c9 => absurd hc c9) (fun _ => ?_)
        refine ev_go 3 (pc' := 135) (L' := [some (.ref 89), some (.int y708), some (.int y709), some (.int y710), some (.int y711), some (.int y712), some (.int (y713 + 1)), some (.int y714), some (.int y715), some (.int y716)]) (st' := [.int (-1), .int y714]) (h' := (HM P c717 T)) (cs' := 0) (sl' := 0) rfl ?_
        rcases ai_ifE h with ⟨hc, h⟩ | ⟨hc, h⟩
        · refine ev_ic_ne (t := 143) rfl rfl (fun c9 => absurd hc c9) (fun _ => ?_)
          refine ev_go 7 (pc' := 103) (L' := [some (.ref 89), some (.int y708), some (.int y709), some (.int y710), some (.int y711), some (.int y712), some (.int (y713 + 1)), some (.int y716), some (.int y716), some (.int (y716 + 1))]) (st' := []) (h' := (HM P c717 T)) (cs' := 0) (sl' := 0) rfl ?_
          exact ih0 _ _ _ _ _ _ _ _ _ _ _ _ h P T
        · refine ev_ic_ne (t := 143) rfl rfl (fun _ => ?_) (fun c9 => absurd c9 hc)
          refine ev_go 6 (pc' := 103) (L' := [some (.ref 89), some (.int y708), some (.int y709), some (.int y710), some (.int y711), some (.int y712), some (.int (y713 + 1)), some (.int y714), some (.int y716), some (.int (y716 + 1))]) (st' := []) (h' := (HM P c717 T)) (cs' := 0) (sl' := 0) rfl ?_
          exact ih0 _ _ _ _ _ _ _ _ _ _ _ _ h P T
      · refine ev_ic_ne (t := 151) rfl rfl (fun _ => ?_) (fun c9 => absurd c9 hc)
        refine ev_go 2 (pc' := 103) (L' := [some (.ref 89), some (.int y708), some (.int y709), some (.int y710), some (.int y711), some (.int y712), some (.int y713), some (.int y714), some (.int y715), some (.int (y716 + 1))]) (st' := []) (h' := (HM P c717 T)) (cs' := 0) (sl' := 0) rfl ?_
        exact ih0 _ _ _ _ _ _ _ _ _ _ _ _ h P T
set_option maxHeartbeats 40000000 in
set_option maxRecDepth 100000 in
theorem Em_lies_89 (n : Nat) (x693 : Int32) (x694 : Int32) (x695 : Int32) (x696 : Int32) (x697 : Int32) (w : WM) (r : Int32) (w' : WM) (h : Fm_lies_89 n x693 x694 x695 x696 x697 w = some (r, w')) (P : Nat → ai_E) (T : ai_H) : ai_ev D1 mm_lies 0 [some (.ref 89), some (.int x693), some (.int x694), some (.int x695), some (.int x696), some (.int x697), none, none, none, none] [] (HM P w T) 0 0 (some (.int r), HM P w' T) := by
  unfold Fm_lies_89 at h
  have ih0 := EGm_lies_89 n
  refine ev_go 4 (pc' := 6) (L' := [some (.ref 89), some (.int x693), some (.int x694), some (.int x695), some (.int x696), some (.int x697), none, none, none, none]) (st' := [.long 9, .long 1, .long (x693).toInt64]) (h' := (HM P w T)) (cs' := 0) (sl' := 0) rfl ?_
  obtain ⟨c698, hq, h⟩ := ai_bdE h
  refine ev_call (M' := mm_in) (L' := [some (.long (x693).toInt64), none, some (.long 1), none, some (.long 9), none]) (rest := []) (rv := some (.int c698)) (h' := (HM P w T)) rfl (Em_in (x693).toInt64 1 9 _ hq (HM P w T)) ?_
  show ai_ev D1 mm_lies 9 [some (.ref 89), some (.int x693), some (.int x694), some (.int x695), some (.int x696), some (.int x697), none, none, none, none] [.int c698] (HM P w T) 0 0 _
  rcases ai_ifE h with ⟨hc, h⟩ | ⟨hc, h⟩
  · refine ev_if_eq (t := 58) rfl rfl (fun _ => ?_) (fun c9 => absurd hc c9)
    refine ev_go 2 (pc' := 61) (L' := [some (.ref 89), some (.int x693), some (.int x694), some (.int x695), some (.int x696), some (.int x697), none, none, none, none]) (st' := [.int (-10), .ref 89]) (h' := (HM P w T)) (cs' := 0) (sl' := 0) rfl ?_
    obtain ⟨c699, hq, h⟩ := ai_bdE h
    refine ev_call (M' := mm_badAs) (L' := [some (.ref 89), some (.int (-10))]) (rest := []) (rv := some (.int c699.1)) (h' := (HM P c699.2 T)) rfl (Em_badAs_89 (-10) w _ _ hq P T) ?_
    show ai_ev D1 mm_lies 64 [some (.ref 89), some (.int x693), some (.int x694), some (.int x695), some (.int x696), some (.int x697), none, none, none, none] [.int c699.1] (HM P c699.2 T) 0 0 _
    obtain ⟨rfl, rfl⟩ := ai_smP h
    exact ev_end rfl
  · refine ev_if_eq (t := 58) rfl rfl (fun c9 => absurd c9 hc) (fun _ => ?_)
    refine ev_go 2 (pc' := 14) (L' := [some (.ref 89), some (.int x693), some (.int x694), some (.int x695), some (.int x696), some (.int x697), none, none, none, none]) (st' := [.int x694, .ref 89]) (h' := (HM P w T)) (cs' := 0) (sl' := 0) rfl ?_
    obtain ⟨c700, hq, h⟩ := ai_bdE h
    refine ev_call (M' := mm_isCell) (L' := [some (.ref 89), some (.int x694)]) (rest := []) (rv := some (.int c700.1)) (h' := (HM P c700.2 T)) rfl (Em_isCell_89 x694 w _ _ hq P T) ?_
    show ai_ev D1 mm_lies 17 [some (.ref 89), some (.int x693), some (.int x694), some (.int x695), some (.int x696), some (.int x697), none, none, none, none] [.int c700.1] (HM P c700.2 T) 0 0 _
    rcases ai_ifE h with ⟨hc, h⟩ | ⟨hc, h⟩
    · refine ev_if_eq (t := 58) rfl rfl (fun _ => ?_) (fun c9 => absurd hc c9)
      refine ev_go 2 (pc' := 61) (L' := [some (.ref 89), some (.int x693), some (.int x694), some (.int x695), some (.int x696), some (.int x697), none, none, none, none]) (st' := [.int (-10), .ref 89]) (h' := (HM P c700.2 T)) (cs' := 0) (sl' := 0) rfl ?_
      obtain ⟨c701, hq, h⟩ := ai_bdE h
      refine ev_call (M' := mm_badAs) (L' := [some (.ref 89), some (.int (-10))]) (rest := []) (rv := some (.int c701.1)) (h' := (HM P c701.2 T)) rfl (Em_badAs_89 (-10) c700.2 _ _ hq P T) ?_
      show ai_ev D1 mm_lies 64 [some (.ref 89), some (.int x693), some (.int x694), some (.int x695), some (.int x696), some (.int x697), none, none, none, none] [.int c701.1] (HM P c701.2 T) 0 0 _
      obtain ⟨rfl, rfl⟩ := ai_smP h
      exact ev_end rfl
    · refine ev_if_eq (t := 58) rfl rfl (fun c9 => absurd c9 hc) (fun _ => ?_)
      refine ev_go 4 (pc' := 26) (L' := [some (.ref 89), some (.int x693), some (.int x694), some (.int x695), some (.int x696), some (.int x697), none, none, none, none]) (st' := [.long 4, .long 0, .long (x695).toInt64]) (h' := (HM P c700.2 T)) (cs' := 0) (sl' := 0) rfl ?_
      obtain ⟨c702, hq, h⟩ := ai_bdE h
      refine ev_call (M' := mm_in) (L' := [some (.long (x695).toInt64), none, some (.long 0), none, some (.long 4), none]) (rest := []) (rv := some (.int c702)) (h' := (HM P c700.2 T)) rfl (Em_in (x695).toInt64 0 4 _ hq (HM P c700.2 T)) ?_
      show ai_ev D1 mm_lies 29 [some (.ref 89), some (.int x693), some (.int x694), some (.int x695), some (.int x696), some (.int x697), none, none, none, none] [.int c702] (HM P c700.2 T) 0 0 _
      rcases ai_ifE h with ⟨hc, h⟩ | ⟨hc, h⟩
      · refine ev_if_eq (t := 58) rfl rfl (fun _ => ?_) (fun c9 => absurd hc c9)
        refine ev_go 2 (pc' := 61) (L' := [some (.ref 89), some (.int x693), some (.int x694), some (.int x695), some (.int x696), some (.int x697), none, none, none, none]) (st' := [.int (-10), .ref 89]) (h' := (HM P c700.2 T)) (cs' := 0) (sl' := 0) rfl ?_
        obtain ⟨c703, hq, h⟩ := ai_bdE h
        refine ev_call (M' := mm_badAs) (L' := [some (.ref 89), some (.int (-10))]) (rest := []) (rv := some (.int c703.1)) (h' := (HM P c703.2 T)) rfl (Em_badAs_89 (-10) c700.2 _ _ hq P T) ?_
        show ai_ev D1 mm_lies 64 [some (.ref 89), some (.int x693), some (.int x694), some (.int x695), some (.int x696), some (.int x697), none, none, none, none] [.int c703.1] (HM P c703.2 T) 0 0 _
        obtain ⟨rfl, rfl⟩ := ai_smP h
        exact ev_end rfl
      · refine ev_if_eq (t := 58) rfl rfl (fun c9 => absurd c9 hc) (fun _ => ?_)
        refine ev_go 4 (pc' := 39) (L' := [some (.ref 89), some (.int x693), some (.int x694), some (.int x695), some (.int x696), some (.int x697), none, none, none, none]) (st' := [.long 999, .long 0, .long (x696).toInt64]) (h' := (HM P c700.2 T)) (cs' := 0) (sl' := 0) rfl ?_
        obtain ⟨c704, hq, h⟩ := ai_bdE h
        refine ev_call (M' := mm_in) (L' := [some (.long (x696).toInt64), none, some (.long 0), none, some (.long 999), none]) (rest := []) (rv := some (.int c704)) (h' := (HM P c700.2 T)) rfl (Em_in (x696).toInt64 0 999 _ hq (HM P c700.2 T)) ?_
        show ai_ev D1 mm_lies 42 [some (.ref 89), some (.int x693), some (.int x694), some (.int x695), some (.int x696), some (.int x697), none, none, none, none] [.int c704] (HM P c700.2 T) 0 0 _
        rcases ai_ifE h with ⟨hc, h⟩ | ⟨hc, h⟩
        · refine ev_if_eq (t := 58) rfl rfl (fun _ => ?_) (fun c9 => absurd hc c9)
          refine ev_go 2 (pc' := 61) (L' := [some (.ref 89), some (.int x693), some (.int x694), some (.int x695), some (.int x696), some (.int x697), none, none, none, none]) (st' := [.int (-10), .ref 89]) (h' := (HM P c700.2 T)) (cs' := 0) (sl' := 0) rfl ?_
          obtain ⟨c705, hq, h⟩ := ai_bdE h
          refine ev_call (M' := mm_badAs) (L' := [some (.ref 89), some (.int (-10))]) (rest := []) (rv := some (.int c705.1)) (h' := (HM P c705.2 T)) rfl (Em_badAs_89 (-10) c700.2 _ _ hq P T) ?_
          show ai_ev D1 mm_lies 64 [some (.ref 89), some (.int x693), some (.int x694), some (.int x695), some (.int x696), some (.int x697), none, none, none, none] [.int c705.1] (HM P c705.2 T) 0 0 _
          obtain ⟨rfl, rfl⟩ := ai_smP h
          exact ev_end rfl
        · refine ev_if_eq (t := 58) rfl rfl (fun c9 => absurd c9 hc) (fun _ => ?_)
          refine ev_go 4 (pc' := 52) (L' := [some (.ref 89), some (.int x693), some (.int x694), some (.int x695), some (.int x696), some (.int x697), none, none, none, none]) (st' := [.long 2, .long 0, .long (x697).toInt64]) (h' := (HM P c700.2 T)) (cs' := 0) (sl' := 0) rfl ?_
          obtain ⟨c706, hq, h⟩ := ai_bdE h
          refine ev_call (M' := mm_in) (L' := [some (.long (x697).toInt64), none, some (.long 0), none, some (.long 2), none]) (rest := []) (rv := some (.int c706)) (h' := (HM P c700.2 T)) rfl (Em_in (x697).toInt64 0 2 _ hq (HM P c700.2 T)) ?_
          show ai_ev D1 mm_lies 55 [some (.ref 89), some (.int x693), some (.int x694), some (.int x695), some (.int x696), some (.int x697), none, none, none, none] [.int c706] (HM P c700.2 T) 0 0 _
          rcases ai_ifE h with ⟨hc, h⟩ | ⟨hc, h⟩
          · refine ev_if_ne (t := 65) rfl rfl (fun c9 => absurd hc c9) (fun _ => ?_)
            refine ev_go 2 (pc' := 61) (L' := [some (.ref 89), some (.int x693), some (.int x694), some (.int x695), some (.int x696), some (.int x697), none, none, none, none]) (st' := [.int (-10), .ref 89]) (h' := (HM P c700.2 T)) (cs' := 0) (sl' := 0) rfl ?_
            obtain ⟨c707, hq, h⟩ := ai_bdE h
            refine ev_call (M' := mm_badAs) (L' := [some (.ref 89), some (.int (-10))]) (rest := []) (rv := some (.int c707.1)) (h' := (HM P c707.2 T)) rfl (Em_badAs_89 (-10) c700.2 _ _ hq P T) ?_
            show ai_ev D1 mm_lies 64 [some (.ref 89), some (.int x693), some (.int x694), some (.int x695), some (.int x696), some (.int x697), none, none, none, none] [.int c707.1] (HM P c707.2 T) 0 0 _
            obtain ⟨rfl, rfl⟩ := ai_smP h
            exact ev_end rfl
          · refine ev_if_ne (t := 65) rfl rfl (fun _ => ?_) (fun c9 => absurd c9 hc)
            refine ev_go 2 (pc' := 67) (L' := [some (.ref 89), some (.int x693), some (.int x694), some (.int x695), some (.int x696), some (.int x697), none, none, none, none]) (st' := [.int 4, .ref 89]) (h' := (HM P c700.2 T)) (cs' := 0) (sl' := 0) rfl ?_
            refine ev_step rfl rfl rfl (PFM_8_177_89 rfl) ?_
            refine ev_go 2 (pc' := 72) (L' := [some (.ref 89), some (.int x693), some (.int x694), some (.int x695), some (.int x696), some (.int x697), none, none, none, none]) (st' := [.int x693, .ref 89]) (h' := (HM P (u_m_kind c700.2 4) T)) (cs' := 0) (sl' := 0) rfl ?_
            refine ev_step rfl rfl rfl (PFM_8_183_89 rfl) ?_
            refine ev_go 2 (pc' := 77) (L' := [some (.ref 89), some (.int x693), some (.int x694), some (.int x695), some (.int x696), some (.int x697), none, none, none, none]) (st' := [.int 0, .ref 89]) (h' := (HM P (u_m_volume (u_m_kind c700.2 4) x693) T)) (cs' := 0) (sl' := 0) rfl ?_
            refine ev_step rfl rfl rfl (PFM_8_186_89 rfl) ?_
            refine ev_go 2 (pc' := 83) (L' := [some (.ref 89), some (.int x693), some (.int x694), some (.int x695), some (.int x696), some (.int x697), none, none, none, none]) (st' := [.int x696, .ref 89]) (h' := (HM P (u_m_load (u_m_volume (u_m_kind c700.2 4) x693) 0) T)) (cs' := 0) (sl' := 0) rfl ?_
            refine ev_step rfl rfl rfl (PFM_8_189_89 rfl) ?_
            refine ev_go 2 (pc' := 88) (L' := [some (.ref 89), some (.int x693), some (.int x694), some (.int x695), some (.int x696), some (.int x697), none, none, none, none]) (st' := [.int 0, .ref 89]) (h' := (HM P (u_m_hour (u_m_load (u_m_volume (u_m_kind c700.2 4) x693) 0) x696) T)) (cs' := 0) (sl' := 0) rfl ?_
            refine ev_step rfl rfl rfl (PFM_8_192_89 rfl) ?_
            refine ev_go 8 (pc' := 103) (L' := [some (.ref 89), some (.int x693), some (.int x694), some (.int x695), some (.int x696), some (.int x697), some (.int 0), some (.int (-1)), some (.int (-1)), some (.int 1)]) (st' := []) (h' := (HM P (u_m_torn (u_m_hour (u_m_load (u_m_volume (u_m_kind c700.2 4) x693) 0) x696) 0) T)) (cs' := 0) (sl' := 0) rfl ?_
            exact ih0 _ _ _ _ _ _ _ _ _ _ _ _ h P T
set_option maxHeartbeats 40000000 in
set_option maxRecDepth 100000 in
theorem EGm_driftsTo_89 : ∀ n : Nat, (∀ (y732 : Int32) (y733 : Int32) (y734 : Int32) (w : WM) (r : Int32) (w' : WM), Gm_driftsTo_89 n 0 y732 y733 y734 0 0 w = some (r, w') → ∀ (P : Nat → ai_E) (T : ai_H) (o4 o5 : Option Value), ai_ev D1 mm_driftsTo 9 [some (.ref 89), some (.int y732), some (.int y733), some (.int y734), o4, o5] [] (HM P w T) 0 0 (some (.int r), HM P w' T)) ∧ (∀ (y737 : Int32) (y738 : Int32) (y739 : Int32) (y740 : Int32) (y741 : Int32) (w : WM) (r : Int32) (w' : WM), Gm_driftsTo_89 n 1 y737 y738 y739 y740 y741 w = some (r, w') → ∀ (P : Nat → ai_E) (T : ai_H), ai_ev D1 mm_driftsTo 44 [some (.ref 89), some (.int y737), some (.int y738), some (.int y739), some (.int y740), some (.int y741)] [] (HM P w T) 0 0 (some (.int r), HM P w' T)) := by
  intro n
  induction n with
  | zero =>
    exact ⟨(fun _ _ _ _ _ _ h => by cases h), (fun _ _ _ _ _ _ _ _ h => by cases h)⟩
  | succ n ih =>
    obtain ⟨ih0, ih1⟩ := ih
    refine ⟨?_, ?_⟩
    · intro y732 y733 y734 w r w' h P T o4 o5
      simp only [Gm_driftsTo_89] at h
      refine ev_go 2 (pc' := 11) (L' := [some (.ref 89), some (.int y732), some (.int y733), some (.int y734), o4, o5]) (st' := [.int 4, .int y734]) (h' := (HM P w T)) (cs' := 0) (sl' := 0) rfl ?_
      rcases ai_ifE h with ⟨hc, h⟩ | ⟨hc, h⟩
      · refine ev_ic_ge (t := 97) rfl rfl (fun _ => ?_) (fun c9 => absurd hc c9)
        refine ev_go 1 (pc' := 98) (L' := [some (.ref 89), some (.int y732), some (.int y733), some (.int y734), o4, o5]) (st' := [.int y733]) (h' := (HM P w T)) (cs' := 0) (sl' := 0) rfl ?_
        obtain ⟨rfl, rfl⟩ := ai_smP h
        exact ev_end rfl
      · refine ev_ic_ge (t := 97) rfl rfl (fun c9 => absurd c9 hc) (fun _ => ?_)
        refine ev_go 3 (pc' := 19) (L' := [some (.ref 89), some (.int y732), some (.int y733), some (.int y734), o4, o5]) (st' := [.int y734, .int (a_m_passes w)]) (h' := (HM P w T)) (cs' := 0) (sl' := 0) rfl ?_
        obtain ⟨c735, hq, h⟩ := ai_bdE h
        refine ev_call (M' := mm_has) (L' := [some (.int (a_m_passes w)), some (.int y734)]) (rest := []) (rv := some (.int c735)) (h' := (HM P w T)) rfl (Em_has (a_m_passes w) y734 _ hq (HM P w T)) ?_
        show ai_ev D1 mm_driftsTo 22 [some (.ref 89), some (.int y732), some (.int y733), some (.int y734), o4, o5] [.int c735] (HM P w T) 0 0 _
        rcases ai_ifE h with ⟨hc, h⟩ | ⟨hc, h⟩
        · refine ev_if_eq (t := 38) rfl rfl (fun _ => ?_) (fun c9 => absurd hc c9)
          refine ev_go 4 (pc' := 44) (L' := [some (.ref 89), some (.int y732), some (.int y733), some (.int y734), some (.int 0), some (.int 0)]) (st' := []) (h' := (HM P w T)) (cs' := 0) (sl' := 0) rfl ?_
          exact ih1 _ _ _ _ _ _ _ _ h P T
        · refine ev_if_eq (t := 38) rfl rfl (fun c9 => absurd c9 hc) (fun _ => ?_)
          refine ev_go 5 (pc' := 32) (L' := [some (.ref 89), some (.int y732), some (.int y733), some (.int y734), o4, o5]) (st' := [.int (a_m_hour w), .int y732, .int y734, .ref 89]) (h' := (HM P w T)) (cs' := 0) (sl' := 0) rfl ?_
          obtain ⟨c736, hq, h⟩ := ai_bdE h
          refine ev_call (M' := mm_thickIn) (L' := [some (.ref 89), some (.int y734), some (.int y732), some (.int (a_m_hour w)), none]) (rest := []) (rv := some (.int c736.1)) (h' := (HM P c736.2 T)) rfl (Em_thickIn_89 y734 y732 (a_m_hour w) w _ _ hq P T) ?_
          show ai_ev D1 mm_driftsTo 35 [some (.ref 89), some (.int y732), some (.int y733), some (.int y734), o4, o5] [.int c736.1] (HM P c736.2 T) 0 0 _
          refine ev_go 4 (pc' := 44) (L' := [some (.ref 89), some (.int y732), some (.int y733), some (.int y734), some (.int c736.1), some (.int 0)]) (st' := []) (h' := (HM P c736.2 T)) (cs' := 0) (sl' := 0) rfl ?_
          exact ih1 _ _ _ _ _ _ _ _ h P T
    · intro y737 y738 y739 y740 y741 w r w' h P T
      simp only [Gm_driftsTo_89] at h
      refine ev_go 2 (pc' := 48) (L' := [some (.ref 89), some (.int y737), some (.int y738), some (.int y739), some (.int y740), some (.int y741)]) (st' := [.int y740, .int y741]) (h' := (HM P w T)) (cs' := 0) (sl' := 0) rfl ?_
      rcases ai_ifE h with ⟨hc, h⟩ | ⟨hc, h⟩
      · refine ev_ic_ge (t := 91) rfl rfl (fun _ => ?_) (fun c9 => absurd hc c9)
        refine ev_go 2 (pc' := 9) (L' := [some (.ref 89), some (.int y737), some (.int y738), some (.int (y739 + 1)), some (.int y740), some (.int y741)]) (st' := []) (h' := (HM P w T)) (cs' := 0) (sl' := 0) rfl ?_
        exact ih0 _ _ _ _ _ _ h P T _ _
      · refine ev_ic_ge (t := 91) rfl rfl (fun c9 => absurd c9 hc) (fun _ => ?_)
        refine ev_go 7 (pc' := 61) (L' := [some (.ref 89), some (.int y737), some (.int y738), some (.int y739), some (.int y740), some (.int y741)]) (st' := [.int (12 + y739), .ref 90, .int y738, .ref 89]) (h' := (HM P w T)) (cs' := 0) (sl' := 0) rfl ?_
        obtain ⟨v742, hq, h⟩ := ai_bdE h
        refine ev_iald rfl rfl hq ?_
        refine ev_go 1 (pc' := 63) (L' := [some (.ref 89), some (.int y737), some (.int y738), some (.int y739), some (.int y740), some (.int y741)]) (st' := [.int (y738 + v742), .ref 89]) (h' := (HM P w T)) (cs' := 0) (sl' := 0) rfl ?_
        obtain ⟨c743, hq, h⟩ := ai_bdE h
        refine ev_call (M' := mm_isCell) (L' := [some (.ref 89), some (.int (y738 + v742))]) (rest := []) (rv := some (.int c743.1)) (h' := (HM P c743.2 T)) rfl (Em_isCell_89 (y738 + v742) w _ _ hq P T) ?_
        show ai_ev D1 mm_driftsTo 66 [some (.ref 89), some (.int y737), some (.int y738), some (.int y739), some (.int y740), some (.int y741)] [.int c743.1] (HM P c743.2 T) 0 0 _
        rcases ai_ifE h with ⟨hc, h⟩ | ⟨hc, h⟩
        · refine ev_if_eq (t := 83) rfl rfl (fun _ => ?_) (fun c9 => absurd hc c9)
          refine ev_go 4 (pc' := 44) (L' := [some (.ref 89), some (.int y737), some (.int y738), some (.int y739), some (.int y740), some (.int (y741 + 1))]) (st' := []) (h' := (HM P c743.2 T)) (cs' := 0) (sl' := 0) rfl ?_
          exact ih1 _ _ _ _ _ _ _ _ h P T
        · refine ev_if_eq (t := 83) rfl rfl (fun c9 => absurd c9 hc) (fun _ => ?_)
          refine ev_go 6 (pc' := 78) (L' := [some (.ref 89), some (.int y737), some (.int y738), some (.int y739), some (.int y740), some (.int y741)]) (st' := [.int (12 + y739), .ref 90, .int y738]) (h' := (HM P c743.2 T)) (cs' := 0) (sl' := 0) rfl ?_
          obtain ⟨v744, hq, h⟩ := ai_bdE h
          refine ev_iald rfl rfl hq ?_
          refine ev_go 5 (pc' := 44) (L' := [some (.ref 89), some (.int y737), some (.int (y738 + v744)), some (.int y739), some (.int y740), some (.int (y741 + 1))]) (st' := []) (h' := (HM P c743.2 T)) (cs' := 0) (sl' := 0) rfl ?_
          exact ih1 _ _ _ _ _ _ _ _ h P T
set_option maxHeartbeats 40000000 in
set_option maxRecDepth 100000 in
theorem Em_driftsTo_89 (n : Nat) (x730 : Int32) (w : WM) (r : Int32) (w' : WM) (h : Fm_driftsTo_89 n x730 w = some (r, w')) (P : Nat → ai_E) (T : ai_H) : ai_ev D1 mm_driftsTo 0 [some (.ref 89), some (.int x730), none, none, none, none] [] (HM P w T) 0 0 (some (.int r), HM P w' T) := by
  unfold Fm_driftsTo_89 at h
  obtain ⟨ih0, ih1⟩ := EGm_driftsTo_89 n
  refine ev_go 2 (pc' := 2) (L' := [some (.ref 89), some (.int x730), none, none, none, none]) (st' := [.int x730, .ref 89]) (h' := (HM P w T)) (cs' := 0) (sl' := 0) rfl ?_
  obtain ⟨c731, hq, h⟩ := ai_bdE h
  refine ev_call (M' := mm_comesDown) (L' := [some (.ref 89), some (.int x730), none, none, none]) (rest := []) (rv := none) (h' := (HM P c731 T)) rfl (Em_comesDown_89 n x730 w _ hq P T) ?_
  show ai_ev D1 mm_driftsTo 5 [some (.ref 89), some (.int x730), none, none, none, none] [] (HM P c731 T) 0 0 _
  refine ev_go 4 (pc' := 9) (L' := [some (.ref 89), some (.int x730), some (.int x730), some (.int 0), none, none]) (st' := []) (h' := (HM P c731 T)) (cs' := 0) (sl' := 0) rfl ?_
  exact ih0 _ _ _ _ _ _ h P T _ _
set_option maxHeartbeats 40000000 in
set_option maxRecDepth 100000 in
theorem EGm_wentIn_89 : ∀ n : Nat, (∀ (y725 : Int32) (y726 : Int32) (y727 : Int32) (y728 : Int32) (w : WM) (r : Int32) (w' : WM), Gm_wentIn_89 n 0 y725 y726 y727 y728 w = some (r, w') → ∀ (P : Nat → ai_E) (T : ai_H), ai_ev D1 mm_wentIn 31 [some (.ref 89), some (.int y725), some (.int y726), some (.int y727), some (.int y728)] [] (HM P w T) 0 0 (some (.int r), HM P w' T)) := by
  intro n
  induction n with
  | zero =>
    exact (fun _ _ _ _ _ _ _ h => by cases h)
  | succ n ih0 =>
    intro y725 y726 y727 y728 w r w' h P T
    simp only [Gm_wentIn_89] at h
    refine ev_go 4 (pc' := 38) (L' := [some (.ref 89), some (.int y725), some (.int y726), some (.int y727), some (.int y728)]) (st' := [.int 0, .ref 90, .int y728]) (h' := (HM P w T)) (cs' := 0) (sl' := 0) rfl ?_
    obtain ⟨v729, hq, h⟩ := ai_bdE h
    refine ev_iald rfl rfl hq ?_
    rcases ai_ifE h with ⟨hc, h⟩ | ⟨hc, h⟩
    · refine ev_ic_ge (t := 69) rfl rfl (fun _ => ?_) (fun c9 => absurd hc c9)
      refine ev_go 1 (pc' := 70) (L' := [some (.ref 89), some (.int y725), some (.int y726), some (.int y727), some (.int y728)]) (st' := [.int y727]) (h' := (HM P w T)) (cs' := 0) (sl' := 0) rfl ?_
      obtain ⟨rfl, rfl⟩ := ai_smP h
      exact ev_end rfl
    · refine ev_ic_ge (t := 69) rfl rfl (fun c9 => absurd c9 hc) (fun _ => ?_)
      refine ev_go 3 (pc' := 46) (L' := [some (.ref 89), some (.int y725), some (.int y726), some (.int y727), some (.int y728)]) (st' := [.int y728, .ref 89, .int y727]) (h' := (HM P w T)) (cs' := 0) (sl' := 0) rfl ?_
      obtain ⟨c745, hq, h⟩ := ai_bdE h
      refine ev_call (M' := mm_driftsTo) (L' := [some (.ref 89), some (.int y728), none, none, none, none]) (rest := [.int y727]) (rv := some (.int c745.1)) (h' := (HM P c745.2 T)) rfl (Em_driftsTo_89 n y728 w _ _ hq P T) ?_
      show ai_ev D1 mm_wentIn 49 [some (.ref 89), some (.int y725), some (.int y726), some (.int y727), some (.int y728)] [.int c745.1, .int y727] (HM P c745.2 T) 0 0 _
      refine ev_go 1 (pc' := 50) (L' := [some (.ref 89), some (.int y725), some (.int y726), some (.int y727), some (.int y728)]) (st' := [.int y726, .int c745.1, .int y727]) (h' := (HM P c745.2 T)) (cs' := 0) (sl' := 0) rfl ?_
      rcases ai_ifE h with ⟨hc, h⟩ | ⟨hc, h⟩
      · refine ev_ic_ne (t := 60) rfl rfl (fun c9 => absurd hc c9) (fun _ => ?_)
        refine ev_go 8 (pc' := 31) (L' := [some (.ref 89), some (.int y725), some (.int y726), some (.int (y727 ||| (1 <<< (y728 &&& 31)))), some (.int (y728 + 1))]) (st' := []) (h' := (HM P c745.2 T)) (cs' := 0) (sl' := 0) rfl ?_
        exact ih0 _ _ _ _ _ _ _ h P T
      · refine ev_ic_ne (t := 60) rfl rfl (fun _ => ?_) (fun c9 => absurd c9 hc)
        refine ev_go 5 (pc' := 31) (L' := [some (.ref 89), some (.int y725), some (.int y726), some (.int (y727 ||| 0)), some (.int (y728 + 1))]) (st' := []) (h' := (HM P c745.2 T)) (cs' := 0) (sl' := 0) rfl ?_
        exact ih0 _ _ _ _ _ _ _ h P T
set_option maxHeartbeats 40000000 in
set_option maxRecDepth 100000 in
theorem Em_wentIn_89 (n : Nat) (x718 : Int32) (x719 : Int32) (w : WM) (r : Int32) (w' : WM) (h : Fm_wentIn_89 n x718 x719 w = some (r, w')) (P : Nat → ai_E) (T : ai_H) : ai_ev D1 mm_wentIn 0 [some (.ref 89), some (.int x718), some (.int x719), none, none] [] (HM P w T) 0 0 (some (.int r), HM P w' T) := by
  unfold Fm_wentIn_89 at h
  have ih0 := EGm_wentIn_89 n
  refine ev_go 2 (pc' := 2) (L' := [some (.ref 89), some (.int x718), some (.int x719), none, none]) (st' := [.int x718, .ref 89]) (h' := (HM P w T)) (cs' := 0) (sl' := 0) rfl ?_
  obtain ⟨c720, hq, h⟩ := ai_bdE h
  refine ev_call (M' := mm_isThing) (L' := [some (.ref 89), some (.int x718)]) (rest := []) (rv := some (.int c720.1)) (h' := (HM P c720.2 T)) rfl (Em_isThing_89 x718 w _ _ hq P T) ?_
  show ai_ev D1 mm_wentIn 5 [some (.ref 89), some (.int x718), some (.int x719), none, none] [.int c720.1] (HM P c720.2 T) 0 0 _
  rcases ai_ifE h with ⟨hc, h⟩ | ⟨hc, h⟩
  · refine ev_if_eq (t := 16) rfl rfl (fun _ => ?_) (fun c9 => absurd hc c9)
    refine ev_go 1 (pc' := 17) (L' := [some (.ref 89), some (.int x718), some (.int x719), none, none]) (st' := [.ref 89]) (h' := (HM P c720.2 T)) (cs' := 0) (sl' := 0) rfl ?_
    obtain ⟨c721, hq, h⟩ := ai_bdE h
    refine ev_call (M' := mm_bad) (L' := [some (.ref 89)]) (rest := []) (rv := some (.int c721.1)) (h' := (HM P c721.2 T)) rfl (Em_bad_89 c720.2 _ _ hq P T) ?_
    show ai_ev D1 mm_wentIn 20 [some (.ref 89), some (.int x718), some (.int x719), none, none] [.int c721.1] (HM P c721.2 T) 0 0 _
    obtain ⟨rfl, rfl⟩ := ai_smP h
    exact ev_end rfl
  · refine ev_if_eq (t := 16) rfl rfl (fun c9 => absurd c9 hc) (fun _ => ?_)
    refine ev_go 2 (pc' := 10) (L' := [some (.ref 89), some (.int x718), some (.int x719), none, none]) (st' := [.int x719, .ref 89]) (h' := (HM P c720.2 T)) (cs' := 0) (sl' := 0) rfl ?_
    obtain ⟨c722, hq, h⟩ := ai_bdE h
    refine ev_call (M' := mm_isCell) (L' := [some (.ref 89), some (.int x719)]) (rest := []) (rv := some (.int c722.1)) (h' := (HM P c722.2 T)) rfl (Em_isCell_89 x719 c720.2 _ _ hq P T) ?_
    show ai_ev D1 mm_wentIn 13 [some (.ref 89), some (.int x718), some (.int x719), none, none] [.int c722.1] (HM P c722.2 T) 0 0 _
    rcases ai_ifE h with ⟨hc, h⟩ | ⟨hc, h⟩
    · refine ev_if_ne (t := 21) rfl rfl (fun c9 => absurd hc c9) (fun _ => ?_)
      refine ev_go 1 (pc' := 17) (L' := [some (.ref 89), some (.int x718), some (.int x719), none, none]) (st' := [.ref 89]) (h' := (HM P c722.2 T)) (cs' := 0) (sl' := 0) rfl ?_
      obtain ⟨c724, hq, h⟩ := ai_bdE h
      refine ev_call (M' := mm_bad) (L' := [some (.ref 89)]) (rest := []) (rv := some (.int c724.1)) (h' := (HM P c724.2 T)) rfl (Em_bad_89 c722.2 _ _ hq P T) ?_
      show ai_ev D1 mm_wentIn 20 [some (.ref 89), some (.int x718), some (.int x719), none, none] [.int c724.1] (HM P c724.2 T) 0 0 _
      obtain ⟨rfl, rfl⟩ := ai_smP h
      exact ev_end rfl
    · refine ev_if_ne (t := 21) rfl rfl (fun _ => ?_) (fun c9 => absurd c9 hc)
      refine ev_go 2 (pc' := 23) (L' := [some (.ref 89), some (.int x718), some (.int x719), none, none]) (st' := [.int x718, .ref 89]) (h' := (HM P c722.2 T)) (cs' := 0) (sl' := 0) rfl ?_
      obtain ⟨c723, hq, h⟩ := ai_bdE h
      refine ev_call (M' := mm_lay) (L' := [some (.ref 89), some (.int x718)]) (rest := []) (rv := none) (h' := (HM P c723 T)) rfl (Em_lay_89 x718 c722.2 _ hq P T) ?_
      show ai_ev D1 mm_wentIn 26 [some (.ref 89), some (.int x718), some (.int x719), none, none] [] (HM P c723 T) 0 0 _
      refine ev_go 4 (pc' := 31) (L' := [some (.ref 89), some (.int x718), some (.int x719), some (.int 0), some (.int 0)]) (st' := []) (h' := (HM P c723 T)) (cs' := 0) (sl' := 0) rfl ?_
      exact ih0 _ _ _ _ _ _ _ h P T
set_option maxHeartbeats 40000000 in
set_option maxRecDepth 100000 in
theorem EGm_nets_89 : ∀ n : Nat, (∀ (y756 : Int32) (y757 : Int32) (y758 : Int32) (y759 : Int32) (w : WM) (r : Int32) (w' : WM), Gm_nets_89 n 0 y756 y757 y758 y759 0 0 0 0 0 0 w = some (r, w') → ∀ (P : Nat → ai_E) (T : ai_H) (o5 o6 o7 o8 o9 o10 : Option Value), ai_ev D1 mm_nets 48 [some (.ref 89), some (.int y756), some (.int y757), some (.int y758), some (.int y759), o5, o6, o7, o8, o9, o10] [] (HM P w T) 0 0 (some (.int r), HM P w' T)) ∧ (∀ (y764 : Int32) (y765 : Int32) (y766 : Int32) (y767 : Int32) (y768 : Int32) (y769 : Int32) (w : WM) (r : Int32) (w' : WM), Gm_nets_89 n 1 y764 y765 y766 y767 y768 y769 0 0 0 0 w = some (r, w') → ∀ (P : Nat → ai_E) (T : ai_H) (o7 o8 o9 o10 : Option Value), ai_ev D1 mm_nets 104 [some (.ref 89), some (.int y764), some (.int y765), some (.int y766), some (.int y767), some (.int y768), some (.int y769), o7, o8, o9, o10] [] (HM P w T) 0 0 (some (.int r), HM P w' T)) ∧ (∀ (y770 : Int32) (y771 : Int32) (y772 : Int32) (y773 : Int32) (y774 : Int32) (y775 : Int32) (y776 : Int32) (y777 : Int32) (y778 : Int32) (y779 : Int32) (w : WM) (r : Int32) (w' : WM), Gm_nets_89 n 2 y770 y771 y772 y773 y774 y775 y776 y777 y778 y779 w = some (r, w') → ∀ (P : Nat → ai_E) (T : ai_H), ai_ev D1 mm_nets 143 [some (.ref 89), some (.int y770), some (.int y771), some (.int y772), some (.int y773), some (.int y774), some (.int y775), some (.int y776), some (.int y777), some (.int y778), some (.int y779)] [] (HM P w T) 0 0 (some (.int r), HM P w' T)) := by
  intro n
  induction n with
  | zero =>
    exact ⟨(fun _ _ _ _ _ _ _ h => by cases h), (fun _ _ _ _ _ _ _ _ _ h => by cases h), (fun _ _ _ _ _ _ _ _ _ _ _ _ _ h => by cases h)⟩
  | succ n ih =>
    obtain ⟨ih0, ih1, ih2⟩ := ih
    refine ⟨?_, ?_, ?_⟩
    · intro y756 y757 y758 y759 w r w' h P T o5 o6 o7 o8 o9 o10
      simp only [Gm_nets_89] at h
      refine ev_go 4 (pc' := 55) (L' := [some (.ref 89), some (.int y756), some (.int y757), some (.int y758), some (.int y759), o5, o6, o7, o8, o9, o10]) (st' := [.int 2, .ref 90, .int y759]) (h' := (HM P w T)) (cs' := 0) (sl' := 0) rfl ?_
      obtain ⟨v760, hq, h⟩ := ai_bdE h
      refine ev_iald rfl rfl hq ?_
      rcases ai_ifE h with ⟨hc, h⟩ | ⟨hc, h⟩
      · refine ev_ic_ge (t := 95) rfl rfl (fun _ => ?_) (fun c9 => absurd hc c9)
        refine ev_go 6 (pc' := 104) (L' := [some (.ref 89), some (.int y756), some (.int y757), some (.int y758), some (.int 0), some (.int (-1)), some (.int 0), o7, o8, o9, o10]) (st' := []) (h' := (HM P w T)) (cs' := 0) (sl' := 0) rfl ?_
        exact ih1 _ _ _ _ _ _ _ _ _ h P T _ _ _ _
      · refine ev_ic_ge (t := 95) rfl rfl (fun c9 => absurd c9 hc) (fun _ => ?_)
        refine ev_go 2 (pc' := 62) (L' := [some (.ref 89), some (.int y756), some (.int y757), some (.int y758), some (.int y759), o5, o6, o7, o8, o9, o10]) (st' := [.int y759, .int y757]) (h' := (HM P w T)) (cs' := 0) (sl' := 0) rfl ?_
        obtain ⟨c761, hq, h⟩ := ai_bdE h
        refine ev_call (M' := mm_has) (L' := [some (.int y757), some (.int y759)]) (rest := []) (rv := some (.int c761)) (h' := (HM P w T)) rfl (Em_has y757 y759 _ hq (HM P w T)) ?_
        show ai_ev D1 mm_nets 65 [some (.ref 89), some (.int y756), some (.int y757), some (.int y758), some (.int y759), o5, o6, o7, o8, o9, o10] [.int c761] (HM P w T) 0 0 _
        rcases ai_ifE h with ⟨hc, h⟩ | ⟨hc, h⟩
        · refine ev_if_eq (t := 89) rfl rfl (fun _ => ?_) (fun c9 => absurd hc c9)
          refine ev_go 2 (pc' := 48) (L' := [some (.ref 89), some (.int y756), some (.int y757), some (.int y758), some (.int (y759 + 1)), o5, o6, o7, o8, o9, o10]) (st' := []) (h' := (HM P w T)) (cs' := 0) (sl' := 0) rfl ?_
          exact ih0 _ _ _ _ _ _ _ h P T _ _ _ _ _ _
        · refine ev_if_eq (t := 89) rfl rfl (fun c9 => absurd c9 hc) (fun _ => ?_)
          refine ev_go 5 (pc' := 77) (L' := [some (.ref 89), some (.int y756), some (.int y757), some (.int y758), some (.int y759), o5, o6, o7, o8, o9, o10]) (st' := [.int (67 + y759), .ref 90]) (h' := (HM P w T)) (cs' := 0) (sl' := 0) rfl ?_
          obtain ⟨v762, hq, h⟩ := ai_bdE h
          refine ev_iald rfl rfl hq ?_
          refine ev_go 1 (pc' := 79) (L' := [some (.ref 89), some (.int y756), some (.int y757), some (.int y758), some (.int y759), o5, o6, o7, o8, o9, o10]) (st' := [.int 5, .int v762]) (h' := (HM P w T)) (cs' := 0) (sl' := 0) rfl ?_
          rcases ai_ifE h with ⟨hc, h⟩ | ⟨hc, h⟩
          · refine ev_ic_eq (t := 89) rfl rfl (fun _ => ?_) (fun c9 => absurd hc c9)
            refine ev_go 2 (pc' := 48) (L' := [some (.ref 89), some (.int y756), some (.int y757), some (.int y758), some (.int (y759 + 1)), o5, o6, o7, o8, o9, o10]) (st' := []) (h' := (HM P w T)) (cs' := 0) (sl' := 0) rfl ?_
            exact ih0 _ _ _ _ _ _ _ h P T _ _ _ _ _ _
          · refine ev_ic_eq (t := 89) rfl rfl (fun c9 => absurd c9 hc) (fun _ => ?_)
            refine ev_go 2 (pc' := 85) (L' := [some (.ref 89), some (.int y756), some (.int y757), some (.int y758), some (.int y759), o5, o6, o7, o8, o9, o10]) (st' := [.int (-10), .ref 89]) (h' := (HM P w T)) (cs' := 0) (sl' := 0) rfl ?_
            obtain ⟨c763, hq, h⟩ := ai_bdE h
            refine ev_call (M' := mm_badAs) (L' := [some (.ref 89), some (.int (-10))]) (rest := []) (rv := some (.int c763.1)) (h' := (HM P c763.2 T)) rfl (Em_badAs_89 (-10) w _ _ hq P T) ?_
            show ai_ev D1 mm_nets 88 [some (.ref 89), some (.int y756), some (.int y757), some (.int y758), some (.int y759), o5, o6, o7, o8, o9, o10] [.int c763.1] (HM P c763.2 T) 0 0 _
            obtain ⟨rfl, rfl⟩ := ai_smP h
            exact ev_end rfl
    · intro y764 y765 y766 y767 y768 y769 w r w' h P T o7 o8 o9 o10
      simp only [Gm_nets_89] at h
      refine ev_go 2 (pc' := 109) (L' := [some (.ref 89), some (.int y764), some (.int y765), some (.int y766), some (.int y767), some (.int y768), some (.int y769), o7, o8, o9, o10]) (st' := [.int 3721, .int y769]) (h' := (HM P w T)) (cs' := 0) (sl' := 0) rfl ?_
      rcases ai_ifE h with ⟨hc, h⟩ | ⟨hc, h⟩
      · refine ev_ic_ge (t := 266) rfl rfl (fun _ => ?_) (fun c9 => absurd hc c9)
        refine ev_go 1 (pc' := 267) (L' := [some (.ref 89), some (.int y764), some (.int y765), some (.int y766), some (.int y767), some (.int y768), some (.int y769), o7, o8, o9, o10]) (st' := [.int y766]) (h' := (HM P w T)) (cs' := 0) (sl' := 0) rfl ?_
        rcases ai_ifE h with ⟨hc, h⟩ | ⟨hc, h⟩
        · refine ev_if_ne (t := 275) rfl rfl (fun c9 => absurd hc c9) (fun _ => ?_)
          refine ev_go 2 (pc' := 277) (L' := [some (.ref 89), some (.int y764), some (.int y765), some (.int y766), some (.int y767), some (.int y768), some (.int y769), o7, o8, o9, o10]) (st' := [.int y767]) (h' := (HM P w T)) (cs' := 0) (sl' := 0) rfl ?_
          obtain ⟨rfl, rfl⟩ := ai_smP h
          exact ev_end rfl
        · refine ev_if_ne (t := 275) rfl rfl (fun _ => ?_) (fun c9 => absurd c9 hc)
          refine ev_go 1 (pc' := 277) (L' := [some (.ref 89), some (.int y764), some (.int y765), some (.int y766), some (.int y767), some (.int y768), some (.int y769), o7, o8, o9, o10]) (st' := [.int y768]) (h' := (HM P w T)) (cs' := 0) (sl' := 0) rfl ?_
          obtain ⟨rfl, rfl⟩ := ai_smP h
          exact ev_end rfl
      · refine ev_ic_ge (t := 266) rfl rfl (fun c9 => absurd c9 hc) (fun _ => ?_)
        refine ev_go 10 (pc' := 130) (L' := [some (.ref 89), some (.int y764), some (.int y765), some (.int y766), some (.int y767), some (.int y768), some (.int y769), some (.int (y769 / 61)), some (.int (y769 - y769 / 61 * 61)), o9, o10]) (st' := [.int (y769 - y769 / 61 * 61), .int (y769 / 61)]) (h' := (HM P w T)) (cs' := 0) (sl' := 0) rfl ?_
        rcases ai_ifE h with ⟨hc, h⟩ | ⟨hc, h⟩
        · refine ev_ic_gt (t := 137) rfl rfl (fun _ => ?_) (fun c9 => absurd hc c9)
          refine ev_go 4 (pc' := 143) (L' := [some (.ref 89), some (.int y764), some (.int y765), some (.int y766), some (.int y767), some (.int y768), some (.int y769), some (.int (y769 / 61)), some (.int (y769 - y769 / 61 * 61)), some (.int 0), some (.int 0)]) (st' := []) (h' := (HM P w T)) (cs' := 0) (sl' := 0) rfl ?_
          exact ih2 _ _ _ _ _ _ _ _ _ _ _ _ _ h P T
        · refine ev_ic_gt (t := 137) rfl rfl (fun c9 => absurd c9 hc) (fun _ => ?_)
          refine ev_go 5 (pc' := 143) (L' := [some (.ref 89), some (.int y764), some (.int y765), some (.int y766), some (.int y767), some (.int y768), some (.int y769), some (.int (y769 / 61)), some (.int (y769 - y769 / 61 * 61)), some (.int 1), some (.int 0)]) (st' := []) (h' := (HM P w T)) (cs' := 0) (sl' := 0) rfl ?_
          exact ih2 _ _ _ _ _ _ _ _ _ _ _ _ _ h P T
    · intro y770 y771 y772 y773 y774 y775 y776 y777 y778 y779 w r w' h P T
      simp only [Gm_nets_89] at h
      refine ev_go 4 (pc' := 150) (L' := [some (.ref 89), some (.int y770), some (.int y771), some (.int y772), some (.int y773), some (.int y774), some (.int y775), some (.int y776), some (.int y777), some (.int y778), some (.int y779)]) (st' := [.int 2, .ref 90, .int y779]) (h' := (HM P w T)) (cs' := 0) (sl' := 0) rfl ?_
      obtain ⟨v780, hq, h⟩ := ai_bdE h
      refine ev_iald rfl rfl hq ?_
      rcases ai_ifE h with ⟨hc, h⟩ | ⟨hc, h⟩
      · refine ev_ic_ge (t := 220) rfl rfl (fun _ => ?_) (fun c9 => absurd hc c9)
        refine ev_go 1 (pc' := 222) (L' := [some (.ref 89), some (.int y770), some (.int y771), some (.int y772), some (.int y773), some (.int y774), some (.int y775), some (.int y776), some (.int y777), some (.int y778), some (.int y779)]) (st' := [.int y778]) (h' := (HM P w T)) (cs' := 0) (sl' := 0) rfl ?_
        rcases ai_ifE h with ⟨hc, h⟩ | ⟨hc, h⟩
        · refine ev_if_eq (t := 241) rfl rfl (fun _ => ?_) (fun c9 => absurd hc c9)
          refine ev_go 4 (pc' := 249) (L' := [some (.ref 89), some (.int y770), some (.int y771), some (.int y772), some (.int y773), some (.int y774), some (.int y775), some (.int y776), some (.int y777), some (.int y778), some (.int y779)]) (st' := [.int y778, .int y773]) (h' := (HM P w T)) (cs' := 0) (sl' := 0) rfl ?_
          rcases ai_ifE h with ⟨hc, h⟩ | ⟨hc, h⟩
          · refine ev_if_eq (t := 256) rfl rfl (fun _ => ?_) (fun c9 => absurd hc c9)
            refine ev_go 5 (pc' := 104) (L' := [some (.ref 89), some (.int y770), some (.int y771), some (.int y772), some (.int (y773 + 0)), some (.int y774), some (.int (y775 + 1)), some (.int y776), some (.int y777), some (.int y778), some (.int y779)]) (st' := []) (h' := (HM P w T)) (cs' := 0) (sl' := 0) rfl ?_
            exact ih1 _ _ _ _ _ _ _ _ _ h P T _ _ _ _
          · refine ev_if_eq (t := 256) rfl rfl (fun c9 => absurd c9 hc) (fun _ => ?_)
            refine ev_go 6 (pc' := 104) (L' := [some (.ref 89), some (.int y770), some (.int y771), some (.int y772), some (.int (y773 + 1)), some (.int y774), some (.int (y775 + 1)), some (.int y776), some (.int y777), some (.int y778), some (.int y779)]) (st' := []) (h' := (HM P w T)) (cs' := 0) (sl' := 0) rfl ?_
            exact ih1 _ _ _ _ _ _ _ _ _ h P T _ _ _ _
        · refine ev_if_eq (t := 241) rfl rfl (fun c9 => absurd c9 hc) (fun _ => ?_)
          refine ev_go 1 (pc' := 227) (L' := [some (.ref 89), some (.int y770), some (.int y771), some (.int y772), some (.int y773), some (.int y774), some (.int y775), some (.int y776), some (.int y777), some (.int y778), some (.int y779)]) (st' := [.int y773]) (h' := (HM P w T)) (cs' := 0) (sl' := 0) rfl ?_
          rcases ai_ifE h with ⟨hc, h⟩ | ⟨hc, h⟩
          · refine ev_if_ne (t := 241) rfl rfl (fun c9 => absurd hc c9) (fun _ => ?_)
            refine ev_go 9 (pc' := 249) (L' := [some (.ref 89), some (.int y770), some (.int y771), some (.int y772), some (.int y773), some (.int ((100 * y776) + y777)), some (.int y775), some (.int y776), some (.int y777), some (.int y778), some (.int y779)]) (st' := [.int y778, .int y773]) (h' := (HM P w T)) (cs' := 0) (sl' := 0) rfl ?_
            rcases ai_ifE h with ⟨hc, h⟩ | ⟨hc, h⟩
            · refine ev_if_eq (t := 256) rfl rfl (fun _ => ?_) (fun c9 => absurd hc c9)
              refine ev_go 5 (pc' := 104) (L' := [some (.ref 89), some (.int y770), some (.int y771), some (.int y772), some (.int (y773 + 0)), some (.int ((100 * y776) + y777)), some (.int (y775 + 1)), some (.int y776), some (.int y777), some (.int y778), some (.int y779)]) (st' := []) (h' := (HM P w T)) (cs' := 0) (sl' := 0) rfl ?_
              exact ih1 _ _ _ _ _ _ _ _ _ h P T _ _ _ _
            · refine ev_if_eq (t := 256) rfl rfl (fun c9 => absurd c9 hc) (fun _ => ?_)
              refine ev_go 6 (pc' := 104) (L' := [some (.ref 89), some (.int y770), some (.int y771), some (.int y772), some (.int (y773 + 1)), some (.int ((100 * y776) + y777)), some (.int (y775 + 1)), some (.int y776), some (.int y777), some (.int y778), some (.int y779)]) (st' := []) (h' := (HM P w T)) (cs' := 0) (sl' := 0) rfl ?_
              exact ih1 _ _ _ _ _ _ _ _ _ h P T _ _ _ _
          · refine ev_if_ne (t := 241) rfl rfl (fun _ => ?_) (fun c9 => absurd c9 hc)
            refine ev_go 4 (pc' := 249) (L' := [some (.ref 89), some (.int y770), some (.int y771), some (.int y772), some (.int y773), some (.int y774), some (.int y775), some (.int y776), some (.int y777), some (.int y778), some (.int y779)]) (st' := [.int y778, .int y773]) (h' := (HM P w T)) (cs' := 0) (sl' := 0) rfl ?_
            rcases ai_ifE h with ⟨hc, h⟩ | ⟨hc, h⟩
            · refine ev_if_eq (t := 256) rfl rfl (fun _ => ?_) (fun c9 => absurd hc c9)
              refine ev_go 5 (pc' := 104) (L' := [some (.ref 89), some (.int y770), some (.int y771), some (.int y772), some (.int (y773 + 0)), some (.int y774), some (.int (y775 + 1)), some (.int y776), some (.int y777), some (.int y778), some (.int y779)]) (st' := []) (h' := (HM P w T)) (cs' := 0) (sl' := 0) rfl ?_
              exact ih1 _ _ _ _ _ _ _ _ _ h P T _ _ _ _
            · refine ev_if_eq (t := 256) rfl rfl (fun c9 => absurd c9 hc) (fun _ => ?_)
              refine ev_go 6 (pc' := 104) (L' := [some (.ref 89), some (.int y770), some (.int y771), some (.int y772), some (.int (y773 + 1)), some (.int y774), some (.int (y775 + 1)), some (.int y776), some (.int y777), some (.int y778), some (.int y779)]) (st' := []) (h' := (HM P w T)) (cs' := 0) (sl' := 0) rfl ?_
              exact ih1 _ _ _ _ _ _ _ _ _ h P T _ _ _ _
      · refine ev_ic_ge (t := 220) rfl rfl (fun c9 => absurd c9 hc) (fun _ => ?_)
        refine ev_go 1 (pc' := 156) (L' := [some (.ref 89), some (.int y770), some (.int y771), some (.int y772), some (.int y773), some (.int y774), some (.int y775), some (.int y776), some (.int y777), some (.int y778), some (.int y779)]) (st' := [.int y778]) (h' := (HM P w T)) (cs' := 0) (sl' := 0) rfl ?_
        rcases ai_ifE h with ⟨hc, h⟩ | ⟨hc, h⟩
        · refine ev_if_eq (t := 220) rfl rfl (fun _ => ?_) (fun c9 => absurd hc c9)
          refine ev_go 1 (pc' := 222) (L' := [some (.ref 89), some (.int y770), some (.int y771), some (.int y772), some (.int y773), some (.int y774), some (.int y775), some (.int y776), some (.int y777), some (.int y778), some (.int y779)]) (st' := [.int y778]) (h' := (HM P w T)) (cs' := 0) (sl' := 0) rfl ?_
          rcases ai_ifE h with ⟨hc, h⟩ | ⟨hc, h⟩
          · refine ev_if_eq (t := 241) rfl rfl (fun _ => ?_) (fun c9 => absurd hc c9)
            refine ev_go 4 (pc' := 249) (L' := [some (.ref 89), some (.int y770), some (.int y771), some (.int y772), some (.int y773), some (.int y774), some (.int y775), some (.int y776), some (.int y777), some (.int y778), some (.int y779)]) (st' := [.int y778, .int y773]) (h' := (HM P w T)) (cs' := 0) (sl' := 0) rfl ?_
            rcases ai_ifE h with ⟨hc, h⟩ | ⟨hc, h⟩
            · refine ev_if_eq (t := 256) rfl rfl (fun _ => ?_) (fun c9 => absurd hc c9)
              refine ev_go 5 (pc' := 104) (L' := [some (.ref 89), some (.int y770), some (.int y771), some (.int y772), some (.int (y773 + 0)), some (.int y774), some (.int (y775 + 1)), some (.int y776), some (.int y777), some (.int y778), some (.int y779)]) (st' := []) (h' := (HM P w T)) (cs' := 0) (sl' := 0) rfl ?_
              exact ih1 _ _ _ _ _ _ _ _ _ h P T _ _ _ _
            · refine ev_if_eq (t := 256) rfl rfl (fun c9 => absurd c9 hc) (fun _ => ?_)
              refine ev_go 6 (pc' := 104) (L' := [some (.ref 89), some (.int y770), some (.int y771), some (.int y772), some (.int (y773 + 1)), some (.int y774), some (.int (y775 + 1)), some (.int y776), some (.int y777), some (.int y778), some (.int y779)]) (st' := []) (h' := (HM P w T)) (cs' := 0) (sl' := 0) rfl ?_
              exact ih1 _ _ _ _ _ _ _ _ _ h P T _ _ _ _
          · refine ev_if_eq (t := 241) rfl rfl (fun c9 => absurd c9 hc) (fun _ => ?_)
            refine ev_go 1 (pc' := 227) (L' := [some (.ref 89), some (.int y770), some (.int y771), some (.int y772), some (.int y773), some (.int y774), some (.int y775), some (.int y776), some (.int y777), some (.int y778), some (.int y779)]) (st' := [.int y773]) (h' := (HM P w T)) (cs' := 0) (sl' := 0) rfl ?_
            rcases ai_ifE h with ⟨hc, h⟩ | ⟨hc, h⟩
            · refine ev_if_ne (t := 241) rfl rfl (fun c9 => absurd hc c9) (fun _ => ?_)
              refine ev_go 9 (pc' := 249) (L' := [some (.ref 89), some (.int y770), some (.int y771), some (.int y772), some (.int y773), some (.int ((100 * y776) + y777)), some (.int y775), some (.int y776), some (.int y777), some (.int y778), some (.int y779)]) (st' := [.int y778, .int y773]) (h' := (HM P w T)) (cs' := 0) (sl' := 0) rfl ?_
              rcases ai_ifE h with ⟨hc, h⟩ | ⟨hc, h⟩
              · refine ev_if_eq (t := 256) rfl rfl (fun _ => ?_) (fun c9 => absurd hc c9)
                refine ev_go 5 (pc' := 104) (L' := [some (.ref 89), some (.int y770), some (.int y771), some (.int y772), some (.int (y773 + 0)), some (.int ((100 * y776) + y777)), some (.int (y775 + 1)), some (.int y776), some (.int y777), some (.int y778), some (.int y779)]) (st' := []) (h' := (HM P w T)) (cs' := 0) (sl' := 0) rfl ?_
                exact ih1 _ _ _ _ _ _ _ _ _ h P T _ _ _ _
              · refine ev_if_eq (t := 256) rfl rfl (fun c9 => absurd c9 hc) (fun _ => ?_)
                refine ev_go 6 (pc' := 104) (L' := [some (.ref 89), some (.int y770), some (.int y771), some (.int y772), some (.int (y773 + 1)), some (.int ((100 * y776) + y777)), some (.int (y775 + 1)), some (.int y776), some (.int y777), some (.int y778), some (.int y779)]) (st' := []) (h' := (HM P w T)) (cs' := 0) (sl' := 0) rfl ?_
                exact ih1 _ _ _ _ _ _ _ _ _ h P T _ _ _ _
            · refine ev_if_ne (t := 241) rfl rfl (fun _ => ?_) (fun c9 => absurd c9 hc)
              refine ev_go 4 (pc' := 249) (L' := [some (.ref 89), some (.int y770), some (.int y771), some (.int y772), some (.int y773), some (.int y774), some (.int y775), some (.int y776), some (.int y777), some (.int y778), some (.int y779)]) (st' := [.int y778, .int y773]) (h' := (HM P w T)) (cs' := 0) (sl' := 0) rfl ?_
              rcases ai_ifE h with ⟨hc, h⟩ | ⟨hc, h⟩
              · refine ev_if_eq (t := 256) rfl rfl (fun _ => ?_) (fun c9 => absurd hc c9)
                refine ev_go 5 (pc' := 104) (L' := [some (.ref 89), some (.int y770), some (.int y771), some (.int y772), some (.int (y773 + 0)), some (.int y774), some (.int (y775 + 1)), some (.int y776), some (.int y777), some (.int y778), some (.int y779)]) (st' := []) (h' := (HM P w T)) (cs' := 0) (sl' := 0) rfl ?_
                exact ih1 _ _ _ _ _ _ _ _ _ h P T _ _ _ _
              · refine ev_if_eq (t := 256) rfl rfl (fun c9 => absurd c9 hc) (fun _ => ?_)
                refine ev_go 6 (pc' := 104) (L' := [some (.ref 89), some (.int y770), some (.int y771), some (.int y772), some (.int (y773 + 1)), some (.int y774), some (.int (y775 + 1)), some (.int y776), some (.int y777), some (.int y778), some (.int y779)]) (st' := []) (h' := (HM P w T)) (cs' := 0) (sl' := 0) rfl ?_
                exact ih1 _ _ _ _ _ _ _ _ _ h P T _ _ _ _
        · refine ev_if_eq (t := 220) rfl rfl (fun c9 => absurd c9 hc) (fun _ => ?_)
          refine ev_go 5 (pc' := 168) (L' := [some (.ref 89), some (.int y770), some (.int y771), some (.int y772), some (.int y773), some (.int y774), some (.int y775), some (.int y776), some (.int y777), some (.int y778), some (.int y779)]) (st' := [.int (67 + y779), .ref 90]) (h' := (HM P w T)) (cs' := 0) (sl' := 0) rfl ?_
          obtain ⟨v781, hq, h⟩ := ai_bdE h
          refine ev_iald rfl rfl hq ?_
          refine ev_go 1 (pc' := 170) (L' := [some (.ref 89), some (.int y770), some (.int y771), some (.int y772), some (.int y773), some (.int y774), some (.int y775), some (.int y776), some (.int y777), some (.int y778), some (.int y779)]) (st' := [.int 5, .int v781]) (h' := (HM P w T)) (cs' := 0) (sl' := 0) rfl ?_
          rcases ai_ifE h with ⟨hc, h⟩ | ⟨hc, h⟩
          · refine ev_ic_ne (t := 214) rfl rfl (fun c9 => absurd hc c9) (fun _ => ?_)
            refine ev_go 2 (pc' := 176) (L' := [some (.ref 89), some (.int y770), some (.int y771), some (.int y772), some (.int y773), some (.int y774), some (.int y775), some (.int y776), some (.int y777), some (.int y778), some (.int y779)]) (st' := [.int y779, .ref 89]) (h' := (HM P w T)) (cs' := 0) (sl' := 0) rfl ?_
            obtain ⟨c782, hq, h⟩ := ai_bdE h
            refine ev_call (M' := mm_lay) (L' := [some (.ref 89), some (.int y779)]) (rest := []) (rv := none) (h' := (HM P c782 T)) rfl (Em_lay_89 y779 w _ hq P T) ?_
            show ai_ev D1 mm_nets 179 [some (.ref 89), some (.int y770), some (.int y771), some (.int y772), some (.int y773), some (.int y774), some (.int y775), some (.int y776), some (.int y777), some (.int y778), some (.int y779)] [] (HM P c782 T) 0 0 _
            refine ev_go 2 (pc' := 181) (L' := [some (.ref 89), some (.int y770), some (.int y771), some (.int y772), some (.int y773), some (.int y774), some (.int y775), some (.int y776), some (.int y777), some (.int y778), some (.int y779)]) (st' := [.int y770, .ref 89]) (h' := (HM P c782 T)) (cs' := 0) (sl' := 0) rfl ?_
            obtain ⟨c783, hq, h⟩ := ai_bdE h
            refine ev_call (M' := mm_comesDown) (L' := [some (.ref 89), some (.int y770), none, none, none]) (rest := []) (rv := none) (h' := (HM P c783 T)) rfl (Em_comesDown_89 n y770 c782 _ hq P T) ?_
            show ai_ev D1 mm_nets 184 [some (.ref 89), some (.int y770), some (.int y771), some (.int y772), some (.int y773), some (.int y774), some (.int y775), some (.int y776), some (.int y777), some (.int y778), some (.int y779)] [] (HM P c783 T) 0 0 _
            refine ev_go 7 (pc' := 195) (L' := [some (.ref 89), some (.int y770), some (.int y771), some (.int y772), some (.int y773), some (.int y774), some (.int y775), some (.int y776), some (.int y777), some (.int y778), some (.int y779)]) (st' := [.long (y777).toInt64, .long (y776).toInt64, .long ((a_m_down c783)).toInt64]) (h' := (HM P c783 T)) (cs' := 0) (sl' := 0) rfl ?_
            obtain ⟨c784, hq, h⟩ := ai_bdE h
            refine ev_call (M' := mm_in) (L' := [some (.long ((a_m_down c783)).toInt64), none, some (.long (y776).toInt64), none, some (.long (y777).toInt64), none]) (rest := []) (rv := some (.int c784)) (h' := (HM P c783 T)) rfl (Em_in ((a_m_down c783)).toInt64 (y776).toInt64 (y777).toInt64 _ hq (HM P c783 T)) ?_
            show ai_ev D1 mm_nets 198 [some (.ref 89), some (.int y770), some (.int y771), some (.int y772), some (.int y773), some (.int y774), some (.int y775), some (.int y776), some (.int y777), some (.int y778), some (.int y779)] [.int c784] (HM P c783 T) 0 0 _
            refine ev_go 2 (pc' := 201) (L' := [some (.ref 89), some (.int y770), some (.int y771), some (.int y772), some (.int y773), some (.int y774), some (.int y775), some (.int y776), some (.int y777), some (.int y778), some (.int y779)]) (st' := [.int y779, .int y771, .int c784]) (h' := (HM P c783 T)) (cs' := 0) (sl' := 0) rfl ?_
            obtain ⟨c785, hq, h⟩ := ai_bdE h
            refine ev_call (M' := mm_has) (L' := [some (.int y771), some (.int y779)]) (rest := [.int c784]) (rv := some (.int c785)) (h' := (HM P c783 T)) rfl (Em_has y771 y779 _ hq (HM P c783 T)) ?_
            show ai_ev D1 mm_nets 204 [some (.ref 89), some (.int y770), some (.int y771), some (.int y772), some (.int y773), some (.int y774), some (.int y775), some (.int y776), some (.int y777), some (.int y778), some (.int y779)] [.int c785, .int c784] (HM P c783 T) 0 0 _
            rcases ai_ifE h with ⟨hc, h⟩ | ⟨hc, h⟩
            · refine ev_ic_ne (t := 211) rfl rfl (fun c9 => absurd hc c9) (fun _ => ?_)
              refine ev_go 5 (pc' := 143) (L' := [some (.ref 89), some (.int y770), some (.int y771), some (.int y772), some (.int y773), some (.int y774), some (.int y775), some (.int y776), some (.int y777), some (.int 1), some (.int (y779 + 1))]) (st' := []) (h' := (HM P c783 T)) (cs' := 0) (sl' := 0) rfl ?_
              exact ih2 _ _ _ _ _ _ _ _ _ _ _ _ _ h P T
            · refine ev_ic_ne (t := 211) rfl rfl (fun _ => ?_) (fun c9 => absurd c9 hc)
              refine ev_go 4 (pc' := 143) (L' := [some (.ref 89), some (.int y770), some (.int y771), some (.int y772), some (.int y773), some (.int y774), some (.int y775), some (.int y776), some (.int y777), some (.int 0), some (.int (y779 + 1))]) (st' := []) (h' := (HM P c783 T)) (cs' := 0) (sl' := 0) rfl ?_
              exact ih2 _ _ _ _ _ _ _ _ _ _ _ _ _ h P T
          · refine ev_ic_ne (t := 214) rfl rfl (fun _ => ?_) (fun c9 => absurd c9 hc)
            refine ev_go 2 (pc' := 143) (L' := [some (.ref 89), some (.int y770), some (.int y771), some (.int y772), some (.int y773), some (.int y774), some (.int y775), some (.int y776), some (.int y777), some (.int y778), some (.int (y779 + 1))]) (st' := []) (h' := (HM P w T)) (cs' := 0) (sl' := 0) rfl ?_
            exact ih2 _ _ _ _ _ _ _ _ _ _ _ _ _ h P T
set_option maxHeartbeats 40000000 in
set_option maxRecDepth 100000 in
theorem Em_nets_89 (n : Nat) (x746 : Int32) (x747 : Int32) (x748 : Int32) (w : WM) (r : Int32) (w' : WM) (h : Fm_nets_89 n x746 x747 x748 w = some (r, w')) (P : Nat → ai_E) (T : ai_H) : ai_ev D1 mm_nets 0 [some (.ref 89), some (.int x746), some (.int x747), some (.int x748), none, none, none, none, none, none, none] [] (HM P w T) 0 0 (some (.int r), HM P w' T) := by
  unfold Fm_nets_89 at h
  obtain ⟨ih0, ih1, ih2⟩ := EGm_nets_89 n
  refine ev_go 2 (pc' := 2) (L' := [some (.ref 89), some (.int x746), some (.int x747), some (.int x748), none, none, none, none, none, none, none]) (st' := [.int x746, .ref 89]) (h' := (HM P w T)) (cs' := 0) (sl' := 0) rfl ?_
  obtain ⟨c749, hq, h⟩ := ai_bdE h
  refine ev_call (M' := mm_isCell) (L' := [some (.ref 89), some (.int x746)]) (rest := []) (rv := some (.int c749.1)) (h' := (HM P c749.2 T)) rfl (Em_isCell_89 x746 w _ _ hq P T) ?_
  show ai_ev D1 mm_nets 5 [some (.ref 89), some (.int x746), some (.int x747), some (.int x748), none, none, none, none, none, none, none] [.int c749.1] (HM P c749.2 T) 0 0 _
  rcases ai_ifE h with ⟨hc, h⟩ | ⟨hc, h⟩
  · refine ev_if_eq (t := 38) rfl rfl (fun _ => ?_) (fun c9 => absurd hc c9)
    refine ev_go 2 (pc' := 41) (L' := [some (.ref 89), some (.int x746), some (.int x747), some (.int x748), none, none, none, none, none, none, none]) (st' := [.int (-10), .ref 89]) (h' := (HM P c749.2 T)) (cs' := 0) (sl' := 0) rfl ?_
    obtain ⟨c750, hq, h⟩ := ai_bdE h
    refine ev_call (M' := mm_badAs) (L' := [some (.ref 89), some (.int (-10))]) (rest := []) (rv := some (.int c750.1)) (h' := (HM P c750.2 T)) rfl (Em_badAs_89 (-10) c749.2 _ _ hq P T) ?_
    show ai_ev D1 mm_nets 44 [some (.ref 89), some (.int x746), some (.int x747), some (.int x748), none, none, none, none, none, none, none] [.int c750.1] (HM P c750.2 T) 0 0 _
    obtain ⟨rfl, rfl⟩ := ai_smP h
    exact ev_end rfl
  · refine ev_if_eq (t := 38) rfl rfl (fun c9 => absurd c9 hc) (fun _ => ?_)
    refine ev_go 7 (pc' := 17) (L' := [some (.ref 89), some (.int x746), some (.int x747), some (.int x748), none, none, none, none, none, none, none]) (st' := [.int 2, .ref 90, .int 1, .long 0, .long (x747).toInt64]) (h' := (HM P c749.2 T)) (cs' := 0) (sl' := 0) rfl ?_
    obtain ⟨v751, hq, h⟩ := ai_bdE h
    refine ev_iald rfl rfl hq ?_
    refine ev_go 4 (pc' := 22) (L' := [some (.ref 89), some (.int x746), some (.int x747), some (.int x748), none, none, none, none, none, none, none]) (st' := [.long (((1 <<< (v751 &&& 31)) - 1)).toInt64, .long 0, .long (x747).toInt64]) (h' := (HM P c749.2 T)) (cs' := 0) (sl' := 0) rfl ?_
    obtain ⟨c752, hq, h⟩ := ai_bdE h
    refine ev_call (M' := mm_in) (L' := [some (.long (x747).toInt64), none, some (.long 0), none, some (.long (((1 <<< (v751 &&& 31)) - 1)).toInt64), none]) (rest := []) (rv := some (.int c752)) (h' := (HM P c749.2 T)) rfl (Em_in (x747).toInt64 0 (((1 <<< (v751 &&& 31)) - 1)).toInt64 _ hq (HM P c749.2 T)) ?_
    show ai_ev D1 mm_nets 25 [some (.ref 89), some (.int x746), some (.int x747), some (.int x748), none, none, none, none, none, none, none] [.int c752] (HM P c749.2 T) 0 0 _
    rcases ai_ifE h with ⟨hc, h⟩ | ⟨hc, h⟩
    · refine ev_if_eq (t := 38) rfl rfl (fun _ => ?_) (fun c9 => absurd hc c9)
      refine ev_go 2 (pc' := 41) (L' := [some (.ref 89), some (.int x746), some (.int x747), some (.int x748), none, none, none, none, none, none, none]) (st' := [.int (-10), .ref 89]) (h' := (HM P c749.2 T)) (cs' := 0) (sl' := 0) rfl ?_
      obtain ⟨c753, hq, h⟩ := ai_bdE h
      refine ev_call (M' := mm_badAs) (L' := [some (.ref 89), some (.int (-10))]) (rest := []) (rv := some (.int c753.1)) (h' := (HM P c753.2 T)) rfl (Em_badAs_89 (-10) c749.2 _ _ hq P T) ?_
      show ai_ev D1 mm_nets 44 [some (.ref 89), some (.int x746), some (.int x747), some (.int x748), none, none, none, none, none, none, none] [.int c753.1] (HM P c753.2 T) 0 0 _
      obtain ⟨rfl, rfl⟩ := ai_smP h
      exact ev_end rfl
    · refine ev_if_eq (t := 38) rfl rfl (fun c9 => absurd c9 hc) (fun _ => ?_)
      refine ev_go 4 (pc' := 32) (L' := [some (.ref 89), some (.int x746), some (.int x747), some (.int x748), none, none, none, none, none, none, none]) (st' := [.long 1, .long 0, .long (x748).toInt64]) (h' := (HM P c749.2 T)) (cs' := 0) (sl' := 0) rfl ?_
      obtain ⟨c754, hq, h⟩ := ai_bdE h
      refine ev_call (M' := mm_in) (L' := [some (.long (x748).toInt64), none, some (.long 0), none, some (.long 1), none]) (rest := []) (rv := some (.int c754)) (h' := (HM P c749.2 T)) rfl (Em_in (x748).toInt64 0 1 _ hq (HM P c749.2 T)) ?_
      show ai_ev D1 mm_nets 35 [some (.ref 89), some (.int x746), some (.int x747), some (.int x748), none, none, none, none, none, none, none] [.int c754] (HM P c749.2 T) 0 0 _
      rcases ai_ifE h with ⟨hc, h⟩ | ⟨hc, h⟩
      · refine ev_if_ne (t := 45) rfl rfl (fun c9 => absurd hc c9) (fun _ => ?_)
        refine ev_go 2 (pc' := 41) (L' := [some (.ref 89), some (.int x746), some (.int x747), some (.int x748), none, none, none, none, none, none, none]) (st' := [.int (-10), .ref 89]) (h' := (HM P c749.2 T)) (cs' := 0) (sl' := 0) rfl ?_
        obtain ⟨c755, hq, h⟩ := ai_bdE h
        refine ev_call (M' := mm_badAs) (L' := [some (.ref 89), some (.int (-10))]) (rest := []) (rv := some (.int c755.1)) (h' := (HM P c755.2 T)) rfl (Em_badAs_89 (-10) c749.2 _ _ hq P T) ?_
        show ai_ev D1 mm_nets 44 [some (.ref 89), some (.int x746), some (.int x747), some (.int x748), none, none, none, none, none, none, none] [.int c755.1] (HM P c755.2 T) 0 0 _
        obtain ⟨rfl, rfl⟩ := ai_smP h
        exact ev_end rfl
      · refine ev_if_ne (t := 45) rfl rfl (fun _ => ?_) (fun c9 => absurd c9 hc)
        refine ev_go 2 (pc' := 48) (L' := [some (.ref 89), some (.int x746), some (.int x747), some (.int x748), some (.int 0), none, none, none, none, none, none]) (st' := []) (h' := (HM P c749.2 T)) (cs' := 0) (sl' := 0) rfl ?_
        exact ih0 _ _ _ _ _ _ _ h P T _ _ _ _ _ _
set_option maxHeartbeats 40000000 in
set_option maxRecDepth 100000 in
theorem Em_tapped_89 (x814 : Int32) (x815 : Int32) (x816 : Int32) (r : Int32) (h : Fm_tapped_89 x814 x815 x816 = some r) (hh : ai_H) : ai_ev D1 mm_tapped 0 [some (.ref 89), some (.int x814), some (.int x815), some (.int x816)] [] hh 0 0 (some (.int r), hh) := by
  unfold Fm_tapped_89 at h
  refine ev_go 6 (pc' := 6) (L' := [some (.ref 89), some (.int x814), some (.int x815), some (.int x816)]) (st' := [.int x816, .int (x814 + x815), .int 2, .int x814]) (h' := hh) (cs' := 0) (sl' := 0) rfl ?_
  rcases ai_ifE h with ⟨hc, h⟩ | ⟨hc, h⟩
  · refine ev_ic_le (t := 17) rfl rfl (fun _ => ?_) (fun c9 => absurd hc c9)
    refine ev_go 3 (pc' := 20) (L' := [some (.ref 89), some (.int x814), some (.int x815), some (.int x816)]) (st' := [.int (x814 - 0)]) (h' := hh) (cs' := 0) (sl' := 0) rfl ?_
    obtain rfl := Option.some.inj h
    exact ev_end rfl
  · refine ev_ic_le (t := 17) rfl rfl (fun c9 => absurd c9 hc) (fun _ => ?_)
    refine ev_go 8 (pc' := 20) (L' := [some (.ref 89), some (.int x814), some (.int x815), some (.int x816)]) (st' := [.int (x814 - (2 * ((x814 + x815) - x816)))]) (h' := hh) (cs' := 0) (sl' := 0) rfl ?_
    obtain rfl := Option.some.inj h
    exact ev_end rfl
set_option maxHeartbeats 40000000 in
set_option maxRecDepth 100000 in
theorem EGm_tap_89 : ∀ n : Nat, (∀ (y789 : Int32) (y790 : Int32) (y791 : Int32) (w : WM) (r : Int32) (w' : WM), Gm_tap_89 n 0 y789 y790 y791 0 0 0 0 0 w = some (r, w') → ∀ (P : Nat → ai_E) (T : ai_H) (o4 o5 o6 o7 o8 : Option Value), ai_ev D1 mm_tap 21 [some (.ref 89), some (.int y789), some (.int y790), some (.int y791), o4, o5, o6, o7, o8] [] (HM P w T) 0 0 (some (.int r), HM P w' T)) ∧ (∀ (y795 : Int32) (y796 : Int32) (y797 : Int32) (y798 : Int32) (y799 : Int32) (w : WM) (r : Int32) (w' : WM), Gm_tap_89 n 1 y795 y796 y797 y798 y799 0 0 0 w = some (r, w') → ∀ (P : Nat → ai_E) (T : ai_H) (o6 o7 o8 : Option Value), ai_ev D1 mm_tap 60 [some (.ref 89), some (.int y795), some (.int y796), some (.int y797), some (.int y798), some (.int y799), o6, o7, o8] [] (HM P w T) 0 0 (some (.int r), HM P w' T)) ∧ (∀ (y800 : Int32) (y801 : Int32) (y802 : Int32) (y803 : Int32) (y804 : Int32) (y805 : Int32) (w : WM) (r : Int32) (w' : WM), Gm_tap_89 n 2 y800 y801 y802 y803 y804 y805 0 0 w = some (r, w') → ∀ (P : Nat → ai_E) (T : ai_H) (o7 o8 : Option Value), ai_ev D1 mm_tap 70 [some (.ref 89), some (.int y800), some (.int y801), some (.int y802), some (.int y803), some (.int y804), some (.int y805), o7, o8] [] (HM P w T) 0 0 (some (.int r), HM P w' T)) ∧ (∀ (y806 : Int32) (y807 : Int32) (y808 : Int32) (y809 : Int32) (y810 : Int32) (y811 : Int32) (y812 : Int32) (y813 : Int32) (w : WM) (r : Int32) (w' : WM), Gm_tap_89 n 3 y806 y807 y808 y809 y810 y811 y812 y813 w = some (r, w') → ∀ (P : Nat → ai_E) (T : ai_H), ai_ev D1 mm_tap 83 [some (.ref 89), some (.int y806), some (.int y807), some (.int y808), some (.int y809), some (.int y810), some (.int y811), some (.int y812), some (.int y813)] [] (HM P w T) 0 0 (some (.int r), HM P w' T)) := by
  intro n
  induction n with
  | zero =>
    exact ⟨(fun _ _ _ _ _ _ h => by cases h), (fun _ _ _ _ _ _ _ _ h => by cases h), (fun _ _ _ _ _ _ _ _ _ h => by cases h), (fun _ _ _ _ _ _ _ _ _ _ _ h => by cases h)⟩
  | succ n ih =>
    obtain ⟨ih0, ih1, ih2, ih3⟩ := ih
    refine ⟨?_, ?_, ?_, ?_⟩
    · intro y789 y790 y791 w r w' h P T o4 o5 o6 o7 o8
      simp only [Gm_tap_89] at h
      refine ev_go 4 (pc' := 27) (L' := [some (.ref 89), some (.int y789), some (.int y790), some (.int y791), o4, o5, o6, o7, o8]) (st' := [.int 0, .ref 90, .int y791]) (h' := (HM P w T)) (cs' := 0) (sl' := 0) rfl ?_
      obtain ⟨v792, hq, h⟩ := ai_bdE h
      refine ev_iald rfl rfl hq ?_
      rcases ai_ifE h with ⟨hc, h⟩ | ⟨hc, h⟩
      · refine ev_ic_ge (t := 52) rfl rfl (fun _ => ?_) (fun c9 => absurd hc c9)
        refine ev_go 6 (pc' := 60) (L' := [some (.ref 89), some (.int y789), some (.int y790), some (.int 0), some (.int (-1)), some (.int 0), o6, o7, o8]) (st' := []) (h' := (HM P w T)) (cs' := 0) (sl' := 0) rfl ?_
        exact ih1 _ _ _ _ _ _ _ _ h P T _ _ _
      · refine ev_ic_ge (t := 52) rfl rfl (fun c9 => absurd c9 hc) (fun _ => ?_)
        refine ev_go 7 (pc' := 40) (L' := [some (.ref 89), some (.int y789), some (.int y790), some (.int y791), o4, o5, o6, o7, o8]) (st' := [.int 1, .ref 90, .int y791, .int 0, .ref 89, .int y790]) (h' := (HM P w T)) (cs' := 0) (sl' := 0) rfl ?_
        obtain ⟨v793, hq, h⟩ := ai_bdE h
        refine ev_iald rfl rfl hq ?_
        obtain ⟨c794, hq, h⟩ := ai_bdE h
        refine ev_call (M' := mm_thickIn) (L' := [some (.ref 89), some (.int 0), some (.int y791), some (.int v793), none]) (rest := [.int y790]) (rv := some (.int c794.1)) (h' := (HM P c794.2 T)) rfl (Em_thickIn_89 0 y791 v793 w _ _ hq P T) ?_
        show ai_ev D1 mm_tap 44 [some (.ref 89), some (.int y789), some (.int y790), some (.int y791), o4, o5, o6, o7, o8] [.int c794.1, .int y790] (HM P c794.2 T) 0 0 _
        refine ev_go 4 (pc' := 21) (L' := [some (.ref 89), some (.int y789), some (.int (y790 + c794.1)), some (.int (y791 + 1)), o4, o5, o6, o7, o8]) (st' := []) (h' := (HM P c794.2 T)) (cs' := 0) (sl' := 0) rfl ?_
        exact ih0 _ _ _ _ _ _ h P T _ _ _ _ _
    · intro y795 y796 y797 y798 y799 w r w' h P T o6 o7 o8
      simp only [Gm_tap_89] at h
      refine ev_go 2 (pc' := 64) (L' := [some (.ref 89), some (.int y795), some (.int y796), some (.int y797), some (.int y798), some (.int y799), o6, o7, o8]) (st' := [.int 10, .int y799]) (h' := (HM P w T)) (cs' := 0) (sl' := 0) rfl ?_
      rcases ai_ifE h with ⟨hc, h⟩ | ⟨hc, h⟩
      · refine ev_ic_ge (t := 199) rfl rfl (fun _ => ?_) (fun c9 => absurd hc c9)
        refine ev_go 1 (pc' := 200) (L' := [some (.ref 89), some (.int y795), some (.int y796), some (.int y797), some (.int y798), some (.int y799), o6, o7, o8]) (st' := [.int y795]) (h' := (HM P w T)) (cs' := 0) (sl' := 0) rfl ?_
        rcases ai_ifE h with ⟨hc, h⟩ | ⟨hc, h⟩
        · refine ev_if_ne (t := 207) rfl rfl (fun c9 => absurd hc c9) (fun _ => ?_)
          refine ev_go 2 (pc' := 209) (L' := [some (.ref 89), some (.int y795), some (.int y796), some (.int y797), some (.int y798), some (.int y799), o6, o7, o8]) (st' := [.int y797]) (h' := (HM P w T)) (cs' := 0) (sl' := 0) rfl ?_
          obtain ⟨rfl, rfl⟩ := ai_smP h
          exact ev_end rfl
        · refine ev_if_ne (t := 207) rfl rfl (fun _ => ?_) (fun c9 => absurd c9 hc)
          refine ev_go 1 (pc' := 209) (L' := [some (.ref 89), some (.int y795), some (.int y796), some (.int y797), some (.int y798), some (.int y799), o6, o7, o8]) (st' := [.int y798]) (h' := (HM P w T)) (cs' := 0) (sl' := 0) rfl ?_
          obtain ⟨rfl, rfl⟩ := ai_smP h
          exact ev_end rfl
      · refine ev_ic_ge (t := 199) rfl rfl (fun c9 => absurd c9 hc) (fun _ => ?_)
        refine ev_go 2 (pc' := 70) (L' := [some (.ref 89), some (.int y795), some (.int y796), some (.int y797), some (.int y798), some (.int y799), some (.int 0), o7, o8]) (st' := []) (h' := (HM P w T)) (cs' := 0) (sl' := 0) rfl ?_
        exact ih2 _ _ _ _ _ _ _ _ _ h P T _ _
    · intro y800 y801 y802 y803 y804 y805 w r w' h P T o7 o8
      simp only [Gm_tap_89] at h
      refine ev_go 2 (pc' := 74) (L' := [some (.ref 89), some (.int y800), some (.int y801), some (.int y802), some (.int y803), some (.int y804), some (.int y805), o7, o8]) (st' := [.int 10, .int y805]) (h' := (HM P w T)) (cs' := 0) (sl' := 0) rfl ?_
      rcases ai_ifE h with ⟨hc, h⟩ | ⟨hc, h⟩
      · refine ev_ic_ge (t := 193) rfl rfl (fun _ => ?_) (fun c9 => absurd hc c9)
        refine ev_go 2 (pc' := 60) (L' := [some (.ref 89), some (.int y800), some (.int y801), some (.int y802), some (.int y803), some (.int (y804 + 1)), some (.int y805), o7, o8]) (st' := []) (h' := (HM P w T)) (cs' := 0) (sl' := 0) rfl ?_
        exact ih1 _ _ _ _ _ _ _ _ h P T _ _ _
      · refine ev_ic_ge (t := 193) rfl rfl (fun c9 => absurd c9 hc) (fun _ => ?_)
        refine ev_go 4 (pc' := 83) (L' := [some (.ref 89), some (.int y800), some (.int y801), some (.int y802), some (.int y803), some (.int y804), some (.int y805), some (.int 1), some (.int 0)]) (st' := []) (h' := (HM P w T)) (cs' := 0) (sl' := 0) rfl ?_
        exact ih3 _ _ _ _ _ _ _ _ _ _ _ h P T
    · intro y806 y807 y808 y809 y810 y811 y812 y813 w r w' h P T
      simp only [Gm_tap_89] at h
      refine ev_go 2 (pc' := 87) (L' := [some (.ref 89), some (.int y806), some (.int y807), some (.int y808), some (.int y809), some (.int y810), some (.int y811), some (.int y812), some (.int y813)]) (st' := [.int 10, .int y813]) (h' := (HM P w T)) (cs' := 0) (sl' := 0) rfl ?_
      rcases ai_ifE h with ⟨hc, h⟩ | ⟨hc, h⟩
      · refine ev_ic_ge (t := 150) rfl rfl (fun _ => ?_) (fun c9 => absurd hc c9)
        refine ev_go 1 (pc' := 152) (L' := [some (.ref 89), some (.int y806), some (.int y807), some (.int y808), some (.int y809), some (.int y810), some (.int y811), some (.int y812), some (.int y813)]) (st' := [.int y812]) (h' := (HM P w T)) (cs' := 0) (sl' := 0) rfl ?_
        rcases ai_ifE h with ⟨hc, h⟩ | ⟨hc, h⟩
        · refine ev_if_eq (t := 170) rfl rfl (fun _ => ?_) (fun c9 => absurd hc c9)
          refine ev_go 4 (pc' := 177) (L' := [some (.ref 89), some (.int y806), some (.int y807), some (.int y808), some (.int y809), some (.int y810), some (.int y811), some (.int y812), some (.int y813)]) (st' := [.int y812, .int y808]) (h' := (HM P w T)) (cs' := 0) (sl' := 0) rfl ?_
          rcases ai_ifE h with ⟨hc, h⟩ | ⟨hc, h⟩
          · refine ev_if_eq (t := 184) rfl rfl (fun _ => ?_) (fun c9 => absurd hc c9)
            refine ev_go 5 (pc' := 70) (L' := [some (.ref 89), some (.int y806), some (.int y807), some (.int (y808 + 0)), some (.int y809), some (.int y810), some (.int (y811 + 1)), some (.int y812), some (.int y813)]) (st' := []) (h' := (HM P w T)) (cs' := 0) (sl' := 0) rfl ?_
            exact ih2 _ _ _ _ _ _ _ _ _ h P T _ _
          · refine ev_if_eq (t := 184) rfl rfl (fun c9 => absurd c9 hc) (fun _ => ?_)
            refine ev_go 6 (pc' := 70) (L' := [some (.ref 89), some (.int y806), some (.int y807), some (.int (y808 + 1)), some (.int y809), some (.int y810), some (.int (y811 + 1)), some (.int y812), some (.int y813)]) (st' := []) (h' := (HM P w T)) (cs' := 0) (sl' := 0) rfl ?_
            exact ih2 _ _ _ _ _ _ _ _ _ h P T _ _
        · refine ev_if_eq (t := 170) rfl rfl (fun c9 => absurd c9 hc) (fun _ => ?_)
          refine ev_go 1 (pc' := 156) (L' := [some (.ref 89), some (.int y806), some (.int y807), some (.int y808), some (.int y809), some (.int y810), some (.int y811), some (.int y812), some (.int y813)]) (st' := [.int y808]) (h' := (HM P w T)) (cs' := 0) (sl' := 0) rfl ?_
          rcases ai_ifE h with ⟨hc, h⟩ | ⟨hc, h⟩
          · refine ev_if_ne (t := 170) rfl rfl (fun c9 => absurd hc c9) (fun _ => ?_)
            refine ev_go 9 (pc' := 177) (L' := [some (.ref 89), some (.int y806), some (.int y807), some (.int y808), some (.int ((10 * y810) + y811)), some (.int y810), some (.int y811), some (.int y812), some (.int y813)]) (st' := [.int y812, .int y808]) (h' := (HM P w T)) (cs' := 0) (sl' := 0) rfl ?_
            rcases ai_ifE h with ⟨hc, h⟩ | ⟨hc, h⟩
            · refine ev_if_eq (t := 184) rfl rfl (fun _ => ?_) (fun c9 => absurd hc c9)
              refine ev_go 5 (pc' := 70) (L' := [some (.ref 89), some (.int y806), some (.int y807), some (.int (y808 + 0)), some (.int ((10 * y810) + y811)), some (.int y810), some (.int (y811 + 1)), some (.int y812), some (.int y813)]) (st' := []) (h' := (HM P w T)) (cs' := 0) (sl' := 0) rfl ?_
              exact ih2 _ _ _ _ _ _ _ _ _ h P T _ _
            · refine ev_if_eq (t := 184) rfl rfl (fun c9 => absurd c9 hc) (fun _ => ?_)
              refine ev_go 6 (pc' := 70) (L' := [some (.ref 89), some (.int y806), some (.int y807), some (.int (y808 + 1)), some (.int ((10 * y810) + y811)), some (.int y810), some (.int (y811 + 1)), some (.int y812), some (.int y813)]) (st' := []) (h' := (HM P w T)) (cs' := 0) (sl' := 0) rfl ?_
              exact ih2 _ _ _ _ _ _ _ _ _ h P T _ _
          · refine ev_if_ne (t := 170) rfl rfl (fun _ => ?_) (fun c9 => absurd c9 hc)
            refine ev_go 4 (pc' := 177) (L' := [some (.ref 89), some (.int y806), some (.int y807), some (.int y808), some (.int y809), some (.int y810), some (.int y811), some (.int y812), some (.int y813)]) (st' := [.int y812, .int y808]) (h' := (HM P w T)) (cs' := 0) (sl' := 0) rfl ?_
            rcases ai_ifE h with ⟨hc, h⟩ | ⟨hc, h⟩
            · refine ev_if_eq (t := 184) rfl rfl (fun _ => ?_) (fun c9 => absurd hc c9)
              refine ev_go 5 (pc' := 70) (L' := [some (.ref 89), some (.int y806), some (.int y807), some (.int (y808 + 0)), some (.int y809), some (.int y810), some (.int (y811 + 1)), some (.int y812), some (.int y813)]) (st' := []) (h' := (HM P w T)) (cs' := 0) (sl' := 0) rfl ?_
              exact ih2 _ _ _ _ _ _ _ _ _ h P T _ _
            · refine ev_if_eq (t := 184) rfl rfl (fun c9 => absurd c9 hc) (fun _ => ?_)
              refine ev_go 6 (pc' := 70) (L' := [some (.ref 89), some (.int y806), some (.int y807), some (.int (y808 + 1)), some (.int y809), some (.int y810), some (.int (y811 + 1)), some (.int y812), some (.int y813)]) (st' := []) (h' := (HM P w T)) (cs' := 0) (sl' := 0) rfl ?_
              exact ih2 _ _ _ _ _ _ _ _ _ h P T _ _
      · refine ev_ic_ge (t := 150) rfl rfl (fun c9 => absurd c9 hc) (fun _ => ?_)
        refine ev_go 1 (pc' := 92) (L' := [some (.ref 89), some (.int y806), some (.int y807), some (.int y808), some (.int y809), some (.int y810), some (.int y811), some (.int y812), some (.int y813)]) (st' := [.int y812]) (h' := (HM P w T)) (cs' := 0) (sl' := 0) rfl ?_
        rcases ai_ifE h with ⟨hc, h⟩ | ⟨hc, h⟩
        · refine ev_if_eq (t := 141) rfl rfl (fun _ => ?_) (fun c9 => absurd hc c9)
          refine ev_go 4 (pc' := 83) (L' := [some (.ref 89), some (.int y806), some (.int y807), some (.int y808), some (.int y809), some (.int y810), some (.int y811), some (.int 0), some (.int (y813 + 1))]) (st' := []) (h' := (HM P w T)) (cs' := 0) (sl' := 0) rfl ?_
          exact ih3 _ _ _ _ _ _ _ _ _ _ _ h P T
        · refine ev_if_eq (t := 141) rfl rfl (fun c9 => absurd c9 hc) (fun _ => ?_)
          refine ev_go 4 (pc' := 101) (L' := [some (.ref 89), some (.int y806), some (.int y807), some (.int y808), some (.int y809), some (.int y810), some (.int y811), some (.int y812), some (.int y813)]) (st' := [.int y807, .int y811, .int y813, .ref 89]) (h' := (HM P w T)) (cs' := 0) (sl' := 0) rfl ?_
          obtain ⟨c817, hq, h⟩ := ai_bdE h
          refine ev_call (M' := mm_tapped) (L' := [some (.ref 89), some (.int y813), some (.int y811), some (.int y807)]) (rest := []) (rv := some (.int c817)) (h' := (HM P w T)) rfl (Em_tapped_89 y813 y811 y807 _ hq (HM P w T)) ?_
          show ai_ev D1 mm_tap 104 [some (.ref 89), some (.int y806), some (.int y807), some (.int y808), some (.int y809), some (.int y810), some (.int y811), some (.int y812), some (.int y813)] [.int c817] (HM P w T) 0 0 _
          refine ev_go 4 (pc' := 110) (L' := [some (.ref 89), some (.int y806), some (.int y807), some (.int y808), some (.int y809), some (.int y810), some (.int y811), some (.int y812), some (.int y813)]) (st' := [.int y807, .int y811, .int y810, .ref 89, .int c817]) (h' := (HM P w T)) (cs' := 0) (sl' := 0) rfl ?_
          obtain ⟨c818, hq, h⟩ := ai_bdE h
          refine ev_call (M' := mm_tapped) (L' := [some (.ref 89), some (.int y810), some (.int y811), some (.int y807)]) (rest := [.int c817]) (rv := some (.int c818)) (h' := (HM P w T)) rfl (Em_tapped_89 y810 y811 y807 _ hq (HM P w T)) ?_
          show ai_ev D1 mm_tap 113 [some (.ref 89), some (.int y806), some (.int y807), some (.int y808), some (.int y809), some (.int y810), some (.int y811), some (.int y812), some (.int y813)] [.int c818, .int c817] (HM P w T) 0 0 _
          rcases ai_ifE h with ⟨hc, h⟩ | ⟨hc, h⟩
          · refine ev_ic_gt (t := 141) rfl rfl (fun _ => ?_) (fun c9 => absurd hc c9)
            refine ev_go 4 (pc' := 83) (L' := [some (.ref 89), some (.int y806), some (.int y807), some (.int y808), some (.int y809), some (.int y810), some (.int y811), some (.int 0), some (.int (y813 + 1))]) (st' := []) (h' := (HM P w T)) (cs' := 0) (sl' := 0) rfl ?_
            exact ih3 _ _ _ _ _ _ _ _ _ _ _ h P T
          · refine ev_ic_gt (t := 141) rfl rfl (fun c9 => absurd c9 hc) (fun _ => ?_)
            refine ev_go 4 (pc' := 122) (L' := [some (.ref 89), some (.int y806), some (.int y807), some (.int y808), some (.int y809), some (.int y810), some (.int y811), some (.int y812), some (.int y813)]) (st' := [.int y807, .int y810, .int y813, .ref 89]) (h' := (HM P w T)) (cs' := 0) (sl' := 0) rfl ?_
            obtain ⟨c819, hq, h⟩ := ai_bdE h
            refine ev_call (M' := mm_tapped) (L' := [some (.ref 89), some (.int y813), some (.int y810), some (.int y807)]) (rest := []) (rv := some (.int c819)) (h' := (HM P w T)) rfl (Em_tapped_89 y813 y810 y807 _ hq (HM P w T)) ?_
            show ai_ev D1 mm_tap 125 [some (.ref 89), some (.int y806), some (.int y807), some (.int y808), some (.int y809), some (.int y810), some (.int y811), some (.int y812), some (.int y813)] [.int c819] (HM P w T) 0 0 _
            refine ev_go 4 (pc' := 131) (L' := [some (.ref 89), some (.int y806), some (.int y807), some (.int y808), some (.int y809), some (.int y810), some (.int y811), some (.int y812), some (.int y813)]) (st' := [.int y807, .int y810, .int y811, .ref 89, .int c819]) (h' := (HM P w T)) (cs' := 0) (sl' := 0) rfl ?_
            obtain ⟨c820, hq, h⟩ := ai_bdE h
            refine ev_call (M' := mm_tapped) (L' := [some (.ref 89), some (.int y811), some (.int y810), some (.int y807)]) (rest := [.int c819]) (rv := some (.int c820)) (h' := (HM P w T)) rfl (Em_tapped_89 y811 y810 y807 _ hq (HM P w T)) ?_
            show ai_ev D1 mm_tap 134 [some (.ref 89), some (.int y806), some (.int y807), some (.int y808), some (.int y809), some (.int y810), some (.int y811), some (.int y812), some (.int y813)] [.int c820, .int c819] (HM P w T) 0 0 _
            rcases ai_ifE h with ⟨hc, h⟩ | ⟨hc, h⟩
            · refine ev_ic_gt (t := 141) rfl rfl (fun _ => ?_) (fun c9 => absurd hc c9)
              refine ev_go 4 (pc' := 83) (L' := [some (.ref 89), some (.int y806), some (.int y807), some (.int y808), some (.int y809), some (.int y810), some (.int y811), some (.int 0), some (.int (y813 + 1))]) (st' := []) (h' := (HM P w T)) (cs' := 0) (sl' := 0) rfl ?_
              exact ih3 _ _ _ _ _ _ _ _ _ _ _ h P T
            · refine ev_ic_gt (t := 141) rfl rfl (fun c9 => absurd c9 hc) (fun _ => ?_)
              refine ev_go 5 (pc' := 83) (L' := [some (.ref 89), some (.int y806), some (.int y807), some (.int y808), some (.int y809), some (.int y810), some (.int y811), some (.int 1), some (.int (y813 + 1))]) (st' := []) (h' := (HM P w T)) (cs' := 0) (sl' := 0) rfl ?_
              exact ih3 _ _ _ _ _ _ _ _ _ _ _ h P T
set_option maxHeartbeats 40000000 in
set_option maxRecDepth 100000 in
theorem Em_tap_89 (n : Nat) (x786 : Int32) (w : WM) (r : Int32) (w' : WM) (h : Fm_tap_89 n x786 w = some (r, w')) (P : Nat → ai_E) (T : ai_H) : ai_ev D1 mm_tap 0 [some (.ref 89), some (.int x786), none, none, none, none, none, none, none] [] (HM P w T) 0 0 (some (.int r), HM P w' T) := by
  unfold Fm_tap_89 at h
  obtain ⟨ih0, ih1, ih2, ih3⟩ := EGm_tap_89 n
  refine ev_go 4 (pc' := 4) (L' := [some (.ref 89), some (.int x786), none, none, none, none, none, none, none]) (st' := [.long 1, .long 0, .long (x786).toInt64]) (h' := (HM P w T)) (cs' := 0) (sl' := 0) rfl ?_
  obtain ⟨c787, hq, h⟩ := ai_bdE h
  refine ev_call (M' := mm_in) (L' := [some (.long (x786).toInt64), none, some (.long 0), none, some (.long 1), none]) (rest := []) (rv := some (.int c787)) (h' := (HM P w T)) rfl (Em_in (x786).toInt64 0 1 _ hq (HM P w T)) ?_
  show ai_ev D1 mm_tap 7 [some (.ref 89), some (.int x786), none, none, none, none, none, none, none] [.int c787] (HM P w T) 0 0 _
  rcases ai_ifE h with ⟨hc, h⟩ | ⟨hc, h⟩
  · refine ev_if_ne (t := 17) rfl rfl (fun c9 => absurd hc c9) (fun _ => ?_)
    refine ev_go 2 (pc' := 13) (L' := [some (.ref 89), some (.int x786), none, none, none, none, none, none, none]) (st' := [.int (-10), .ref 89]) (h' := (HM P w T)) (cs' := 0) (sl' := 0) rfl ?_
    obtain ⟨c788, hq, h⟩ := ai_bdE h
    refine ev_call (M' := mm_badAs) (L' := [some (.ref 89), some (.int (-10))]) (rest := []) (rv := some (.int c788.1)) (h' := (HM P c788.2 T)) rfl (Em_badAs_89 (-10) w _ _ hq P T) ?_
    show ai_ev D1 mm_tap 16 [some (.ref 89), some (.int x786), none, none, none, none, none, none, none] [.int c788.1] (HM P c788.2 T) 0 0 _
    obtain ⟨rfl, rfl⟩ := ai_smP h
    exact ev_end rfl
  · refine ev_if_ne (t := 17) rfl rfl (fun _ => ?_) (fun c9 => absurd c9 hc)
    refine ev_go 4 (pc' := 21) (L' := [some (.ref 89), some (.int x786), some (.int 0), some (.int 0), none, none, none, none, none]) (st' := []) (h' := (HM P w T)) (cs' := 0) (sl' := 0) rfl ?_
    exact ih0 _ _ _ _ _ _ h P T _ _ _ _ _
set_option maxHeartbeats 40000000 in
set_option maxRecDepth 100000 in
theorem EGm_fits_89 : ∀ n : Nat, (∀ (y833 : Int32) (y834 : Int32) (y835 : Int32) (y836 : Int32) (w : WM) (r : Int32) (w' : WM), Gm_fits_89 n 0 y833 y834 y835 y836 w = some (r, w') → ∀ (P : Nat → ai_E) (T : ai_H), ai_ev D1 mm_fits 5 [some (.ref 89), some (.int y833), some (.int y834), some (.int y835), some (.int y836)] [] (HM P w T) 0 0 (some (.int r), HM P w' T)) := by
  intro n
  induction n with
  | zero =>
    exact (fun _ _ _ _ _ _ _ h => by cases h)
  | succ n ih0 =>
    intro y833 y834 y835 y836 w r w' h P T
    simp only [Gm_fits_89] at h
    refine ev_go 4 (pc' := 13) (L' := [some (.ref 89), some (.int y833), some (.int y834), some (.int y835), some (.int y836)]) (st' := [.int 6, .ref 90, .int y836]) (h' := (HM P w T)) (cs' := 0) (sl' := 0) rfl ?_
    obtain ⟨v837, hq, h⟩ := ai_bdE h
    refine ev_iald rfl rfl hq ?_
    rcases ai_ifE h with ⟨hc, h⟩ | ⟨hc, h⟩
    · refine ev_ic_ge (t := 85) rfl rfl (fun _ => ?_) (fun c9 => absurd hc c9)
      refine ev_go 1 (pc' := 86) (L' := [some (.ref 89), some (.int y833), some (.int y834), some (.int y835), some (.int y836)]) (st' := [.int y835]) (h' := (HM P w T)) (cs' := 0) (sl' := 0) rfl ?_
      obtain ⟨hv, h⟩ := ai_ifS h
      obtain ⟨rfl, rfl⟩ := ai_smP h
      exact ev_zend rfl rfl rfl hv
    · refine ev_ic_ge (t := 85) rfl rfl (fun c9 => absurd c9 hc) (fun _ => ?_)
      refine ev_go 1 (pc' := 18) (L' := [some (.ref 89), some (.int y833), some (.int y834), some (.int y835), some (.int y836)]) (st' := [.int y835]) (h' := (HM P w T)) (cs' := 0) (sl' := 0) rfl ?_
      rcases ai_ifE h with ⟨hc, h⟩ | ⟨hc, h⟩
      · refine ev_if_eq (t := 77) rfl rfl (fun _ => ?_) (fun c9 => absurd hc c9)
        refine ev_go 4 (pc' := 5) (L' := [some (.ref 89), some (.int y833), some (.int y834), some (.int 0), some (.int (y836 + 1))]) (st' := []) (h' := (HM P w T)) (cs' := 0) (sl' := 0) rfl ?_
        exact ih0 _ _ _ _ _ _ _ h P T
      · refine ev_if_eq (t := 77) rfl rfl (fun c9 => absurd c9 hc) (fun _ => ?_)
        refine ev_go 10 (pc' := 38) (L' := [some (.ref 89), some (.int y833), some (.int y834), some (.int y835), some (.int y836)]) (st' := [.int (127 + y836), .ref 90, .int 8, .ref 90, .int y834, .int y833]) (h' := (HM P w T)) (cs' := 0) (sl' := 0) rfl ?_
        obtain ⟨v838, hq, h⟩ := ai_bdE h
        refine ev_iald rfl rfl hq ?_
        refine ev_go 1 (pc' := 40) (L' := [some (.ref 89), some (.int y833), some (.int y834), some (.int y835), some (.int y836)]) (st' := [.int (8 + v838), .ref 90, .int y834, .int y833]) (h' := (HM P w T)) (cs' := 0) (sl' := 0) rfl ?_
        obtain ⟨v839, hq, h⟩ := ai_bdE h
        refine ev_iald rfl rfl hq ?_
        refine ev_go 1 (pc' := 42) (L' := [some (.ref 89), some (.int y833), some (.int y834), some (.int y835), some (.int y836)]) (st' := [.int (y834 * v839), .int y833]) (h' := (HM P w T)) (cs' := 0) (sl' := 0) rfl ?_
        rcases ai_ifE h with ⟨hc, h⟩ | ⟨hc, h⟩
        · refine ev_ic_gt (t := 49) rfl rfl (fun _ => ?_) (fun c9 => absurd hc c9)
          refine ev_go 6 (pc' := 60) (L' := [some (.ref 89), some (.int y833), some (.int y834), some (.int y835), some (.int y836)]) (st' := [.int (133 + y836), .ref 90, .int 0]) (h' := (HM P w T)) (cs' := 0) (sl' := 0) rfl ?_
          obtain ⟨v840, hq, h⟩ := ai_bdE h
          refine ev_iald rfl rfl hq ?_
          refine ev_go 1 (pc' := 62) (L' := [some (.ref 89), some (.int y833), some (.int y834), some (.int y835), some (.int y836)]) (st' := [.int 1, .int v840, .int 0]) (h' := (HM P w T)) (cs' := 0) (sl' := 0) rfl ?_
          rcases ai_ifE h with ⟨hc, h⟩ | ⟨hc, h⟩
          · refine ev_ic_ne (t := 69) rfl rfl (fun c9 => absurd hc c9) (fun _ => ?_)
            refine ev_go 7 (pc' := 5) (L' := [some (.ref 89), some (.int y833), some (.int y834), some (.int 0), some (.int (y836 + 1))]) (st' := []) (h' := (HM P w T)) (cs' := 0) (sl' := 0) rfl ?_
            exact ih0 _ _ _ _ _ _ _ h P T
          · refine ev_ic_ne (t := 69) rfl rfl (fun _ => ?_) (fun c9 => absurd c9 hc)
            refine ev_go 7 (pc' := 5) (L' := [some (.ref 89), some (.int y833), some (.int y834), some (.int 1), some (.int (y836 + 1))]) (st' := []) (h' := (HM P w T)) (cs' := 0) (sl' := 0) rfl ?_
            exact ih0 _ _ _ _ _ _ _ h P T
        · refine ev_ic_gt (t := 49) rfl rfl (fun c9 => absurd c9 hc) (fun _ => ?_)
          refine ev_go 7 (pc' := 60) (L' := [some (.ref 89), some (.int y833), some (.int y834), some (.int y835), some (.int y836)]) (st' := [.int (133 + y836), .ref 90, .int 1]) (h' := (HM P w T)) (cs' := 0) (sl' := 0) rfl ?_
          obtain ⟨v841, hq, h⟩ := ai_bdE h
          refine ev_iald rfl rfl hq ?_
          refine ev_go 1 (pc' := 62) (L' := [some (.ref 89), some (.int y833), some (.int y834), some (.int y835), some (.int y836)]) (st' := [.int 1, .int v841, .int 1]) (h' := (HM P w T)) (cs' := 0) (sl' := 0) rfl ?_
          rcases ai_ifE h with ⟨hc, h⟩ | ⟨hc, h⟩
          · refine ev_ic_ne (t := 69) rfl rfl (fun c9 => absurd hc c9) (fun _ => ?_)
            refine ev_go 8 (pc' := 5) (L' := [some (.ref 89), some (.int y833), some (.int y834), some (.int 1), some (.int (y836 + 1))]) (st' := []) (h' := (HM P w T)) (cs' := 0) (sl' := 0) rfl ?_
            exact ih0 _ _ _ _ _ _ _ h P T
          · refine ev_ic_ne (t := 69) rfl rfl (fun _ => ?_) (fun c9 => absurd c9 hc)
            refine ev_go 6 (pc' := 5) (L' := [some (.ref 89), some (.int y833), some (.int y834), some (.int 0), some (.int (y836 + 1))]) (st' := []) (h' := (HM P w T)) (cs' := 0) (sl' := 0) rfl ?_
            exact ih0 _ _ _ _ _ _ _ h P T
set_option maxHeartbeats 40000000 in
set_option maxRecDepth 100000 in
theorem Em_fits_89 (n : Nat) (x831 : Int32) (x832 : Int32) (w : WM) (r : Int32) (w' : WM) (h : Fm_fits_89 n x831 x832 w = some (r, w')) (P : Nat → ai_E) (T : ai_H) : ai_ev D1 mm_fits 0 [some (.ref 89), some (.int x831), some (.int x832), none, none] [] (HM P w T) 0 0 (some (.int r), HM P w' T) := by
  unfold Fm_fits_89 at h
  have ih0 := EGm_fits_89 n
  refine ev_go 4 (pc' := 5) (L' := [some (.ref 89), some (.int x831), some (.int x832), some (.int 1), some (.int 0)]) (st' := []) (h' := (HM P w T)) (cs' := 0) (sl' := 0) rfl ?_
  exact ih0 _ _ _ _ _ _ _ h P T
set_option maxHeartbeats 40000000 in
set_option maxRecDepth 100000 in
theorem EGm_known_89 : ∀ n : Nat, (∀ (y827 : Int32) (y828 : Int32) (y829 : Int32) (y830 : Int32) (w : WM) (r : Int32) (w' : WM), Gm_known_89 n 0 y827 y828 y829 y830 0 0 0 0 w = some (r, w') → ∀ (P : Nat → ai_E) (T : ai_H) (o5 o6 o7 o8 : Option Value), ai_ev D1 mm_known 34 [some (.ref 89), some (.int y827), some (.int y828), some (.int y829), some (.int y830), o5, o6, o7, o8] [] (HM P w T) 0 0 (some (.int r), HM P w' T)) ∧ (∀ (y843 : Int32) (y844 : Int32) (y845 : Int32) (y846 : Int32) (y847 : Int32) (y848 : Int32) (w : WM) (r : Int32) (w' : WM), Gm_known_89 n 1 y843 y844 y845 y846 y847 y848 0 0 w = some (r, w') → ∀ (P : Nat → ai_E) (T : ai_H) (o7 o8 : Option Value), ai_ev D1 mm_known 75 [some (.ref 89), some (.int y843), some (.int y844), some (.int y845), some (.int y846), some (.int y847), some (.int y848), o7, o8] [] (HM P w T) 0 0 (some (.int r), HM P w' T)) ∧ (∀ (y849 : Int32) (y850 : Int32) (y851 : Int32) (y852 : Int32) (y853 : Int32) (y854 : Int32) (y855 : Int32) (y856 : Int32) (w : WM) (r : Int32) (w' : WM), Gm_known_89 n 2 y849 y850 y851 y852 y853 y854 y855 y856 w = some (r, w') → ∀ (P : Nat → ai_E) (T : ai_H), ai_ev D1 mm_known 91 [some (.ref 89), some (.int y849), some (.int y850), some (.int y851), some (.int y852), some (.int y853), some (.int y854), some (.int y855), some (.int y856)] [] (HM P w T) 0 0 (some (.int r), HM P w' T)) := by
  intro n
  induction n with
  | zero =>
    exact ⟨(fun _ _ _ _ _ _ _ h => by cases h), (fun _ _ _ _ _ _ _ _ _ h => by cases h), (fun _ _ _ _ _ _ _ _ _ _ _ h => by cases h)⟩
  | succ n ih =>
    obtain ⟨ih0, ih1, ih2⟩ := ih
    refine ⟨?_, ?_, ?_⟩
    · intro y827 y828 y829 y830 w r w' h P T o5 o6 o7 o8
      simp only [Gm_known_89] at h
      refine ev_go 2 (pc' := 38) (L' := [some (.ref 89), some (.int y827), some (.int y828), some (.int y829), some (.int y830), o5, o6, o7, o8]) (st' := [.int 100, .int y830]) (h' := (HM P w T)) (cs' := 0) (sl' := 0) rfl ?_
      rcases ai_ifE h with ⟨hc, h⟩ | ⟨hc, h⟩
      · refine ev_ic_ge (t := 65) rfl rfl (fun _ => ?_) (fun c9 => absurd hc c9)
        refine ev_go 6 (pc' := 75) (L' := [some (.ref 89), some (.int y827), some (.int y828), some (.int y829), some (.int (-1)), some (.int 1000000), some (.int 0), o7, o8]) (st' := []) (h' := (HM P w T)) (cs' := 0) (sl' := 0) rfl ?_
        exact ih1 _ _ _ _ _ _ _ _ _ h P T _ _
      · refine ev_ic_ge (t := 65) rfl rfl (fun c9 => absurd c9 hc) (fun _ => ?_)
        refine ev_go 4 (pc' := 46) (L' := [some (.ref 89), some (.int y827), some (.int y828), some (.int y829), some (.int y830), o5, o6, o7, o8]) (st' := [.int y827, .int y830, .ref 89, .int y829]) (h' := (HM P w T)) (cs' := 0) (sl' := 0) rfl ?_
        obtain ⟨c842, hq, h⟩ := ai_bdE h
        refine ev_call (M' := mm_fits) (L' := [some (.ref 89), some (.int y830), some (.int y827), none, none]) (rest := [.int y829]) (rv := some (.int c842.1)) (h' := (HM P c842.2 T)) rfl (Em_fits_89 n y830 y827 w _ _ hq P T) ?_
        show ai_ev D1 mm_known 49 [some (.ref 89), some (.int y827), some (.int y828), some (.int y829), some (.int y830), o5, o6, o7, o8] [.int c842.1, .int y829] (HM P c842.2 T) 0 0 _
        rcases ai_ifE h with ⟨hc, h⟩ | ⟨hc, h⟩
        · refine ev_if_eq (t := 56) rfl rfl (fun _ => ?_) (fun c9 => absurd hc c9)
          refine ev_go 5 (pc' := 34) (L' := [some (.ref 89), some (.int y827), some (.int y828), some (.int (y829 + 0)), some (.int (y830 + 1)), o5, o6, o7, o8]) (st' := []) (h' := (HM P c842.2 T)) (cs' := 0) (sl' := 0) rfl ?_
          exact ih0 _ _ _ _ _ _ _ h P T _ _ _ _
        · refine ev_if_eq (t := 56) rfl rfl (fun c9 => absurd c9 hc) (fun _ => ?_)
          refine ev_go 6 (pc' := 34) (L' := [some (.ref 89), some (.int y827), some (.int y828), some (.int (y829 + 1)), some (.int (y830 + 1)), o5, o6, o7, o8]) (st' := []) (h' := (HM P c842.2 T)) (cs' := 0) (sl' := 0) rfl ?_
          exact ih0 _ _ _ _ _ _ _ h P T _ _ _ _
    · intro y843 y844 y845 y846 y847 y848 w r w' h P T o7 o8
      simp only [Gm_known_89] at h
      refine ev_go 2 (pc' := 78) (L' := [some (.ref 89), some (.int y843), some (.int y844), some (.int y845), some (.int y846), some (.int y847), some (.int y848), o7, o8]) (st' := [.int 4, .int y848]) (h' := (HM P w T)) (cs' := 0) (sl' := 0) rfl ?_
      rcases ai_ifE h with ⟨hc, h⟩ | ⟨hc, h⟩
      · refine ev_ic_ge (t := 199) rfl rfl (fun _ => ?_) (fun c9 => absurd hc c9)
        refine ev_go 1 (pc' := 200) (L' := [some (.ref 89), some (.int y843), some (.int y844), some (.int y845), some (.int y846), some (.int y847), some (.int y848), o7, o8]) (st' := [.int y844]) (h' := (HM P w T)) (cs' := 0) (sl' := 0) rfl ?_
        rcases ai_ifE h with ⟨hc, h⟩ | ⟨hc, h⟩
        · refine ev_if_ne (t := 207) rfl rfl (fun c9 => absurd hc c9) (fun _ => ?_)
          refine ev_go 2 (pc' := 209) (L' := [some (.ref 89), some (.int y843), some (.int y844), some (.int y845), some (.int y846), some (.int y847), some (.int y848), o7, o8]) (st' := [.int y845]) (h' := (HM P w T)) (cs' := 0) (sl' := 0) rfl ?_
          obtain ⟨rfl, rfl⟩ := ai_smP h
          exact ev_end rfl
        · refine ev_if_ne (t := 207) rfl rfl (fun _ => ?_) (fun c9 => absurd c9 hc)
          refine ev_go 1 (pc' := 209) (L' := [some (.ref 89), some (.int y843), some (.int y844), some (.int y845), some (.int y846), some (.int y847), some (.int y848), o7, o8]) (st' := [.int y846]) (h' := (HM P w T)) (cs' := 0) (sl' := 0) rfl ?_
          obtain ⟨rfl, rfl⟩ := ai_smP h
          exact ev_end rfl
      · refine ev_ic_ge (t := 199) rfl rfl (fun c9 => absurd c9 hc) (fun _ => ?_)
        refine ev_go 1 (pc' := 82) (L' := [some (.ref 89), some (.int y843), some (.int y844), some (.int y845), some (.int y846), some (.int y847), some (.int y848), o7, o8]) (st' := [.int y845]) (h' := (HM P w T)) (cs' := 0) (sl' := 0) rfl ?_
        rcases ai_ifE h with ⟨hc, h⟩ | ⟨hc, h⟩
        · refine ev_if_le (t := 199) rfl rfl (fun _ => ?_) (fun c9 => absurd hc c9)
          refine ev_go 1 (pc' := 200) (L' := [some (.ref 89), some (.int y843), some (.int y844), some (.int y845), some (.int y846), some (.int y847), some (.int y848), o7, o8]) (st' := [.int y844]) (h' := (HM P w T)) (cs' := 0) (sl' := 0) rfl ?_
          rcases ai_ifE h with ⟨hc, h⟩ | ⟨hc, h⟩
          · refine ev_if_ne (t := 207) rfl rfl (fun c9 => absurd hc c9) (fun _ => ?_)
            refine ev_go 2 (pc' := 209) (L' := [some (.ref 89), some (.int y843), some (.int y844), some (.int y845), some (.int y846), some (.int y847), some (.int y848), o7, o8]) (st' := [.int y845]) (h' := (HM P w T)) (cs' := 0) (sl' := 0) rfl ?_
            obtain ⟨rfl, rfl⟩ := ai_smP h
            exact ev_end rfl
          · refine ev_if_ne (t := 207) rfl rfl (fun _ => ?_) (fun c9 => absurd c9 hc)
            refine ev_go 1 (pc' := 209) (L' := [some (.ref 89), some (.int y843), some (.int y844), some (.int y845), some (.int y846), some (.int y847), some (.int y848), o7, o8]) (st' := [.int y846]) (h' := (HM P w T)) (cs' := 0) (sl' := 0) rfl ?_
            obtain ⟨rfl, rfl⟩ := ai_smP h
            exact ev_end rfl
        · refine ev_if_le (t := 199) rfl rfl (fun c9 => absurd c9 hc) (fun _ => ?_)
          refine ev_go 4 (pc' := 91) (L' := [some (.ref 89), some (.int y843), some (.int y844), some (.int y845), some (.int y846), some (.int y847), some (.int y848), some (.int 0), some (.int 1)]) (st' := []) (h' := (HM P w T)) (cs' := 0) (sl' := 0) rfl ?_
          exact ih2 _ _ _ _ _ _ _ _ _ _ _ h P T
    · intro y849 y850 y851 y852 y853 y854 y855 y856 w r w' h P T
      simp only [Gm_known_89] at h
      refine ev_go 2 (pc' := 95) (L' := [some (.ref 89), some (.int y849), some (.int y850), some (.int y851), some (.int y852), some (.int y853), some (.int y854), some (.int y855), some (.int y856)]) (st' := [.int 100, .int y856]) (h' := (HM P w T)) (cs' := 0) (sl' := 0) rfl ?_
      rcases ai_ifE h with ⟨hc, h⟩ | ⟨hc, h⟩
      · refine ev_ic_ge (t := 141) rfl rfl (fun _ => ?_) (fun c9 => absurd hc c9)
        refine ev_go 4 (pc' := 147) (L' := [some (.ref 89), some (.int y849), some (.int y850), some (.int y851), some (.int y852), some (.int y853), some (.int y854), some (.int y855), some (.int y856)]) (st' := [.int (y851 - y855), .int y855]) (h' := (HM P w T)) (cs' := 0) (sl' := 0) rfl ?_
        rcases ai_ifE h with ⟨hc, h⟩ | ⟨hc, h⟩
        · refine ev_ic_le (t := 155) rfl rfl (fun _ => ?_) (fun c9 => absurd hc c9)
          refine ev_go 6 (pc' := 165) (L' := [some (.ref 89), some (.int y849), some (.int y850), some (.int y851), some (.int y852), some (.int y853), some (.int y854), some (.int y855), some (.int (y851 - y855))]) (st' := [.int y853, .int (y851 - y855)]) (h' := (HM P w T)) (cs' := 0) (sl' := 0) rfl ?_
          rcases ai_ifE h with ⟨hc, h⟩ | ⟨hc, h⟩
          · refine ev_ic_ge (t := 173) rfl rfl (fun _ => ?_) (fun c9 => absurd hc c9)
            refine ev_go 4 (pc' := 181) (L' := [some (.ref 89), some (.int y849), some (.int y850), some (.int y851), some (.int y852), some (.int y853), some (.int y854), some (.int y855), some (.int (y851 - y855))]) (st' := [.int y853, .int (y851 - y855)]) (h' := (HM P w T)) (cs' := 0) (sl' := 0) rfl ?_
            rcases ai_ifE h with ⟨hc, h⟩ | ⟨hc, h⟩
            · refine ev_ic_ge (t := 189) rfl rfl (fun _ => ?_) (fun c9 => absurd hc c9)
              refine ev_go 4 (pc' := 75) (L' := [some (.ref 89), some (.int y849), some (.int y850), some (.int y851), some (.int y852), some (.int y853), some (.int (y854 + 1)), some (.int y855), some (.int (y851 - y855))]) (st' := []) (h' := (HM P w T)) (cs' := 0) (sl' := 0) rfl ?_
              exact ih1 _ _ _ _ _ _ _ _ _ h P T _ _
            · refine ev_ic_ge (t := 189) rfl rfl (fun c9 => absurd c9 hc) (fun _ => ?_)
              refine ev_go 5 (pc' := 75) (L' := [some (.ref 89), some (.int y849), some (.int y850), some (.int y851), some (.int y852), some (.int (y851 - y855)), some (.int (y854 + 1)), some (.int y855), some (.int (y851 - y855))]) (st' := []) (h' := (HM P w T)) (cs' := 0) (sl' := 0) rfl ?_
              exact ih1 _ _ _ _ _ _ _ _ _ h P T _ _
          · refine ev_ic_ge (t := 173) rfl rfl (fun c9 => absurd c9 hc) (fun _ => ?_)
            refine ev_go 5 (pc' := 181) (L' := [some (.ref 89), some (.int y849), some (.int y850), some (.int y851), some (.int y854), some (.int y853), some (.int y854), some (.int y855), some (.int (y851 - y855))]) (st' := [.int y853, .int (y851 - y855)]) (h' := (HM P w T)) (cs' := 0) (sl' := 0) rfl ?_
            rcases ai_ifE h with ⟨hc, h⟩ | ⟨hc, h⟩
            · refine ev_ic_ge (t := 189) rfl rfl (fun _ => ?_) (fun c9 => absurd hc c9)
              refine ev_go 4 (pc' := 75) (L' := [some (.ref 89), some (.int y849), some (.int y850), some (.int y851), some (.int y854), some (.int y853), some (.int (y854 + 1)), some (.int y855), some (.int (y851 - y855))]) (st' := []) (h' := (HM P w T)) (cs' := 0) (sl' := 0) rfl ?_
              exact ih1 _ _ _ _ _ _ _ _ _ h P T _ _
            · refine ev_ic_ge (t := 189) rfl rfl (fun c9 => absurd c9 hc) (fun _ => ?_)
              refine ev_go 5 (pc' := 75) (L' := [some (.ref 89), some (.int y849), some (.int y850), some (.int y851), some (.int y854), some (.int (y851 - y855)), some (.int (y854 + 1)), some (.int y855), some (.int (y851 - y855))]) (st' := []) (h' := (HM P w T)) (cs' := 0) (sl' := 0) rfl ?_
              exact ih1 _ _ _ _ _ _ _ _ _ h P T _ _
        · refine ev_ic_le (t := 155) rfl rfl (fun c9 => absurd c9 hc) (fun _ => ?_)
          refine ev_go 5 (pc' := 165) (L' := [some (.ref 89), some (.int y849), some (.int y850), some (.int y851), some (.int y852), some (.int y853), some (.int y854), some (.int y855), some (.int y855)]) (st' := [.int y853, .int y855]) (h' := (HM P w T)) (cs' := 0) (sl' := 0) rfl ?_
          rcases ai_ifE h with ⟨hc, h⟩ | ⟨hc, h⟩
          · refine ev_ic_ge (t := 173) rfl rfl (fun _ => ?_) (fun c9 => absurd hc c9)
            refine ev_go 4 (pc' := 181) (L' := [some (.ref 89), some (.int y849), some (.int y850), some (.int y851), some (.int y852), some (.int y853), some (.int y854), some (.int y855), some (.int y855)]) (st' := [.int y853, .int y855]) (h' := (HM P w T)) (cs' := 0) (sl' := 0) rfl ?_
            rcases ai_ifE h with ⟨hc, h⟩ | ⟨hc, h⟩
            · refine ev_ic_ge (t := 189) rfl rfl (fun _ => ?_) (fun c9 => absurd hc c9)
              refine ev_go 4 (pc' := 75) (L' := [some (.ref 89), some (.int y849), some (.int y850), some (.int y851), some (.int y852), some (.int y853), some (.int (y854 + 1)), some (.int y855), some (.int y855)]) (st' := []) (h' := (HM P w T)) (cs' := 0) (sl' := 0) rfl ?_
              exact ih1 _ _ _ _ _ _ _ _ _ h P T _ _
            · refine ev_ic_ge (t := 189) rfl rfl (fun c9 => absurd c9 hc) (fun _ => ?_)
              refine ev_go 5 (pc' := 75) (L' := [some (.ref 89), some (.int y849), some (.int y850), some (.int y851), some (.int y852), some (.int y855), some (.int (y854 + 1)), some (.int y855), some (.int y855)]) (st' := []) (h' := (HM P w T)) (cs' := 0) (sl' := 0) rfl ?_
              exact ih1 _ _ _ _ _ _ _ _ _ h P T _ _
          · refine ev_ic_ge (t := 173) rfl rfl (fun c9 => absurd c9 hc) (fun _ => ?_)
            refine ev_go 5 (pc' := 181) (L' := [some (.ref 89), some (.int y849), some (.int y850), some (.int y851), some (.int y854), some (.int y853), some (.int y854), some (.int y855), some (.int y855)]) (st' := [.int y853, .int y855]) (h' := (HM P w T)) (cs' := 0) (sl' := 0) rfl ?_
            rcases ai_ifE h with ⟨hc, h⟩ | ⟨hc, h⟩
            · refine ev_ic_ge (t := 189) rfl rfl (fun _ => ?_) (fun c9 => absurd hc c9)
              refine ev_go 4 (pc' := 75) (L' := [some (.ref 89), some (.int y849), some (.int y850), some (.int y851), some (.int y854), some (.int y853), some (.int (y854 + 1)), some (.int y855), some (.int y855)]) (st' := []) (h' := (HM P w T)) (cs' := 0) (sl' := 0) rfl ?_
              exact ih1 _ _ _ _ _ _ _ _ _ h P T _ _
            · refine ev_ic_ge (t := 189) rfl rfl (fun c9 => absurd c9 hc) (fun _ => ?_)
              refine ev_go 5 (pc' := 75) (L' := [some (.ref 89), some (.int y849), some (.int y850), some (.int y851), some (.int y854), some (.int y855), some (.int (y854 + 1)), some (.int y855), some (.int y855)]) (st' := []) (h' := (HM P w T)) (cs' := 0) (sl' := 0) rfl ?_
              exact ih1 _ _ _ _ _ _ _ _ _ h P T _ _
      · refine ev_ic_ge (t := 141) rfl rfl (fun c9 => absurd c9 hc) (fun _ => ?_)
        refine ev_go 4 (pc' := 104) (L' := [some (.ref 89), some (.int y849), some (.int y850), some (.int y851), some (.int y852), some (.int y853), some (.int y854), some (.int y855), some (.int y856)]) (st' := [.int y849, .int y856, .ref 89, .int y855]) (h' := (HM P w T)) (cs' := 0) (sl' := 0) rfl ?_
        obtain ⟨c857, hq, h⟩ := ai_bdE h
        refine ev_call (M' := mm_fits) (L' := [some (.ref 89), some (.int y856), some (.int y849), none, none]) (rest := [.int y855]) (rv := some (.int c857.1)) (h' := (HM P c857.2 T)) rfl (Em_fits_89 n y856 y849 w _ _ hq P T) ?_
        show ai_ev D1 mm_known 107 [some (.ref 89), some (.int y849), some (.int y850), some (.int y851), some (.int y852), some (.int y853), some (.int y854), some (.int y855), some (.int y856)] [.int c857.1, .int y855] (HM P c857.2 T) 0 0 _
        rcases ai_ifE h with ⟨hc, h⟩ | ⟨hc, h⟩
        · refine ev_if_eq (t := 131) rfl rfl (fun _ => ?_) (fun c9 => absurd hc c9)
          refine ev_go 5 (pc' := 91) (L' := [some (.ref 89), some (.int y849), some (.int y850), some (.int y851), some (.int y852), some (.int y853), some (.int y854), some (.int (y855 + 0)), some (.int (y856 + 1))]) (st' := []) (h' := (HM P c857.2 T)) (cs' := 0) (sl' := 0) rfl ?_
          exact ih2 _ _ _ _ _ _ _ _ _ _ _ h P T
        · refine ev_if_eq (t := 131) rfl rfl (fun c9 => absurd c9 hc) (fun _ => ?_)
          refine ev_go 7 (pc' := 122) (L' := [some (.ref 89), some (.int y849), some (.int y850), some (.int y851), some (.int y852), some (.int y853), some (.int y854), some (.int y855), some (.int y856)]) (st' := [.int (8 + y854), .ref 90, .int y849, .int y856, .int y855]) (h' := (HM P c857.2 T)) (cs' := 0) (sl' := 0) rfl ?_
          obtain ⟨v858, hq, h⟩ := ai_bdE h
          refine ev_iald rfl rfl hq ?_
          refine ev_go 1 (pc' := 124) (L' := [some (.ref 89), some (.int y849), some (.int y850), some (.int y851), some (.int y852), some (.int y853), some (.int y854), some (.int y855), some (.int y856)]) (st' := [.int (y849 * v858), .int y856, .int y855]) (h' := (HM P c857.2 T)) (cs' := 0) (sl' := 0) rfl ?_
          rcases ai_ifE h with ⟨hc, h⟩ | ⟨hc, h⟩
          · refine ev_ic_gt (t := 131) rfl rfl (fun _ => ?_) (fun c9 => absurd hc c9)
            refine ev_go 5 (pc' := 91) (L' := [some (.ref 89), some (.int y849), some (.int y850), some (.int y851), some (.int y852), some (.int y853), some (.int y854), some (.int (y855 + 0)), some (.int (y856 + 1))]) (st' := []) (h' := (HM P c857.2 T)) (cs' := 0) (sl' := 0) rfl ?_
            exact ih2 _ _ _ _ _ _ _ _ _ _ _ h P T
          · refine ev_ic_gt (t := 131) rfl rfl (fun c9 => absurd c9 hc) (fun _ => ?_)
            refine ev_go 6 (pc' := 91) (L' := [some (.ref 89), some (.int y849), some (.int y850), some (.int y851), some (.int y852), some (.int y853), some (.int y854), some (.int (y855 + 1)), some (.int (y856 + 1))]) (st' := []) (h' := (HM P c857.2 T)) (cs' := 0) (sl' := 0) rfl ?_
            exact ih2 _ _ _ _ _ _ _ _ _ _ _ h P T
set_option maxHeartbeats 40000000 in
set_option maxRecDepth 100000 in
theorem Em_known_89 (n : Nat) (x821 : Int32) (x822 : Int32) (w : WM) (r : Int32) (w' : WM) (h : Fm_known_89 n x821 x822 w = some (r, w')) (P : Nat → ai_E) (T : ai_H) : ai_ev D1 mm_known 0 [some (.ref 89), some (.int x821), some (.int x822), none, none, none, none, none, none] [] (HM P w T) 0 0 (some (.int r), HM P w' T) := by
  unfold Fm_known_89 at h
  obtain ⟨ih0, ih1, ih2⟩ := EGm_known_89 n
  refine ev_go 4 (pc' := 6) (L' := [some (.ref 89), some (.int x821), some (.int x822), none, none, none, none, none, none]) (st' := [.long 9, .long 1, .long (x821).toInt64]) (h' := (HM P w T)) (cs' := 0) (sl' := 0) rfl ?_
  obtain ⟨c823, hq, h⟩ := ai_bdE h
  refine ev_call (M' := mm_in) (L' := [some (.long (x821).toInt64), none, some (.long 1), none, some (.long 9), none]) (rest := []) (rv := some (.int c823)) (h' := (HM P w T)) rfl (Em_in (x821).toInt64 1 9 _ hq (HM P w T)) ?_
  show ai_ev D1 mm_known 9 [some (.ref 89), some (.int x821), some (.int x822), none, none, none, none, none, none] [.int c823] (HM P w T) 0 0 _
  rcases ai_ifE h with ⟨hc, h⟩ | ⟨hc, h⟩
  · refine ev_if_eq (t := 22) rfl rfl (fun _ => ?_) (fun c9 => absurd hc c9)
    refine ev_go 2 (pc' := 25) (L' := [some (.ref 89), some (.int x821), some (.int x822), none, none, none, none, none, none]) (st' := [.int (-10), .ref 89]) (h' := (HM P w T)) (cs' := 0) (sl' := 0) rfl ?_
    obtain ⟨c824, hq, h⟩ := ai_bdE h
    refine ev_call (M' := mm_badAs) (L' := [some (.ref 89), some (.int (-10))]) (rest := []) (rv := some (.int c824.1)) (h' := (HM P c824.2 T)) rfl (Em_badAs_89 (-10) w _ _ hq P T) ?_
    show ai_ev D1 mm_known 28 [some (.ref 89), some (.int x821), some (.int x822), none, none, none, none, none, none] [.int c824.1] (HM P c824.2 T) 0 0 _
    obtain ⟨rfl, rfl⟩ := ai_smP h
    exact ev_end rfl
  · refine ev_if_eq (t := 22) rfl rfl (fun c9 => absurd c9 hc) (fun _ => ?_)
    refine ev_go 4 (pc' := 16) (L' := [some (.ref 89), some (.int x821), some (.int x822), none, none, none, none, none, none]) (st' := [.long 1, .long 0, .long (x822).toInt64]) (h' := (HM P w T)) (cs' := 0) (sl' := 0) rfl ?_
    obtain ⟨c825, hq, h⟩ := ai_bdE h
    refine ev_call (M' := mm_in) (L' := [some (.long (x822).toInt64), none, some (.long 0), none, some (.long 1), none]) (rest := []) (rv := some (.int c825)) (h' := (HM P w T)) rfl (Em_in (x822).toInt64 0 1 _ hq (HM P w T)) ?_
    show ai_ev D1 mm_known 19 [some (.ref 89), some (.int x821), some (.int x822), none, none, none, none, none, none] [.int c825] (HM P w T) 0 0 _
    rcases ai_ifE h with ⟨hc, h⟩ | ⟨hc, h⟩
    · refine ev_if_ne (t := 29) rfl rfl (fun c9 => absurd hc c9) (fun _ => ?_)
      refine ev_go 2 (pc' := 25) (L' := [some (.ref 89), some (.int x821), some (.int x822), none, none, none, none, none, none]) (st' := [.int (-10), .ref 89]) (h' := (HM P w T)) (cs' := 0) (sl' := 0) rfl ?_
      obtain ⟨c826, hq, h⟩ := ai_bdE h
      refine ev_call (M' := mm_badAs) (L' := [some (.ref 89), some (.int (-10))]) (rest := []) (rv := some (.int c826.1)) (h' := (HM P c826.2 T)) rfl (Em_badAs_89 (-10) w _ _ hq P T) ?_
      show ai_ev D1 mm_known 28 [some (.ref 89), some (.int x821), some (.int x822), none, none, none, none, none, none] [.int c826.1] (HM P c826.2 T) 0 0 _
      obtain ⟨rfl, rfl⟩ := ai_smP h
      exact ev_end rfl
    · refine ev_if_ne (t := 29) rfl rfl (fun _ => ?_) (fun c9 => absurd c9 hc)
      refine ev_go 4 (pc' := 34) (L' := [some (.ref 89), some (.int x821), some (.int x822), some (.int 0), some (.int 1), none, none, none, none]) (st' := []) (h' := (HM P w T)) (cs' := 0) (sl' := 0) rfl ?_
      exact ih0 _ _ _ _ _ _ _ h P T _ _ _ _
set_option maxHeartbeats 40000000 in
set_option maxRecDepth 100000 in
theorem EGm_tells_89 : ∀ n : Nat, (∀ (y891 : Int64) (y892 : Int64) (y893 : Int64) (y894 : Int64) (w : WM) (w' : WM), Gm_tells_89 n 0 y891 y892 y893 y894 w = some w' → ∀ (P : Nat → ai_E) (T : ai_H) (o9 o10 : Option Value), ai_ev D1 mm_tells 6 [some (.ref 89), some (.long y891), none, some (.long y892), none, some (.long y893), none, some (.long y894), none, o9, o10] [] (HM P w T) 0 0 (none, HM P w' T)) := by
  intro n
  induction n with
  | zero =>
    exact (fun _ _ _ _ _ _ h => by cases h)
  | succ n ih0 =>
    intro y891 y892 y893 y894 w w' h P T o9 o10
    simp only [Gm_tells_89] at h
    refine ev_go 3 (pc' := 10) (L' := [some (.ref 89), some (.long y891), none, some (.long y892), none, some (.long y893), none, some (.long y894), none, o9, o10]) (st' := [.int (lg_cmp y894 0)]) (h' := (HM P w T)) (cs' := 0) (sl' := 0) rfl ?_
    rcases ai_ifE h with ⟨hc, h⟩ | ⟨hc, h⟩
    · refine ev_if_eq (t := 31) rfl rfl (fun _ => ?_) (fun c9 => absurd hc c9)
      refine ev_go 3 (pc' := 35) (L' := [some (.ref 89), some (.long y891), none, some (.long y892), none, some (.long y893), none, some (.long y894), none, o9, o10]) (st' := [.long y893, .long y891, .ref 89]) (h' := (HM P w T)) (cs' := 0) (sl' := 0) rfl ?_
      obtain ⟨hc, h⟩ := ai_ifN h
      refine ev_ldiv rfl hc ?_
      refine ev_step rfl rfl rfl (PFM_8_282_89 rfl) ?_
      refine ev_go 3 (pc' := 43) (L' := [some (.ref 89), some (.long y891), none, some (.long y892), none, some (.long y893), none, some (.long y894), none, o9, o10]) (st' := [.long y893, .long y892, .ref 89]) (h' := (HM P (u_m_above w (y891 / y893)) T)) (cs' := 0) (sl' := 0) rfl ?_
      obtain ⟨hc, h⟩ := ai_ifN h
      refine ev_ldiv rfl hc ?_
      refine ev_step rfl rfl rfl (PFM_8_23_89 rfl) ?_
      obtain rfl := Option.some.inj h
      exact ev_end rfl
    · refine ev_if_eq (t := 31) rfl rfl (fun c9 => absurd c9 hc) (fun _ => ?_)
      refine ev_go 2 (pc' := 17) (L' := [some (.ref 89), some (.long y891), none, some (.long y892), none, some (.long y893), none, some (.long y894), none, o9, o10]) (st' := [.long y894, .long y893]) (h' := (HM P w T)) (cs' := 0) (sl' := 0) rfl ?_
      obtain ⟨hc, h⟩ := ai_ifN h
      refine ev_lrem rfl hc ?_
      refine ev_go 6 (pc' := 6) (L' := [some (.ref 89), some (.long y891), none, some (.long y892), none, some (.long y894), none, some (.long (y893 - y893 / y894 * y894)), none, some (.long (y893 - y893 / y894 * y894)), none]) (st' := []) (h' := (HM P w T)) (cs' := 0) (sl' := 0) rfl ?_
      exact ih0 _ _ _ _ _ _ h P T _ _
set_option maxHeartbeats 40000000 in
set_option maxRecDepth 100000 in
theorem Em_tells_89 (n : Nat) (x889 : Int64) (x890 : Int64) (w : WM) (w' : WM) (h : Fm_tells_89 n x889 x890 w = some w') (P : Nat → ai_E) (T : ai_H) : ai_ev D1 mm_tells 0 [some (.ref 89), some (.long x889), none, some (.long x890), none, none, none, none, none, none, none] [] (HM P w T) 0 0 (none, HM P w' T) := by
  unfold Fm_tells_89 at h
  have ih0 := EGm_tells_89 n
  refine ev_go 4 (pc' := 6) (L' := [some (.ref 89), some (.long x889), none, some (.long x890), none, some (.long x889), none, some (.long x890), none, none, none]) (st' := []) (h' := (HM P w T)) (cs' := 0) (sl' := 0) rfl ?_
  exact ih0 _ _ _ _ _ _ h P T _ _
set_option maxHeartbeats 40000000 in
set_option maxRecDepth 100000 in
theorem EGm_storm_89 : ∀ n : Nat, (∀ (y871 : Int32) (y872 : Int32) (y873 : Int32) (y874 : Int32) (y875 : Int64) (y876 : Int64) (y877 : Int32) (w : WM) (r : Int32) (w' : WM), Gm_storm_89 n 0 y871 y872 y873 y874 y877 0 0 y875 y876 0 0 w = some (r, w') → ∀ (P : Nat → ai_E) (T : ai_H) (o10 o11 o12 o13 o14 o15 : Option Value), ai_ev D1 mm_storm 55 [some (.ref 89), some (.int y871), some (.int y872), some (.int y873), some (.int y874), some (.long y875), none, some (.long y876), none, some (.int y877), o10, o11, o12, o13, o14, o15] [] (HM P w T) 0 0 (some (.int r), HM P w' T)) ∧ (∀ (y880 : Int32) (y881 : Int32) (y882 : Int32) (y883 : Int32) (y884 : Int64) (y885 : Int64) (y886 : Int32) (y887 : Int64) (y888 : Int32) (w : WM) (r : Int32) (w' : WM), Gm_storm_89 n 1 y880 y881 y882 y883 y886 y888 0 y884 y885 y887 0 w = some (r, w') → ∀ (P : Nat → ai_E) (T : ai_H) (o13 o14 o15 : Option Value), ai_ev D1 mm_storm 108 [some (.ref 89), some (.int y880), some (.int y881), some (.int y882), some (.int y883), some (.long y884), none, some (.long y885), none, some (.int y886), some (.long y887), none, some (.int y888), o13, o14, o15] [] (HM P w T) 0 0 (some (.int r), HM P w' T)) ∧ (∀ (y896 : Int32) (y897 : Int32) (y898 : Int32) (y899 : Int32) (y900 : Int64) (y901 : Int64) (y902 : Int32) (y903 : Int64) (y904 : Int32) (y905 : Int64) (y906 : Int32) (w : WM) (r : Int32) (w' : WM), Gm_storm_89 n 2 y896 y897 y898 y899 y902 y904 y906 y900 y901 y903 y905 w = some (r, w') → ∀ (P : Nat → ai_E) (T : ai_H), ai_ev D1 mm_storm 121 [some (.ref 89), some (.int y896), some (.int y897), some (.int y898), some (.int y899), some (.long y900), none, some (.long y901), none, some (.int y902), some (.long y903), none, some (.int y904), some (.long y905), none, some (.int y906)] [] (HM P w T) 0 0 (some (.int r), HM P w' T)) := by
  intro n
  induction n with
  | zero =>
    exact ⟨(fun _ _ _ _ _ _ _ _ _ _ h => by cases h), (fun _ _ _ _ _ _ _ _ _ _ _ _ h => by cases h), (fun _ _ _ _ _ _ _ _ _ _ _ _ _ _ h => by cases h)⟩
  | succ n ih =>
    obtain ⟨ih0, ih1, ih2⟩ := ih
    refine ⟨?_, ?_, ?_⟩
    · intro y871 y872 y873 y874 y875 y876 y877 w r w' h P T o10 o11 o12 o13 o14 o15
      simp only [Gm_storm_89] at h
      refine ev_go 2 (pc' := 58) (L' := [some (.ref 89), some (.int y871), some (.int y872), some (.int y873), some (.int y874), some (.long y875), none, some (.long y876), none, some (.int y877), o10, o11, o12, o13, o14, o15]) (st' := [.int y873, .int y877]) (h' := (HM P w T)) (cs' := 0) (sl' := 0) rfl ?_
      rcases ai_ifE h with ⟨hc, h⟩ | ⟨hc, h⟩
      · refine ev_ic_ge (t := 86) rfl rfl (fun _ => ?_) (fun c9 => absurd hc c9)
        refine ev_go 2 (pc' := 88) (L' := [some (.ref 89), some (.int y871), some (.int y872), some (.int y873), some (.int y874), some (.long y875), none, some (.long y876), none, some (.int y877), o10, o11, o12, o13, o14, o15]) (st' := [.int y871, .ref 89]) (h' := (HM P w T)) (cs' := 0) (sl' := 0) rfl ?_
        obtain ⟨c878, hq, h⟩ := ai_bdE h
        refine ev_call (M' := mm_lay) (L' := [some (.ref 89), some (.int y871)]) (rest := []) (rv := none) (h' := (HM P c878 T)) rfl (Em_lay_89 y871 w _ hq P T) ?_
        show ai_ev D1 mm_storm 91 [some (.ref 89), some (.int y871), some (.int y872), some (.int y873), some (.int y874), some (.long y875), none, some (.long y876), none, some (.int y877), o10, o11, o12, o13, o14, o15] [] (HM P c878 T) 0 0 _
        refine ev_go 2 (pc' := 93) (L' := [some (.ref 89), some (.int y871), some (.int y872), some (.int y873), some (.int y874), some (.long y875), none, some (.long y876), none, some (.int y877), o10, o11, o12, o13, o14, o15]) (st' := [.int y872, .ref 89]) (h' := (HM P c878 T)) (cs' := 0) (sl' := 0) rfl ?_
        obtain ⟨c879, hq, h⟩ := ai_bdE h
        refine ev_call (M' := mm_comesDown) (L' := [some (.ref 89), some (.int y872), none, none, none]) (rest := []) (rv := none) (h' := (HM P c879 T)) rfl (Em_comesDown_89 n y872 c878 _ hq P T) ?_
        show ai_ev D1 mm_storm 96 [some (.ref 89), some (.int y871), some (.int y872), some (.int y873), some (.int y874), some (.long y875), none, some (.long y876), none, some (.int y877), o10, o11, o12, o13, o14, o15] [] (HM P c879 T) 0 0 _
        refine ev_go 7 (pc' := 108) (L' := [some (.ref 89), some (.int y871), some (.int y872), some (.int y873), some (.int y874), some (.long y875), none, some (.long y876), none, some (.int (a_m_restsIn c879)), some (.long 0), none, some (.int 0), o13, o14, o15]) (st' := []) (h' := (HM P c879 T)) (cs' := 0) (sl' := 0) rfl ?_
        exact ih1 _ _ _ _ _ _ _ _ _ _ _ _ h P T _ _ _
      · refine ev_ic_ge (t := 86) rfl rfl (fun c9 => absurd c9 hc) (fun _ => ?_)
        refine ev_go 13 (pc' := 55) (L' := [some (.ref 89), some (.int y871), some (.int y872), some (.int y873), some (.int y874), some (.long (y875 * 10)), none, some (.long (y876 * ((10 - y874)).toInt64)), none, some (.int (y877 + 1)), o10, o11, o12, o13, o14, o15]) (st' := []) (h' := (HM P w T)) (cs' := 0) (sl' := 0) rfl ?_
        exact ih0 _ _ _ _ _ _ _ _ _ _ h P T _ _ _ _ _ _
    · intro y880 y881 y882 y883 y884 y885 y886 y887 y888 w r w' h P T o13 o14 o15
      simp only [Gm_storm_89] at h
      refine ev_go 2 (pc' := 112) (L' := [some (.ref 89), some (.int y880), some (.int y881), some (.int y882), some (.int y883), some (.long y884), none, some (.long y885), none, some (.int y886), some (.long y887), none, some (.int y888), o13, o14, o15]) (st' := [.int 8, .int y888]) (h' := (HM P w T)) (cs' := 0) (sl' := 0) rfl ?_
      rcases ai_ifE h with ⟨hc, h⟩ | ⟨hc, h⟩
      · refine ev_ic_ge (t := 195) rfl rfl (fun _ => ?_) (fun c9 => absurd hc c9)
        refine ev_go 2 (pc' := 197) (L' := [some (.ref 89), some (.int y880), some (.int y881), some (.int y882), some (.int y883), some (.long y884), none, some (.long y885), none, some (.int y886), some (.long y887), none, some (.int y888), o13, o14, o15]) (st' := [.int 0, .ref 89]) (h' := (HM P w T)) (cs' := 0) (sl' := 0) rfl ?_
        refine ev_step rfl rfl rfl (PFM_8_192_89 rfl) ?_
        refine ev_go 7 (pc' := 211) (L' := [some (.ref 89), some (.int y880), some (.int y881), some (.int y882), some (.int y883), some (.long y884), none, some (.long y885), none, some (.int y886), some (.long y887), none, some (.int y888), o13, o14, o15]) (st' := [.long ((y884 * y884) * y884), .long y887, .ref 89]) (h' := (HM P (u_m_torn w 0) T)) (cs' := 0) (sl' := 0) rfl ?_
        obtain ⟨c895, hq, h⟩ := ai_bdE h
        refine ev_call (M' := mm_tells) (L' := [some (.ref 89), some (.long y887), none, some (.long ((y884 * y884) * y884)), none, none, none, none, none, none, none]) (rest := []) (rv := none) (h' := (HM P c895 T)) rfl (Em_tells_89 n y887 ((y884 * y884) * y884) (u_m_torn w 0) _ hq P T) ?_
        show ai_ev D1 mm_storm 214 [some (.ref 89), some (.int y880), some (.int y881), some (.int y882), some (.int y883), some (.long y884), none, some (.long y885), none, some (.int y886), some (.long y887), none, some (.int y888), o13, o14, o15] [] (HM P c895 T) 0 0 _
        refine ev_go 1 (pc' := 215) (L' := [some (.ref 89), some (.int y880), some (.int y881), some (.int y882), some (.int y883), some (.long y884), none, some (.long y885), none, some (.int y886), some (.long y887), none, some (.int y888), o13, o14, o15]) (st' := [.int 1]) (h' := (HM P c895 T)) (cs' := 0) (sl' := 0) rfl ?_
        obtain ⟨rfl, rfl⟩ := ai_smP h
        exact ev_end rfl
      · refine ev_ic_ge (t := 195) rfl rfl (fun c9 => absurd c9 hc) (fun _ => ?_)
        refine ev_go 4 (pc' := 121) (L' := [some (.ref 89), some (.int y880), some (.int y881), some (.int y882), some (.int y883), some (.long y884), none, some (.long y885), none, some (.int y886), some (.long y887), none, some (.int y888), some (.long 1), none, some (.int 0)]) (st' := []) (h' := (HM P w T)) (cs' := 0) (sl' := 0) rfl ?_
        exact ih2 _ _ _ _ _ _ _ _ _ _ _ _ _ _ h P T
    · intro y896 y897 y898 y899 y900 y901 y902 y903 y904 y905 y906 w r w' h P T
      simp only [Gm_storm_89] at h
      refine ev_go 2 (pc' := 124) (L' := [some (.ref 89), some (.int y896), some (.int y897), some (.int y898), some (.int y899), some (.long y900), none, some (.long y901), none, some (.int y902), some (.long y903), none, some (.int y904), some (.long y905), none, some (.int y906)]) (st' := [.int 3, .int y906]) (h' := (HM P w T)) (cs' := 0) (sl' := 0) rfl ?_
      rcases ai_ifE h with ⟨hc, h⟩ | ⟨hc, h⟩
      · refine ev_ic_ge (t := 158) rfl rfl (fun _ => ?_) (fun c9 => absurd hc c9)
        refine ev_go 2 (pc' := 161) (L' := [some (.ref 89), some (.int y896), some (.int y897), some (.int y898), some (.int y899), some (.long y900), none, some (.long y901), none, some (.int y902), some (.long y903), none, some (.int y904), some (.long y905), none, some (.int y906)]) (st' := [.int y904, .ref 89]) (h' := (HM P w T)) (cs' := 0) (sl' := 0) rfl ?_
        refine ev_step rfl rfl rfl (PFM_8_192_89 rfl) ?_
        refine ev_go 2 (pc' := 166) (L' := [some (.ref 89), some (.int y896), some (.int y897), some (.int y898), some (.int y899), some (.long y900), none, some (.long y901), none, some (.int y902), some (.long y903), none, some (.int y904), some (.long y905), none, some (.int y906)]) (st' := [.int y897, .ref 89]) (h' := (HM P (u_m_torn w y904) T)) (cs' := 0) (sl' := 0) rfl ?_
        obtain ⟨c907, hq, h⟩ := ai_bdE h
        refine ev_call (M' := mm_comesDown) (L' := [some (.ref 89), some (.int y897), none, none, none]) (rest := []) (rv := none) (h' := (HM P c907 T)) rfl (Em_comesDown_89 n y897 (u_m_torn w y904) _ hq P T) ?_
        show ai_ev D1 mm_storm 169 [some (.ref 89), some (.int y896), some (.int y897), some (.int y898), some (.int y899), some (.long y900), none, some (.long y901), none, some (.int y902), some (.long y903), none, some (.int y904), some (.long y905), none, some (.int y906)] [] (HM P c907 T) 0 0 _
        refine ev_go 4 (pc' := 177) (L' := [some (.ref 89), some (.int y896), some (.int y897), some (.int y898), some (.int y899), some (.long y900), none, some (.long y901), none, some (.int y902), some (.long y903), none, some (.int y904), some (.long y905), none, some (.int y906)]) (st' := [.int y902, .int (a_m_restsIn c907), .long y903]) (h' := (HM P c907 T)) (cs' := 0) (sl' := 0) rfl ?_
        rcases ai_ifE h with ⟨hc, h⟩ | ⟨hc, h⟩
        · refine ev_ic_le (t := 185) rfl rfl (fun _ => ?_) (fun c9 => absurd hc c9)
          refine ev_go 5 (pc' := 108) (L' := [some (.ref 89), some (.int y896), some (.int y897), some (.int y898), some (.int y899), some (.long y900), none, some (.long y901), none, some (.int y902), some (.long (y903 + 0)), none, some (.int (y904 + 1)), some (.long y905), none, some (.int y906)]) (st' := []) (h' := (HM P c907 T)) (cs' := 0) (sl' := 0) rfl ?_
          exact ih1 _ _ _ _ _ _ _ _ _ _ _ _ h P T _ _ _
        · refine ev_ic_le (t := 185) rfl rfl (fun c9 => absurd c9 hc) (fun _ => ?_)
          refine ev_go 6 (pc' := 108) (L' := [some (.ref 89), some (.int y896), some (.int y897), some (.int y898), some (.int y899), some (.long y900), none, some (.long y901), none, some (.int y902), some (.long (y903 + y905)), none, some (.int (y904 + 1)), some (.long y905), none, some (.int y906)]) (st' := []) (h' := (HM P c907 T)) (cs' := 0) (sl' := 0) rfl ?_
          exact ih1 _ _ _ _ _ _ _ _ _ _ _ _ h P T _ _ _
      · refine ev_ic_ge (t := 158) rfl rfl (fun c9 => absurd c9 hc) (fun _ => ?_)
        refine ev_go 3 (pc' := 133) (L' := [some (.ref 89), some (.int y896), some (.int y897), some (.int y898), some (.int y899), some (.long y900), none, some (.long y901), none, some (.int y902), some (.long y903), none, some (.int y904), some (.long y905), none, some (.int y906)]) (st' := [.int y906, .int y904, .long y905]) (h' := (HM P w T)) (cs' := 0) (sl' := 0) rfl ?_
        obtain ⟨c908, hq, h⟩ := ai_bdE h
        refine ev_call (M' := mm_has) (L' := [some (.int y904), some (.int y906)]) (rest := [.long y905]) (rv := some (.int c908)) (h' := (HM P w T)) rfl (Em_has y904 y906 _ hq (HM P w T)) ?_
        show ai_ev D1 mm_storm 136 [some (.ref 89), some (.int y896), some (.int y897), some (.int y898), some (.int y899), some (.long y900), none, some (.long y901), none, some (.int y902), some (.long y903), none, some (.int y904), some (.long y905), none, some (.int y906)] [.int c908, .long y905] (HM P w T) 0 0 _
        rcases ai_ifE h with ⟨hc, h⟩ | ⟨hc, h⟩
        · refine ev_if_eq (t := 147) rfl rfl (fun _ => ?_) (fun c9 => absurd hc c9)
          refine ev_go 5 (pc' := 121) (L' := [some (.ref 89), some (.int y896), some (.int y897), some (.int y898), some (.int y899), some (.long y900), none, some (.long y901), none, some (.int y902), some (.long y903), none, some (.int y904), some (.long (y905 * y901)), none, some (.int (y906 + 1))]) (st' := []) (h' := (HM P w T)) (cs' := 0) (sl' := 0) rfl ?_
          exact ih2 _ _ _ _ _ _ _ _ _ _ _ _ _ _ h P T
        · refine ev_if_eq (t := 147) rfl rfl (fun c9 => absurd c9 hc) (fun _ => ?_)
          refine ev_go 8 (pc' := 121) (L' := [some (.ref 89), some (.int y896), some (.int y897), some (.int y898), some (.int y899), some (.long y900), none, some (.long y901), none, some (.int y902), some (.long y903), none, some (.int y904), some (.long (y905 * (y900 - y901))), none, some (.int (y906 + 1))]) (st' := []) (h' := (HM P w T)) (cs' := 0) (sl' := 0) rfl ?_
          exact ih2 _ _ _ _ _ _ _ _ _ _ _ _ _ _ h P T
set_option maxHeartbeats 40000000 in
set_option maxRecDepth 100000 in
theorem Em_storm_89 (n : Nat) (x859 : Int32) (x860 : Int32) (x861 : Int32) (x862 : Int32) (w : WM) (r : Int32) (w' : WM) (h : Fm_storm_89 n x859 x860 x861 x862 w = some (r, w')) (P : Nat → ai_E) (T : ai_H) : ai_ev D1 mm_storm 0 [some (.ref 89), some (.int x859), some (.int x860), some (.int x861), some (.int x862), none, none, none, none, none, none, none, none, none, none, none] [] (HM P w T) 0 0 (some (.int r), HM P w' T) := by
  unfold Fm_storm_89 at h
  obtain ⟨ih0, ih1, ih2⟩ := EGm_storm_89 n
  refine ev_go 2 (pc' := 2) (L' := [some (.ref 89), some (.int x859), some (.int x860), some (.int x861), some (.int x862), none, none, none, none, none, none, none, none, none, none, none]) (st' := [.int x859, .ref 89]) (h' := (HM P w T)) (cs' := 0) (sl' := 0) rfl ?_
  obtain ⟨c863, hq, h⟩ := ai_bdE h
  refine ev_call (M' := mm_isThing) (L' := [some (.ref 89), some (.int x859)]) (rest := []) (rv := some (.int c863.1)) (h' := (HM P c863.2 T)) rfl (Em_isThing_89 x859 w _ _ hq P T) ?_
  show ai_ev D1 mm_storm 5 [some (.ref 89), some (.int x859), some (.int x860), some (.int x861), some (.int x862), none, none, none, none, none, none, none, none, none, none, none] [.int c863.1] (HM P c863.2 T) 0 0 _
  rcases ai_ifE h with ⟨hc, h⟩ | ⟨hc, h⟩
  · refine ev_if_eq (t := 41) rfl rfl (fun _ => ?_) (fun c9 => absurd hc c9)
    refine ev_go 1 (pc' := 42) (L' := [some (.ref 89), some (.int x859), some (.int x860), some (.int x861), some (.int x862), none, none, none, none, none, none, none, none, none, none, none]) (st' := [.ref 89]) (h' := (HM P c863.2 T)) (cs' := 0) (sl' := 0) rfl ?_
    obtain ⟨c864, hq, h⟩ := ai_bdE h
    refine ev_call (M' := mm_bad) (L' := [some (.ref 89)]) (rest := []) (rv := some (.int c864.1)) (h' := (HM P c864.2 T)) rfl (Em_bad_89 c863.2 _ _ hq P T) ?_
    show ai_ev D1 mm_storm 45 [some (.ref 89), some (.int x859), some (.int x860), some (.int x861), some (.int x862), none, none, none, none, none, none, none, none, none, none, none] [.int c864.1] (HM P c864.2 T) 0 0 _
    obtain ⟨rfl, rfl⟩ := ai_smP h
    exact ev_end rfl
  · refine ev_if_eq (t := 41) rfl rfl (fun c9 => absurd c9 hc) (fun _ => ?_)
    refine ev_go 2 (pc' := 10) (L' := [some (.ref 89), some (.int x859), some (.int x860), some (.int x861), some (.int x862), none, none, none, none, none, none, none, none, none, none, none]) (st' := [.int x860, .ref 89]) (h' := (HM P c863.2 T)) (cs' := 0) (sl' := 0) rfl ?_
    obtain ⟨c865, hq, h⟩ := ai_bdE h
    refine ev_call (M' := mm_isCell) (L' := [some (.ref 89), some (.int x860)]) (rest := []) (rv := some (.int c865.1)) (h' := (HM P c865.2 T)) rfl (Em_isCell_89 x860 c863.2 _ _ hq P T) ?_
    show ai_ev D1 mm_storm 13 [some (.ref 89), some (.int x859), some (.int x860), some (.int x861), some (.int x862), none, none, none, none, none, none, none, none, none, none, none] [.int c865.1] (HM P c865.2 T) 0 0 _
    rcases ai_ifE h with ⟨hc, h⟩ | ⟨hc, h⟩
    · refine ev_if_eq (t := 41) rfl rfl (fun _ => ?_) (fun c9 => absurd hc c9)
      refine ev_go 1 (pc' := 42) (L' := [some (.ref 89), some (.int x859), some (.int x860), some (.int x861), some (.int x862), none, none, none, none, none, none, none, none, none, none, none]) (st' := [.ref 89]) (h' := (HM P c865.2 T)) (cs' := 0) (sl' := 0) rfl ?_
      obtain ⟨c866, hq, h⟩ := ai_bdE h
      refine ev_call (M' := mm_bad) (L' := [some (.ref 89)]) (rest := []) (rv := some (.int c866.1)) (h' := (HM P c866.2 T)) rfl (Em_bad_89 c865.2 _ _ hq P T) ?_
      show ai_ev D1 mm_storm 45 [some (.ref 89), some (.int x859), some (.int x860), some (.int x861), some (.int x862), none, none, none, none, none, none, none, none, none, none, none] [.int c866.1] (HM P c866.2 T) 0 0 _
      obtain ⟨rfl, rfl⟩ := ai_smP h
      exact ev_end rfl
    · refine ev_if_eq (t := 41) rfl rfl (fun c9 => absurd c9 hc) (fun _ => ?_)
      refine ev_go 4 (pc' := 22) (L' := [some (.ref 89), some (.int x859), some (.int x860), some (.int x861), some (.int x862), none, none, none, none, none, none, none, none, none, none, none]) (st' := [.long 5, .long 0, .long (x861).toInt64]) (h' := (HM P c865.2 T)) (cs' := 0) (sl' := 0) rfl ?_
      obtain ⟨c867, hq, h⟩ := ai_bdE h
      refine ev_call (M' := mm_in) (L' := [some (.long (x861).toInt64), none, some (.long 0), none, some (.long 5), none]) (rest := []) (rv := some (.int c867)) (h' := (HM P c865.2 T)) rfl (Em_in (x861).toInt64 0 5 _ hq (HM P c865.2 T)) ?_
      show ai_ev D1 mm_storm 25 [some (.ref 89), some (.int x859), some (.int x860), some (.int x861), some (.int x862), none, none, none, none, none, none, none, none, none, none, none] [.int c867] (HM P c865.2 T) 0 0 _
      rcases ai_ifE h with ⟨hc, h⟩ | ⟨hc, h⟩
      · refine ev_if_eq (t := 41) rfl rfl (fun _ => ?_) (fun c9 => absurd hc c9)
        refine ev_go 1 (pc' := 42) (L' := [some (.ref 89), some (.int x859), some (.int x860), some (.int x861), some (.int x862), none, none, none, none, none, none, none, none, none, none, none]) (st' := [.ref 89]) (h' := (HM P c865.2 T)) (cs' := 0) (sl' := 0) rfl ?_
        obtain ⟨c868, hq, h⟩ := ai_bdE h
        refine ev_call (M' := mm_bad) (L' := [some (.ref 89)]) (rest := []) (rv := some (.int c868.1)) (h' := (HM P c868.2 T)) rfl (Em_bad_89 c865.2 _ _ hq P T) ?_
        show ai_ev D1 mm_storm 45 [some (.ref 89), some (.int x859), some (.int x860), some (.int x861), some (.int x862), none, none, none, none, none, none, none, none, none, none, none] [.int c868.1] (HM P c868.2 T) 0 0 _
        obtain ⟨rfl, rfl⟩ := ai_smP h
        exact ev_end rfl
      · refine ev_if_eq (t := 41) rfl rfl (fun c9 => absurd c9 hc) (fun _ => ?_)
        refine ev_go 4 (pc' := 35) (L' := [some (.ref 89), some (.int x859), some (.int x860), some (.int x861), some (.int x862), none, none, none, none, none, none, none, none, none, none, none]) (st' := [.long 10, .long 0, .long (x862).toInt64]) (h' := (HM P c865.2 T)) (cs' := 0) (sl' := 0) rfl ?_
        obtain ⟨c869, hq, h⟩ := ai_bdE h
        refine ev_call (M' := mm_in) (L' := [some (.long (x862).toInt64), none, some (.long 0), none, some (.long 10), none]) (rest := []) (rv := some (.int c869)) (h' := (HM P c865.2 T)) rfl (Em_in (x862).toInt64 0 10 _ hq (HM P c865.2 T)) ?_
        show ai_ev D1 mm_storm 38 [some (.ref 89), some (.int x859), some (.int x860), some (.int x861), some (.int x862), none, none, none, none, none, none, none, none, none, none, none] [.int c869] (HM P c865.2 T) 0 0 _
        rcases ai_ifE h with ⟨hc, h⟩ | ⟨hc, h⟩
        · refine ev_if_ne (t := 46) rfl rfl (fun c9 => absurd hc c9) (fun _ => ?_)
          refine ev_go 1 (pc' := 42) (L' := [some (.ref 89), some (.int x859), some (.int x860), some (.int x861), some (.int x862), none, none, none, none, none, none, none, none, none, none, none]) (st' := [.ref 89]) (h' := (HM P c865.2 T)) (cs' := 0) (sl' := 0) rfl ?_
          obtain ⟨c870, hq, h⟩ := ai_bdE h
          refine ev_call (M' := mm_bad) (L' := [some (.ref 89)]) (rest := []) (rv := some (.int c870.1)) (h' := (HM P c870.2 T)) rfl (Em_bad_89 c865.2 _ _ hq P T) ?_
          show ai_ev D1 mm_storm 45 [some (.ref 89), some (.int x859), some (.int x860), some (.int x861), some (.int x862), none, none, none, none, none, none, none, none, none, none, none] [.int c870.1] (HM P c870.2 T) 0 0 _
          obtain ⟨rfl, rfl⟩ := ai_smP h
          exact ev_end rfl
        · refine ev_if_ne (t := 46) rfl rfl (fun _ => ?_) (fun c9 => absurd c9 hc)
          refine ev_go 6 (pc' := 55) (L' := [some (.ref 89), some (.int x859), some (.int x860), some (.int x861), some (.int x862), some (.long 1), none, some (.long 1), none, some (.int 0), none, none, none, none, none, none]) (st' := []) (h' := (HM P c865.2 T)) (cs' := 0) (sl' := 0) rfl ?_
          exact ih0 _ _ _ _ _ _ _ _ _ _ h P T _ _ _ _ _ _
set_option maxHeartbeats 40000000 in
set_option maxRecDepth 100000 in
theorem Em_part_89 (x909 : Int32) (w : WM) (r : Int64) (w' : WM) (h : Fm_part_89 x909 w = some (r, w')) (P : Nat → ai_E) (T : ai_H) : ai_ev D1 mm_part 0 [some (.ref 89), some (.int x909)] [] (HM P w T) 0 0 (some (.long r), HM P w' T) := by
  unfold Fm_part_89 at h
  refine ev_go 1 (pc' := 1) (L' := [some (.ref 89), some (.int x909)]) (st' := [.int x909]) (h' := (HM P w T)) (cs' := 0) (sl' := 0) rfl ?_
  rcases ai_ifE h with ⟨hc, h⟩ | ⟨hc, h⟩
  · refine ev_if_ne (t := 11) rfl rfl (fun c9 => absurd hc c9) (fun _ => ?_)
    refine ev_go 3 (pc' := 28) (L' := [some (.ref 89), some (.int x909)]) (st' := [.long (a_m_above w)]) (h' := (HM P w T)) (cs' := 0) (sl' := 0) rfl ?_
    obtain ⟨rfl, rfl⟩ := ai_smP h
    exact ev_end rfl
  · refine ev_if_ne (t := 11) rfl rfl (fun _ => ?_) (fun c9 => absurd c9 hc)
    refine ev_go 2 (pc' := 13) (L' := [some (.ref 89), some (.int x909)]) (st' := [.int 1, .int x909]) (h' := (HM P w T)) (cs' := 0) (sl' := 0) rfl ?_
    rcases ai_ifE h with ⟨hc, h⟩ | ⟨hc, h⟩
    · refine ev_ic_ne (t := 23) rfl rfl (fun c9 => absurd hc c9) (fun _ => ?_)
      refine ev_go 3 (pc' := 28) (L' := [some (.ref 89), some (.int x909)]) (st' := [.long (a_m_below w)]) (h' := (HM P w T)) (cs' := 0) (sl' := 0) rfl ?_
      obtain ⟨rfl, rfl⟩ := ai_smP h
      exact ev_end rfl
    · refine ev_ic_ne (t := 23) rfl rfl (fun _ => ?_) (fun c9 => absurd c9 hc)
      refine ev_go 1 (pc' := 24) (L' := [some (.ref 89), some (.int x909)]) (st' := [.ref 89]) (h' := (HM P w T)) (cs' := 0) (sl' := 0) rfl ?_
      obtain ⟨c910, hq, h⟩ := ai_bdE h
      refine ev_call (M' := mm_bad) (L' := [some (.ref 89)]) (rest := []) (rv := some (.int c910.1)) (h' := (HM P c910.2 T)) rfl (Em_bad_89 w _ _ hq P T) ?_
      show ai_ev D1 mm_part 27 [some (.ref 89), some (.int x909)] [.int c910.1] (HM P c910.2 T) 0 0 _
      refine ev_go 1 (pc' := 28) (L' := [some (.ref 89), some (.int x909)]) (st' := [.long (c910.1).toInt64]) (h' := (HM P c910.2 T)) (cs' := 0) (sl' := 0) rfl ?_
      obtain ⟨rfl, rfl⟩ := ai_smP h
      exact ev_end rfl
set_option maxHeartbeats 40000000 in
set_option maxRecDepth 100000 in
theorem Em_image_89 (n : Nat) (x911 : Int32) (w : WM) (r : Int32) (w' : WM) (h : Fm_image_89 n x911 w = some (r, w')) (P : Nat → ai_E) (T : ai_H) : ai_ev D1 mm_image 0 [some (.ref 89), some (.int x911)] [] (HM P w T) 0 0 (some (.int r), HM P w' T) := by
  unfold Fm_image_89 at h
  refine ev_go 4 (pc' := 4) (L' := [some (.ref 89), some (.int x911)]) (st' := [.long 1, .long 0, .long (x911).toInt64]) (h' := (HM P w T)) (cs' := 0) (sl' := 0) rfl ?_
  obtain ⟨c912, hq, h⟩ := ai_bdE h
  refine ev_call (M' := mm_in) (L' := [some (.long (x911).toInt64), none, some (.long 0), none, some (.long 1), none]) (rest := []) (rv := some (.int c912)) (h' := (HM P w T)) rfl (Em_in (x911).toInt64 0 1 _ hq (HM P w T)) ?_
  show ai_ev D1 mm_image 7 [some (.ref 89), some (.int x911)] [.int c912] (HM P w T) 0 0 _
  rcases ai_ifE h with ⟨hc, h⟩ | ⟨hc, h⟩
  · refine ev_if_ne (t := 15) rfl rfl (fun c9 => absurd hc c9) (fun _ => ?_)
    refine ev_go 1 (pc' := 11) (L' := [some (.ref 89), some (.int x911)]) (st' := [.ref 89]) (h' := (HM P w T)) (cs' := 0) (sl' := 0) rfl ?_
    obtain ⟨c915, hq, h⟩ := ai_bdE h
    refine ev_call (M' := mm_bad) (L' := [some (.ref 89)]) (rest := []) (rv := some (.int c915.1)) (h' := (HM P c915.2 T)) rfl (Em_bad_89 w _ _ hq P T) ?_
    show ai_ev D1 mm_image 14 [some (.ref 89), some (.int x911)] [.int c915.1] (HM P c915.2 T) 0 0 _
    obtain ⟨rfl, rfl⟩ := ai_smP h
    exact ev_end rfl
  · refine ev_if_ne (t := 15) rfl rfl (fun _ => ?_) (fun c9 => absurd c9 hc)
    refine ev_go 7 (pc' := 24) (L' := [some (.ref 89), some (.int x911)]) (st' := [.int (149 * (1 + x911)), .int 0, .ref 89]) (h' := (HM P w T)) (cs' := 0) (sl' := 0) rfl ?_
    obtain ⟨c913, hq, h⟩ := ai_bdE h
    refine ev_call (M' := mm_copy) (L' := [some (.ref 89), some (.int 0), some (.int (149 * (1 + x911))), none]) (rest := []) (rv := none) (h' := (HM P c913 T)) rfl (Em_copy_89 n 0 (149 * (1 + x911)) w _ hq P T) ?_
    show ai_ev D1 mm_image 27 [some (.ref 89), some (.int x911)] [] (HM P c913 T) 0 0 _
    refine ev_go 4 (pc' := 33) (L' := [some (.ref 89), some (.int x911)]) (st' := [.int 1, .int x911, .ref 91]) (h' := (HM P c913 T)) (cs' := 0) (sl' := 0) rfl ?_
    obtain ⟨q914, hq, h⟩ := ai_bdE h
    refine ev_zast rfl rfl hq ?_
    rw [HMs_91]
    refine ev_go 1 (pc' := 35) (L' := [some (.ref 89), some (.int x911)]) (st' := [.int 1]) (h' := (HM P (u_m_isKept c913 q914) T)) (cs' := 0) (sl' := 0) rfl ?_
    obtain ⟨rfl, rfl⟩ := ai_smP h
    exact ev_end rfl
set_option maxHeartbeats 40000000 in
set_option maxRecDepth 100000 in
theorem Em_from_89 (n : Nat) (x916 : Int32) (w : WM) (r : Int32) (w' : WM) (h : Fm_from_89 n x916 w = some (r, w')) (P : Nat → ai_E) (T : ai_H) : ai_ev D1 mm_from 0 [some (.ref 89), some (.int x916)] [] (HM P w T) 0 0 (some (.int r), HM P w' T) := by
  unfold Fm_from_89 at h
  refine ev_go 4 (pc' := 4) (L' := [some (.ref 89), some (.int x916)]) (st' := [.long 1, .long 0, .long (x916).toInt64]) (h' := (HM P w T)) (cs' := 0) (sl' := 0) rfl ?_
  obtain ⟨c917, hq, h⟩ := ai_bdE h
  refine ev_call (M' := mm_in) (L' := [some (.long (x916).toInt64), none, some (.long 0), none, some (.long 1), none]) (rest := []) (rv := some (.int c917)) (h' := (HM P w T)) rfl (Em_in (x916).toInt64 0 1 _ hq (HM P w T)) ?_
  show ai_ev D1 mm_from 7 [some (.ref 89), some (.int x916)] [.int c917] (HM P w T) 0 0 _
  rcases ai_ifE h with ⟨hc, h⟩ | ⟨hc, h⟩
  · refine ev_if_ne (t := 15) rfl rfl (fun c9 => absurd hc c9) (fun _ => ?_)
    refine ev_go 1 (pc' := 11) (L' := [some (.ref 89), some (.int x916)]) (st' := [.ref 89]) (h' := (HM P w T)) (cs' := 0) (sl' := 0) rfl ?_
    obtain ⟨c921, hq, h⟩ := ai_bdE h
    refine ev_call (M' := mm_bad) (L' := [some (.ref 89)]) (rest := []) (rv := some (.int c921.1)) (h' := (HM P c921.2 T)) rfl (Em_bad_89 w _ _ hq P T) ?_
    show ai_ev D1 mm_from 14 [some (.ref 89), some (.int x916)] [.int c921.1] (HM P c921.2 T) 0 0 _
    obtain ⟨rfl, rfl⟩ := ai_smP h
    exact ev_end rfl
  · refine ev_if_ne (t := 15) rfl rfl (fun _ => ?_) (fun c9 => absurd c9 hc)
    refine ev_go 3 (pc' := 20) (L' := [some (.ref 89), some (.int x916)]) (st' := [.int x916, .ref 91]) (h' := (HM P w T)) (cs' := 0) (sl' := 0) rfl ?_
    obtain ⟨v918, hq, h⟩ := ai_bdE h
    refine ev_zald rfl rfl hq ?_
    rcases ai_ifE h with ⟨hc, h⟩ | ⟨hc, h⟩
    · refine ev_if_ne (t := 31) rfl rfl (fun c9 => absurd hc c9) (fun _ => ?_)
      refine ev_go 2 (pc' := 27) (L' := [some (.ref 89), some (.int x916)]) (st' := [.int (-3), .ref 89]) (h' := (HM P w T)) (cs' := 0) (sl' := 0) rfl ?_
      obtain ⟨c920, hq, h⟩ := ai_bdE h
      refine ev_call (M' := mm_met) (L' := [some (.ref 89), some (.int (-3))]) (rest := []) (rv := some (.int c920.1)) (h' := (HM P c920.2 T)) rfl (Em_met_89 (-3) w _ _ hq P T) ?_
      show ai_ev D1 mm_from 30 [some (.ref 89), some (.int x916)] [.int c920.1] (HM P c920.2 T) 0 0 _
      obtain ⟨rfl, rfl⟩ := ai_smP h
      exact ev_end rfl
    · refine ev_if_ne (t := 31) rfl rfl (fun _ => ?_) (fun c9 => absurd c9 hc)
      refine ev_go 7 (pc' := 40) (L' := [some (.ref 89), some (.int x916)]) (st' := [.int 0, .int (149 * (1 + x916)), .ref 89]) (h' := (HM P w T)) (cs' := 0) (sl' := 0) rfl ?_
      obtain ⟨c919, hq, h⟩ := ai_bdE h
      refine ev_call (M' := mm_copy) (L' := [some (.ref 89), some (.int (149 * (1 + x916))), some (.int 0), none]) (rest := []) (rv := none) (h' := (HM P c919 T)) rfl (Em_copy_89 n (149 * (1 + x916)) 0 w _ hq P T) ?_
      show ai_ev D1 mm_from 43 [some (.ref 89), some (.int x916)] [] (HM P c919 T) 0 0 _
      refine ev_go 1 (pc' := 44) (L' := [some (.ref 89), some (.int x916)]) (st' := [.int 1]) (h' := (HM P c919 T)) (cs' := 0) (sl' := 0) rfl ?_
      obtain ⟨rfl, rfl⟩ := ai_smP h
      exact ev_end rfl
set_option maxHeartbeats 40000000 in
set_option maxRecDepth 100000 in
theorem Em_status_89 (x922 : Int32) (w : WM) (r : Int32) (w' : WM) (h : Fm_status_89 x922 w = some (r, w')) (P : Nat → ai_E) (T : ai_H) : ai_ev D1 mm_status 0 [some (.ref 89), some (.int x922)] [] (HM P w T) 0 0 (some (.int r), HM P w' T) := by
  unfold Fm_status_89 at h
  refine ev_go 4 (pc' := 6) (L' := [some (.ref 89), some (.int x922)]) (st' := [.long 2, .long 0, .long (x922).toInt64]) (h' := (HM P w T)) (cs' := 0) (sl' := 0) rfl ?_
  obtain ⟨c923, hq, h⟩ := ai_bdE h
  refine ev_call (M' := mm_in) (L' := [some (.long (x922).toInt64), none, some (.long 0), none, some (.long 2), none]) (rest := []) (rv := some (.int c923)) (h' := (HM P w T)) rfl (Em_in (x922).toInt64 0 2 _ hq (HM P w T)) ?_
  show ai_ev D1 mm_status 9 [some (.ref 89), some (.int x922)] [.int c923] (HM P w T) 0 0 _
  rcases ai_ifE h with ⟨hc, h⟩ | ⟨hc, h⟩
  · refine ev_if_eq (t := 21) rfl rfl (fun _ => ?_) (fun c9 => absurd hc c9)
    refine ev_go 2 (pc' := 23) (L' := [some (.ref 89), some (.int x922)]) (st' := [.int (-1), .ref 89]) (h' := (HM P w T)) (cs' := 0) (sl' := 0) rfl ?_
    obtain ⟨c924, hq, h⟩ := ai_bdE h
    refine ev_call (M' := mm_badAs) (L' := [some (.ref 89), some (.int (-1))]) (rest := []) (rv := some (.int c924.1)) (h' := (HM P c924.2 T)) rfl (Em_badAs_89 (-1) w _ _ hq P T) ?_
    show ai_ev D1 mm_status 26 [some (.ref 89), some (.int x922)] [.int c924.1] (HM P c924.2 T) 0 0 _
    obtain ⟨rfl, rfl⟩ := ai_smP h
    exact ev_end rfl
  · refine ev_if_eq (t := 21) rfl rfl (fun c9 => absurd c9 hc) (fun _ => ?_)
    refine ev_go 3 (pc' := 17) (L' := [some (.ref 89), some (.int x922)]) (st' := [.int x922, .ref 93]) (h' := (HM P w T)) (cs' := 0) (sl' := 0) rfl ?_
    obtain ⟨v925, hq, h⟩ := ai_bdE h
    refine ev_iald rfl rfl hq ?_
    refine ev_go 1 (pc' := 26) (L' := [some (.ref 89), some (.int x922)]) (st' := [.int v925]) (h' := (HM P w T)) (cs' := 0) (sl' := 0) rfl ?_
    obtain ⟨rfl, rfl⟩ := ai_smP h
    exact ev_end rfl
set_option maxHeartbeats 40000000 in
set_option maxRecDepth 100000 in
theorem Em_countOf_89 (x929 : Int32) (w : WM) (r : Int32) (w' : WM) (h : Fm_countOf_89 x929 w = some (r, w')) (P : Nat → ai_E) (T : ai_H) : ai_ev D1 mm_countOf 0 [some (.ref 89), some (.int x929)] [] (HM P w T) 0 0 (some (.int r), HM P w' T) := by
  unfold Fm_countOf_89 at h
  refine ev_go 1 (pc' := 1) (L' := [some (.ref 89), some (.int x929)]) (st' := [.int x929]) (h' := (HM P w T)) (cs' := 0) (sl' := 0) rfl ?_
  rcases ai_ifE h with ⟨hc, h⟩ | ⟨hs0, h⟩
  · refine ev_swi (k := 0) (t := 48) rfl hc (by decide) (by decide) rfl rfl ?_
    refine ev_go 3 (pc' := 53) (L' := [some (.ref 89), some (.int x929)]) (st' := [.int 0, .ref 90]) (h' := (HM P w T)) (cs' := 0) (sl' := 0) rfl ?_
    obtain ⟨v930, hq, h⟩ := ai_bdE h
    refine ev_iald rfl rfl hq ?_
    obtain ⟨rfl, rfl⟩ := ai_smP h
    exact ev_end rfl
  rcases ai_ifE h with ⟨hc, h⟩ | ⟨hs1, h⟩
  · refine ev_swi (k := 1) (t := 55) rfl hc (by decide) (by decide) rfl rfl ?_
    refine ev_go 3 (pc' := 60) (L' := [some (.ref 89), some (.int x929)]) (st' := [.int 1, .ref 90]) (h' := (HM P w T)) (cs' := 0) (sl' := 0) rfl ?_
    obtain ⟨v931, hq, h⟩ := ai_bdE h
    refine ev_iald rfl rfl hq ?_
    obtain ⟨rfl, rfl⟩ := ai_smP h
    exact ev_end rfl
  rcases ai_ifE h with ⟨hc, h⟩ | ⟨hs2, h⟩
  · refine ev_swi (k := 2) (t := 62) rfl hc (by decide) (by decide) rfl rfl ?_
    refine ev_go 3 (pc' := 67) (L' := [some (.ref 89), some (.int x929)]) (st' := [.int 2, .ref 90]) (h' := (HM P w T)) (cs' := 0) (sl' := 0) rfl ?_
    obtain ⟨v932, hq, h⟩ := ai_bdE h
    refine ev_iald rfl rfl hq ?_
    obtain ⟨rfl, rfl⟩ := ai_smP h
    exact ev_end rfl
  rcases ai_ifE h with ⟨hc, h⟩ | ⟨hs3, h⟩
  · refine ev_swi (k := 3) (t := 69) rfl hc (by decide) (by decide) rfl rfl ?_
    refine ev_go 3 (pc' := 74) (L' := [some (.ref 89), some (.int x929)]) (st' := [.int 3, .ref 90]) (h' := (HM P w T)) (cs' := 0) (sl' := 0) rfl ?_
    obtain ⟨v933, hq, h⟩ := ai_bdE h
    refine ev_iald rfl rfl hq ?_
    obtain ⟨rfl, rfl⟩ := ai_smP h
    exact ev_end rfl
  rcases ai_ifE h with ⟨hc, h⟩ | ⟨hs4, h⟩
  · refine ev_swi (k := 4) (t := 76) rfl hc (by decide) (by decide) rfl rfl ?_
    refine ev_go 3 (pc' := 81) (L' := [some (.ref 89), some (.int x929)]) (st' := [.int 4, .ref 90]) (h' := (HM P w T)) (cs' := 0) (sl' := 0) rfl ?_
    obtain ⟨v934, hq, h⟩ := ai_bdE h
    refine ev_iald rfl rfl hq ?_
    obtain ⟨rfl, rfl⟩ := ai_smP h
    exact ev_end rfl
  rcases ai_ifE h with ⟨hc, h⟩ | ⟨hs5, h⟩
  · refine ev_swi (k := 5) (t := 83) rfl hc (by decide) (by decide) rfl rfl ?_
    refine ev_go 3 (pc' := 88) (L' := [some (.ref 89), some (.int x929)]) (st' := [.int 5, .ref 90]) (h' := (HM P w T)) (cs' := 0) (sl' := 0) rfl ?_
    obtain ⟨v935, hq, h⟩ := ai_bdE h
    refine ev_iald rfl rfl hq ?_
    obtain ⟨rfl, rfl⟩ := ai_smP h
    exact ev_end rfl
  rcases ai_ifE h with ⟨hc, h⟩ | ⟨hs6, h⟩
  · refine ev_swi (k := 6) (t := 90) rfl hc (by decide) (by decide) rfl rfl ?_
    refine ev_go 3 (pc' := 96) (L' := [some (.ref 89), some (.int x929)]) (st' := [.int 6, .ref 90]) (h' := (HM P w T)) (cs' := 0) (sl' := 0) rfl ?_
    obtain ⟨v936, hq, h⟩ := ai_bdE h
    refine ev_iald rfl rfl hq ?_
    obtain ⟨rfl, rfl⟩ := ai_smP h
    exact ev_end rfl
  rcases ai_ifE h with ⟨hc, h⟩ | ⟨hs7, h⟩
  · refine ev_swi (k := 7) (t := 98) rfl hc (by decide) (by decide) rfl rfl ?_
    refine ev_go 3 (pc' := 104) (L' := [some (.ref 89), some (.int x929)]) (st' := [.int 7, .ref 90]) (h' := (HM P w T)) (cs' := 0) (sl' := 0) rfl ?_
    obtain ⟨v937, hq, h⟩ := ai_bdE h
    refine ev_iald rfl rfl hq ?_
    obtain ⟨rfl, rfl⟩ := ai_smP h
    exact ev_end rfl
  refine ev_swo (t := 106) (lo := 0) (n := 8) rfl (sw_out 0 8 (fun k hk => by match k, hk with | 0, _ => exact hs0 | 1, _ => exact hs1 | 2, _ => exact hs2 | 3, _ => exact hs3 | 4, _ => exact hs4 | 5, _ => exact hs5 | 6, _ => exact hs6 | 7, _ => exact hs7 | k + 8, hk => exact absurd hk (by omega))) ⟨rfl, by decide⟩ rfl ?_
  refine ev_go 2 (pc' := 110) (L' := [some (.ref 89), some (.int x929)]) (st' := [.int (a_m_texted w)]) (h' := (HM P w T)) (cs' := 0) (sl' := 0) rfl ?_
  obtain ⟨rfl, rfl⟩ := ai_smP h
  exact ev_end rfl
set_option maxHeartbeats 40000000 in
set_option maxRecDepth 100000 in
theorem Em_count_89 (x926 : Int32) (w : WM) (r : Int32) (w' : WM) (h : Fm_count_89 x926 w = some (r, w')) (P : Nat → ai_E) (T : ai_H) : ai_ev D1 mm_count 0 [some (.ref 89), some (.int x926)] [] (HM P w T) 0 0 (some (.int r), HM P w' T) := by
  unfold Fm_count_89 at h
  refine ev_go 4 (pc' := 6) (L' := [some (.ref 89), some (.int x926)]) (st' := [.long 8, .long 0, .long (x926).toInt64]) (h' := (HM P w T)) (cs' := 0) (sl' := 0) rfl ?_
  obtain ⟨c927, hq, h⟩ := ai_bdE h
  refine ev_call (M' := mm_in) (L' := [some (.long (x926).toInt64), none, some (.long 0), none, some (.long 8), none]) (rest := []) (rv := some (.int c927)) (h' := (HM P w T)) rfl (Em_in (x926).toInt64 0 8 _ hq (HM P w T)) ?_
  show ai_ev D1 mm_count 9 [some (.ref 89), some (.int x926)] [.int c927] (HM P w T) 0 0 _
  rcases ai_ifE h with ⟨hc, h⟩ | ⟨hc, h⟩
  · refine ev_if_eq (t := 20) rfl rfl (fun _ => ?_) (fun c9 => absurd hc c9)
    refine ev_go 1 (pc' := 21) (L' := [some (.ref 89), some (.int x926)]) (st' := [.ref 89]) (h' := (HM P w T)) (cs' := 0) (sl' := 0) rfl ?_
    obtain ⟨c928, hq, h⟩ := ai_bdE h
    refine ev_call (M' := mm_bad) (L' := [some (.ref 89)]) (rest := []) (rv := some (.int c928.1)) (h' := (HM P c928.2 T)) rfl (Em_bad_89 w _ _ hq P T) ?_
    show ai_ev D1 mm_count 24 [some (.ref 89), some (.int x926)] [.int c928.1] (HM P c928.2 T) 0 0 _
    obtain ⟨rfl, rfl⟩ := ai_smP h
    exact ev_end rfl
  · refine ev_if_eq (t := 20) rfl rfl (fun c9 => absurd c9 hc) (fun _ => ?_)
    refine ev_go 2 (pc' := 14) (L' := [some (.ref 89), some (.int x926)]) (st' := [.int x926, .ref 89]) (h' := (HM P w T)) (cs' := 0) (sl' := 0) rfl ?_
    obtain ⟨c938, hq, h⟩ := ai_bdE h
    refine ev_call (M' := mm_countOf) (L' := [some (.ref 89), some (.int x926)]) (rest := []) (rv := some (.int c938.1)) (h' := (HM P c938.2 T)) rfl (Em_countOf_89 x926 w _ _ hq P T) ?_
    show ai_ev D1 mm_count 17 [some (.ref 89), some (.int x926)] [.int c938.1] (HM P c938.2 T) 0 0 _
    refine ev_go 1 (pc' := 24) (L' := [some (.ref 89), some (.int x926)]) (st' := [.int c938.1]) (h' := (HM P c938.2 T)) (cs' := 0) (sl' := 0) rfl ?_
    obtain ⟨rfl, rfl⟩ := ai_smP h
    exact ev_end rfl
set_option maxHeartbeats 40000000 in
set_option maxRecDepth 100000 in
theorem Em_mix_89 (x942 : Int64) (w : WM) (w' : WM) (h : Fm_mix_89 x942 w = some w') (P : Nat → ai_E) (T : ai_H) : ai_ev D1 mm_mix 0 [some (.ref 89), some (.long x942), none] [] (HM P w T) 0 0 (none, HM P w' T) := by
  unfold Fm_mix_89 at h
  refine ev_go 7 (pc' := 11) (L' := [some (.ref 89), some (.long x942), none]) (st' := [.long ((31 * (a_m_h w)) + x942), .ref 89]) (h' := (HM P w T)) (cs' := 0) (sl' := 0) rfl ?_
  refine ev_step rfl rfl rfl (PFM_8_298_89 rfl) ?_
  obtain rfl := Option.some.inj h
  exact ev_end rfl
set_option maxHeartbeats 40000000 in
set_option maxRecDepth 100000 in
theorem EGm_mixSea_89 : ∀ n : Nat, (∀ (y940 : Int32) (w : WM) (w' : WM), Gm_mixSea_89 n 0 y940 0 w = some w' → ∀ (P : Nat → ai_E) (T : ai_H) (o2 : Option Value), ai_ev D1 mm_mixSea 2 [some (.ref 89), some (.int y940), o2] [] (HM P w T) 0 0 (none, HM P w' T)) ∧ (∀ (y949 : Int32) (y950 : Int32) (w : WM) (w' : WM), Gm_mixSea_89 n 1 y949 y950 w = some w' → ∀ (P : Nat → ai_E) (T : ai_H), ai_ev D1 mm_mixSea 37 [some (.ref 89), some (.int y949), some (.int y950)] [] (HM P w T) 0 0 (none, HM P w' T)) ∧ (∀ (y955 : Int32) (y956 : Int32) (w : WM) (w' : WM), Gm_mixSea_89 n 2 y955 y956 w = some w' → ∀ (P : Nat → ai_E) (T : ai_H), ai_ev D1 mm_mixSea 70 [some (.ref 89), some (.int y955), some (.int y956)] [] (HM P w T) 0 0 (none, HM P w' T)) ∧ (∀ (y946 : Int32) (w : WM) (w' : WM), Gm_mixSea_89 n 3 y946 0 w = some w' → ∀ (P : Nat → ai_E) (T : ai_H) (o2 : Option Value), ai_ev D1 mm_mixSea 113 [some (.ref 89), some (.int y946), o2] [] (HM P w T) 0 0 (none, HM P w' T)) ∧ (∀ (y953 : Int32) (w : WM) (w' : WM), Gm_mixSea_89 n 4 y953 0 w = some w' → ∀ (P : Nat → ai_E) (T : ai_H) (o2 : Option Value), ai_ev D1 mm_mixSea 140 [some (.ref 89), some (.int y953), o2] [] (HM P w T) 0 0 (none, HM P w' T)) ∧ (∀ (y960 : Int32) (y961 : Int32) (w : WM) (w' : WM), Gm_mixSea_89 n 5 y960 y961 w = some w' → ∀ (P : Nat → ai_E) (T : ai_H), ai_ev D1 mm_mixSea 152 [some (.ref 89), some (.int y960), some (.int y961)] [] (HM P w T) 0 0 (none, HM P w' T)) := by
  intro n
  induction n with
  | zero =>
    exact ⟨(fun _ _ _ h => by cases h), (fun _ _ _ _ h => by cases h), (fun _ _ _ _ h => by cases h), (fun _ _ _ h => by cases h), (fun _ _ _ h => by cases h), (fun _ _ _ _ h => by cases h)⟩
  | succ n ih =>
    obtain ⟨ih0, ih1, ih2, ih3, ih4, ih5⟩ := ih
    refine ⟨?_, ?_, ?_, ?_, ?_, ?_⟩
    · intro y940 w w' h P T o2
      simp only [Gm_mixSea_89] at h
      refine ev_go 2 (pc' := 4) (L' := [some (.ref 89), some (.int y940), o2]) (st' := [.int 4, .int y940]) (h' := (HM P w T)) (cs' := 0) (sl' := 0) rfl ?_
      rcases ai_ifE h with ⟨hc, h⟩ | ⟨hc, h⟩
      · refine ev_ic_ge (t := 111) rfl rfl (fun _ => ?_) (fun c9 => absurd hc c9)
        refine ev_go 2 (pc' := 113) (L' := [some (.ref 89), some (.int 0), o2]) (st' := []) (h' := (HM P w T)) (cs' := 0) (sl' := 0) rfl ?_
        exact ih3 _ _ _ h P T _
      · refine ev_ic_ge (t := 111) rfl rfl (fun c9 => absurd c9 hc) (fun _ => ?_)
        refine ev_go 6 (pc' := 16) (L' := [some (.ref 89), some (.int y940), o2]) (st' := [.int (8 + y940), .ref 90, .ref 89]) (h' := (HM P w T)) (cs' := 0) (sl' := 0) rfl ?_
        obtain ⟨v941, hq, h⟩ := ai_bdE h
        refine ev_iald rfl rfl hq ?_
        refine ev_go 1 (pc' := 18) (L' := [some (.ref 89), some (.int y940), o2]) (st' := [.long (v941).toInt64, .ref 89]) (h' := (HM P w T)) (cs' := 0) (sl' := 0) rfl ?_
        obtain ⟨c943, hq, h⟩ := ai_bdE h
        refine ev_call (M' := mm_mix) (L' := [some (.ref 89), some (.long (v941).toInt64), none]) (rest := []) (rv := none) (h' := (HM P c943 T)) rfl (Em_mix_89 (v941).toInt64 w _ hq P T) ?_
        show ai_ev D1 mm_mixSea 21 [some (.ref 89), some (.int y940), o2] [] (HM P c943 T) 0 0 _
        refine ev_go 6 (pc' := 30) (L' := [some (.ref 89), some (.int y940), o2]) (st' := [.int (12 + y940), .ref 90, .ref 89]) (h' := (HM P c943 T)) (cs' := 0) (sl' := 0) rfl ?_
        obtain ⟨v944, hq, h⟩ := ai_bdE h
        refine ev_iald rfl rfl hq ?_
        refine ev_go 1 (pc' := 32) (L' := [some (.ref 89), some (.int y940), o2]) (st' := [.long (v944).toInt64, .ref 89]) (h' := (HM P c943 T)) (cs' := 0) (sl' := 0) rfl ?_
        obtain ⟨c945, hq, h⟩ := ai_bdE h
        refine ev_call (M' := mm_mix) (L' := [some (.ref 89), some (.long (v944).toInt64), none]) (rest := []) (rv := none) (h' := (HM P c945 T)) rfl (Em_mix_89 (v944).toInt64 c943 _ hq P T) ?_
        show ai_ev D1 mm_mixSea 35 [some (.ref 89), some (.int y940), o2] [] (HM P c945 T) 0 0 _
        refine ev_go 2 (pc' := 37) (L' := [some (.ref 89), some (.int y940), some (.int 0)]) (st' := []) (h' := (HM P c945 T)) (cs' := 0) (sl' := 0) rfl ?_
        exact ih1 _ _ _ _ h P T
    · intro y949 y950 w w' h P T
      simp only [Gm_mixSea_89] at h
      refine ev_go 2 (pc' := 40) (L' := [some (.ref 89), some (.int y949), some (.int y950)]) (st' := [.int 6, .int y950]) (h' := (HM P w T)) (cs' := 0) (sl' := 0) rfl ?_
      rcases ai_ifE h with ⟨hc, h⟩ | ⟨hc, h⟩
      · refine ev_ic_ge (t := 68) rfl rfl (fun _ => ?_) (fun c9 => absurd hc c9)
        refine ev_go 2 (pc' := 70) (L' := [some (.ref 89), some (.int y949), some (.int 0)]) (st' := []) (h' := (HM P w T)) (cs' := 0) (sl' := 0) rfl ?_
        exact ih2 _ _ _ _ h P T
      · refine ev_ic_ge (t := 68) rfl rfl (fun c9 => absurd c9 hc) (fun _ => ?_)
        refine ev_go 10 (pc' := 57) (L' := [some (.ref 89), some (.int y949), some (.int y950)]) (st' := [.int ((16 + (6 * y949)) + y950), .ref 90, .ref 89]) (h' := (HM P w T)) (cs' := 0) (sl' := 0) rfl ?_
        obtain ⟨v951, hq, h⟩ := ai_bdE h
        refine ev_iald rfl rfl hq ?_
        refine ev_go 1 (pc' := 59) (L' := [some (.ref 89), some (.int y949), some (.int y950)]) (st' := [.long (v951).toInt64, .ref 89]) (h' := (HM P w T)) (cs' := 0) (sl' := 0) rfl ?_
        obtain ⟨c952, hq, h⟩ := ai_bdE h
        refine ev_call (M' := mm_mix) (L' := [some (.ref 89), some (.long (v951).toInt64), none]) (rest := []) (rv := none) (h' := (HM P c952 T)) rfl (Em_mix_89 (v951).toInt64 w _ hq P T) ?_
        show ai_ev D1 mm_mixSea 62 [some (.ref 89), some (.int y949), some (.int y950)] [] (HM P c952 T) 0 0 _
        refine ev_go 2 (pc' := 37) (L' := [some (.ref 89), some (.int y949), some (.int (y950 + 1))]) (st' := []) (h' := (HM P c952 T)) (cs' := 0) (sl' := 0) rfl ?_
        exact ih1 _ _ _ _ h P T
    · intro y955 y956 w w' h P T
      simp only [Gm_mixSea_89] at h
      refine ev_go 4 (pc' := 76) (L' := [some (.ref 89), some (.int y955), some (.int y956)]) (st' := [.int 0, .ref 90, .int y956]) (h' := (HM P w T)) (cs' := 0) (sl' := 0) rfl ?_
      obtain ⟨v957, hq, h⟩ := ai_bdE h
      refine ev_iald rfl rfl hq ?_
      rcases ai_ifE h with ⟨hc, h⟩ | ⟨hc, h⟩
      · refine ev_ic_ge (t := 105) rfl rfl (fun _ => ?_) (fun c9 => absurd hc c9)
        refine ev_go 2 (pc' := 2) (L' := [some (.ref 89), some (.int (y955 + 1)), some (.int y956)]) (st' := []) (h' := (HM P w T)) (cs' := 0) (sl' := 0) rfl ?_
        exact ih0 _ _ _ h P T _
      · refine ev_ic_ge (t := 105) rfl rfl (fun c9 => absurd c9 hc) (fun _ => ?_)
        refine ev_go 10 (pc' := 94) (L' := [some (.ref 89), some (.int y955), some (.int y956)]) (st' := [.int ((40 + (6 * y955)) + y956), .ref 90, .ref 89]) (h' := (HM P w T)) (cs' := 0) (sl' := 0) rfl ?_
        obtain ⟨v958, hq, h⟩ := ai_bdE h
        refine ev_iald rfl rfl hq ?_
        refine ev_go 1 (pc' := 96) (L' := [some (.ref 89), some (.int y955), some (.int y956)]) (st' := [.long (v958).toInt64, .ref 89]) (h' := (HM P w T)) (cs' := 0) (sl' := 0) rfl ?_
        obtain ⟨c959, hq, h⟩ := ai_bdE h
        refine ev_call (M' := mm_mix) (L' := [some (.ref 89), some (.long (v958).toInt64), none]) (rest := []) (rv := none) (h' := (HM P c959 T)) rfl (Em_mix_89 (v958).toInt64 w _ hq P T) ?_
        show ai_ev D1 mm_mixSea 99 [some (.ref 89), some (.int y955), some (.int y956)] [] (HM P c959 T) 0 0 _
        refine ev_go 2 (pc' := 70) (L' := [some (.ref 89), some (.int y955), some (.int (y956 + 1))]) (st' := []) (h' := (HM P c959 T)) (cs' := 0) (sl' := 0) rfl ?_
        exact ih2 _ _ _ _ h P T
    · intro y946 w w' h P T o2
      simp only [Gm_mixSea_89] at h
      refine ev_go 2 (pc' := 115) (L' := [some (.ref 89), some (.int y946), o2]) (st' := [.int 3, .int y946]) (h' := (HM P w T)) (cs' := 0) (sl' := 0) rfl ?_
      rcases ai_ifE h with ⟨hc, h⟩ | ⟨hc, h⟩
      · refine ev_ic_ge (t := 138) rfl rfl (fun _ => ?_) (fun c9 => absurd hc c9)
        refine ev_go 2 (pc' := 140) (L' := [some (.ref 89), some (.int 0), o2]) (st' := []) (h' := (HM P w T)) (cs' := 0) (sl' := 0) rfl ?_
        exact ih4 _ _ _ h P T _
      · refine ev_ic_ge (t := 138) rfl rfl (fun c9 => absurd c9 hc) (fun _ => ?_)
        refine ev_go 6 (pc' := 127) (L' := [some (.ref 89), some (.int y946), o2]) (st' := [.int (64 + y946), .ref 90, .ref 89]) (h' := (HM P w T)) (cs' := 0) (sl' := 0) rfl ?_
        obtain ⟨v947, hq, h⟩ := ai_bdE h
        refine ev_iald rfl rfl hq ?_
        refine ev_go 1 (pc' := 129) (L' := [some (.ref 89), some (.int y946), o2]) (st' := [.long (v947).toInt64, .ref 89]) (h' := (HM P w T)) (cs' := 0) (sl' := 0) rfl ?_
        obtain ⟨c948, hq, h⟩ := ai_bdE h
        refine ev_call (M' := mm_mix) (L' := [some (.ref 89), some (.long (v947).toInt64), none]) (rest := []) (rv := none) (h' := (HM P c948 T)) rfl (Em_mix_89 (v947).toInt64 w _ hq P T) ?_
        show ai_ev D1 mm_mixSea 132 [some (.ref 89), some (.int y946), o2] [] (HM P c948 T) 0 0 _
        refine ev_go 2 (pc' := 113) (L' := [some (.ref 89), some (.int (y946 + 1)), o2]) (st' := []) (h' := (HM P c948 T)) (cs' := 0) (sl' := 0) rfl ?_
        exact ih3 _ _ _ h P T _
    · intro y953 w w' h P T o2
      simp only [Gm_mixSea_89] at h
      refine ev_go 4 (pc' := 146) (L' := [some (.ref 89), some (.int y953), o2]) (st' := [.int 2, .ref 90, .int y953]) (h' := (HM P w T)) (cs' := 0) (sl' := 0) rfl ?_
      obtain ⟨v954, hq, h⟩ := ai_bdE h
      refine ev_iald rfl rfl hq ?_
      rcases ai_ifE h with ⟨hc, h⟩ | ⟨hc, h⟩
      · refine ev_ic_ge (t := 188) rfl rfl (fun _ => ?_) (fun c9 => absurd hc c9)
        obtain rfl := Option.some.inj h
        exact ev_end rfl
      · refine ev_ic_ge (t := 188) rfl rfl (fun c9 => absurd c9 hc) (fun _ => ?_)
        refine ev_go 2 (pc' := 152) (L' := [some (.ref 89), some (.int y953), some (.int 0)]) (st' := []) (h' := (HM P w T)) (cs' := 0) (sl' := 0) rfl ?_
        exact ih5 _ _ _ _ h P T
    · intro y960 y961 w w' h P T
      simp only [Gm_mixSea_89] at h
      refine ev_go 2 (pc' := 154) (L' := [some (.ref 89), some (.int y960), some (.int y961)]) (st' := [.int 4, .int y961]) (h' := (HM P w T)) (cs' := 0) (sl' := 0) rfl ?_
      rcases ai_ifE h with ⟨hc, h⟩ | ⟨hc, h⟩
      · refine ev_ic_ge (t := 182) rfl rfl (fun _ => ?_) (fun c9 => absurd hc c9)
        refine ev_go 2 (pc' := 140) (L' := [some (.ref 89), some (.int (y960 + 1)), some (.int y961)]) (st' := []) (h' := (HM P w T)) (cs' := 0) (sl' := 0) rfl ?_
        exact ih4 _ _ _ h P T _
      · refine ev_ic_ge (t := 182) rfl rfl (fun c9 => absurd c9 hc) (fun _ => ?_)
        refine ev_go 10 (pc' := 171) (L' := [some (.ref 89), some (.int y960), some (.int y961)]) (st' := [.int ((67 + (6 * y961)) + y960), .ref 90, .ref 89]) (h' := (HM P w T)) (cs' := 0) (sl' := 0) rfl ?_
        obtain ⟨v962, hq, h⟩ := ai_bdE h
        refine ev_iald rfl rfl hq ?_
        refine ev_go 1 (pc' := 173) (L' := [some (.ref 89), some (.int y960), some (.int y961)]) (st' := [.long (v962).toInt64, .ref 89]) (h' := (HM P w T)) (cs' := 0) (sl' := 0) rfl ?_
        obtain ⟨c963, hq, h⟩ := ai_bdE h
        refine ev_call (M' := mm_mix) (L' := [some (.ref 89), some (.long (v962).toInt64), none]) (rest := []) (rv := none) (h' := (HM P c963 T)) rfl (Em_mix_89 (v962).toInt64 w _ hq P T) ?_
        show ai_ev D1 mm_mixSea 176 [some (.ref 89), some (.int y960), some (.int y961)] [] (HM P c963 T) 0 0 _
        refine ev_go 2 (pc' := 152) (L' := [some (.ref 89), some (.int y960), some (.int (y961 + 1))]) (st' := []) (h' := (HM P c963 T)) (cs' := 0) (sl' := 0) rfl ?_
        exact ih5 _ _ _ _ h P T
set_option maxHeartbeats 40000000 in
set_option maxRecDepth 100000 in
theorem Em_mixSea_89 (n : Nat) (w : WM) (w' : WM) (h : Fm_mixSea_89 n w = some w') (P : Nat → ai_E) (T : ai_H) : ai_ev D1 mm_mixSea 0 [some (.ref 89), none, none] [] (HM P w T) 0 0 (none, HM P w' T) := by
  unfold Fm_mixSea_89 at h
  obtain ⟨ih0, ih1, ih2, ih3, ih4, ih5⟩ := EGm_mixSea_89 n
  refine ev_go 2 (pc' := 2) (L' := [some (.ref 89), some (.int 0), none]) (st' := []) (h' := (HM P w T)) (cs' := 0) (sl' := 0) rfl ?_
  exact ih0 _ _ _ h P T _
set_option maxHeartbeats 40000000 in
set_option maxRecDepth 100000 in
theorem EGm_digest_89 : ∀ n : Nat, (∀ (y939 : Int32) (w : WM) (r : Int64) (w' : WM), Gm_digest_89 n 0 y939 w = some (r, w') → ∀ (P : Nat → ai_E) (T : ai_H), ai_ev D1 mm_digest 9 [some (.ref 89), some (.int y939)] [] (HM P w T) 0 0 (some (.long r), HM P w' T)) ∧ (∀ (y967 : Int32) (w : WM) (r : Int64) (w' : WM), Gm_digest_89 n 1 y967 w = some (r, w') → ∀ (P : Nat → ai_E) (T : ai_H), ai_ev D1 mm_digest 37 [some (.ref 89), some (.int y967)] [] (HM P w T) 0 0 (some (.long r), HM P w' T)) ∧ (∀ (y975 : Int32) (w : WM) (r : Int64) (w' : WM), Gm_digest_89 n 2 y975 w = some (r, w') → ∀ (P : Nat → ai_E) (T : ai_H), ai_ev D1 mm_digest 97 [some (.ref 89), some (.int y975)] [] (HM P w T) 0 0 (some (.long r), HM P w' T)) ∧ (∀ (y979 : Int32) (w : WM) (r : Int64) (w' : WM), Gm_digest_89 n 3 y979 w = some (r, w') → ∀ (P : Nat → ai_E) (T : ai_H), ai_ev D1 mm_digest 129 [some (.ref 89), some (.int y979)] [] (HM P w T) 0 0 (some (.long r), HM P w' T)) := by
  intro n
  induction n with
  | zero =>
    exact ⟨(fun _ _ _ _ h => by cases h), (fun _ _ _ _ h => by cases h), (fun _ _ _ _ h => by cases h), (fun _ _ _ _ h => by cases h)⟩
  | succ n ih =>
    obtain ⟨ih0, ih1, ih2, ih3⟩ := ih
    refine ⟨?_, ?_, ?_, ?_⟩
    · intro y939 w r w' h P T
      simp only [Gm_digest_89] at h
      refine ev_go 2 (pc' := 12) (L' := [some (.ref 89), some (.int y939)]) (st' := [.int 9, .int y939]) (h' := (HM P w T)) (cs' := 0) (sl' := 0) rfl ?_
      rcases ai_ifE h with ⟨hc, h⟩ | ⟨hc, h⟩
      · refine ev_ic_ge (t := 31) rfl rfl (fun _ => ?_) (fun c9 => absurd hc c9)
        refine ev_go 1 (pc' := 32) (L' := [some (.ref 89), some (.int y939)]) (st' := [.ref 89]) (h' := (HM P w T)) (cs' := 0) (sl' := 0) rfl ?_
        obtain ⟨c964, hq, h⟩ := ai_bdE h
        refine ev_call (M' := mm_mixSea) (L' := [some (.ref 89), none, none]) (rest := []) (rv := none) (h' := (HM P c964 T)) rfl (Em_mixSea_89 n w _ hq P T) ?_
        show ai_ev D1 mm_digest 35 [some (.ref 89), some (.int y939)] [] (HM P c964 T) 0 0 _
        refine ev_go 2 (pc' := 37) (L' := [some (.ref 89), some (.int 0)]) (st' := []) (h' := (HM P c964 T)) (cs' := 0) (sl' := 0) rfl ?_
        exact ih1 _ _ _ _ h P T
      · refine ev_ic_ge (t := 31) rfl rfl (fun c9 => absurd c9 hc) (fun _ => ?_)
        refine ev_go 3 (pc' := 18) (L' := [some (.ref 89), some (.int y939)]) (st' := [.int y939, .ref 89, .ref 89]) (h' := (HM P w T)) (cs' := 0) (sl' := 0) rfl ?_
        obtain ⟨c965, hq, h⟩ := ai_bdE h
        refine ev_call (M' := mm_countOf) (L' := [some (.ref 89), some (.int y939)]) (rest := [.ref 89]) (rv := some (.int c965.1)) (h' := (HM P c965.2 T)) rfl (Em_countOf_89 y939 w _ _ hq P T) ?_
        show ai_ev D1 mm_digest 21 [some (.ref 89), some (.int y939)] [.int c965.1, .ref 89] (HM P c965.2 T) 0 0 _
        refine ev_go 1 (pc' := 22) (L' := [some (.ref 89), some (.int y939)]) (st' := [.long (c965.1).toInt64, .ref 89]) (h' := (HM P c965.2 T)) (cs' := 0) (sl' := 0) rfl ?_
        obtain ⟨c966, hq, h⟩ := ai_bdE h
        refine ev_call (M' := mm_mix) (L' := [some (.ref 89), some (.long (c965.1).toInt64), none]) (rest := []) (rv := none) (h' := (HM P c966 T)) rfl (Em_mix_89 (c965.1).toInt64 c965.2 _ hq P T) ?_
        show ai_ev D1 mm_digest 25 [some (.ref 89), some (.int y939)] [] (HM P c966 T) 0 0 _
        refine ev_go 2 (pc' := 9) (L' := [some (.ref 89), some (.int (y939 + 1))]) (st' := []) (h' := (HM P c966 T)) (cs' := 0) (sl' := 0) rfl ?_
        exact ih0 _ _ _ _ h P T
    · intro y967 w r w' h P T
      simp only [Gm_digest_89] at h
      refine ev_go 4 (pc' := 43) (L' := [some (.ref 89), some (.int y967)]) (st' := [.int 3, .ref 90, .int y967]) (h' := (HM P w T)) (cs' := 0) (sl' := 0) rfl ?_
      obtain ⟨v968, hq, h⟩ := ai_bdE h
      refine ev_iald rfl rfl hq ?_
      rcases ai_ifE h with ⟨hc, h⟩ | ⟨hc, h⟩
      · refine ev_ic_ge (t := 95) rfl rfl (fun _ => ?_) (fun c9 => absurd hc c9)
        refine ev_go 2 (pc' := 97) (L' := [some (.ref 89), some (.int 0)]) (st' := []) (h' := (HM P w T)) (cs' := 0) (sl' := 0) rfl ?_
        exact ih2 _ _ _ _ h P T
      · refine ev_ic_ge (t := 95) rfl rfl (fun c9 => absurd c9 hc) (fun _ => ?_)
        refine ev_go 6 (pc' := 56) (L' := [some (.ref 89), some (.int y967)]) (st' := [.int (91 + y967), .ref 90, .ref 89]) (h' := (HM P w T)) (cs' := 0) (sl' := 0) rfl ?_
        obtain ⟨v969, hq, h⟩ := ai_bdE h
        refine ev_iald rfl rfl hq ?_
        refine ev_go 1 (pc' := 58) (L' := [some (.ref 89), some (.int y967)]) (st' := [.long (v969).toInt64, .ref 89]) (h' := (HM P w T)) (cs' := 0) (sl' := 0) rfl ?_
        obtain ⟨c970, hq, h⟩ := ai_bdE h
        refine ev_call (M' := mm_mix) (L' := [some (.ref 89), some (.long (v969).toInt64), none]) (rest := []) (rv := none) (h' := (HM P c970 T)) rfl (Em_mix_89 (v969).toInt64 w _ hq P T) ?_
        show ai_ev D1 mm_digest 61 [some (.ref 89), some (.int y967)] [] (HM P c970 T) 0 0 _
        refine ev_go 6 (pc' := 70) (L' := [some (.ref 89), some (.int y967)]) (st' := [.int (101 + y967), .ref 90, .ref 89]) (h' := (HM P c970 T)) (cs' := 0) (sl' := 0) rfl ?_
        obtain ⟨v971, hq, h⟩ := ai_bdE h
        refine ev_iald rfl rfl hq ?_
        refine ev_go 1 (pc' := 72) (L' := [some (.ref 89), some (.int y967)]) (st' := [.long (v971).toInt64, .ref 89]) (h' := (HM P c970 T)) (cs' := 0) (sl' := 0) rfl ?_
        obtain ⟨c972, hq, h⟩ := ai_bdE h
        refine ev_call (M' := mm_mix) (L' := [some (.ref 89), some (.long (v971).toInt64), none]) (rest := []) (rv := none) (h' := (HM P c972 T)) rfl (Em_mix_89 (v971).toInt64 c970 _ hq P T) ?_
        show ai_ev D1 mm_digest 75 [some (.ref 89), some (.int y967)] [] (HM P c972 T) 0 0 _
        refine ev_go 6 (pc' := 84) (L' := [some (.ref 89), some (.int y967)]) (st' := [.int (111 + y967), .ref 90, .ref 89]) (h' := (HM P c972 T)) (cs' := 0) (sl' := 0) rfl ?_
        obtain ⟨v973, hq, h⟩ := ai_bdE h
        refine ev_iald rfl rfl hq ?_
        refine ev_go 1 (pc' := 86) (L' := [some (.ref 89), some (.int y967)]) (st' := [.long (v973).toInt64, .ref 89]) (h' := (HM P c972 T)) (cs' := 0) (sl' := 0) rfl ?_
        obtain ⟨c974, hq, h⟩ := ai_bdE h
        refine ev_call (M' := mm_mix) (L' := [some (.ref 89), some (.long (v973).toInt64), none]) (rest := []) (rv := none) (h' := (HM P c974 T)) rfl (Em_mix_89 (v973).toInt64 c972 _ hq P T) ?_
        show ai_ev D1 mm_digest 89 [some (.ref 89), some (.int y967)] [] (HM P c974 T) 0 0 _
        refine ev_go 2 (pc' := 37) (L' := [some (.ref 89), some (.int (y967 + 1))]) (st' := []) (h' := (HM P c974 T)) (cs' := 0) (sl' := 0) rfl ?_
        exact ih1 _ _ _ _ h P T
    · intro y975 w r w' h P T
      simp only [Gm_digest_89] at h
      refine ev_go 4 (pc' := 103) (L' := [some (.ref 89), some (.int y975)]) (st' := [.int 4, .ref 90, .int y975]) (h' := (HM P w T)) (cs' := 0) (sl' := 0) rfl ?_
      obtain ⟨v976, hq, h⟩ := ai_bdE h
      refine ev_iald rfl rfl hq ?_
      rcases ai_ifE h with ⟨hc, h⟩ | ⟨hc, h⟩
      · refine ev_ic_ge (t := 127) rfl rfl (fun _ => ?_) (fun c9 => absurd hc c9)
        refine ev_go 2 (pc' := 129) (L' := [some (.ref 89), some (.int 0)]) (st' := []) (h' := (HM P w T)) (cs' := 0) (sl' := 0) rfl ?_
        exact ih3 _ _ _ _ h P T
      · refine ev_ic_ge (t := 127) rfl rfl (fun c9 => absurd c9 hc) (fun _ => ?_)
        refine ev_go 6 (pc' := 116) (L' := [some (.ref 89), some (.int y975)]) (st' := [.int (121 + y975), .ref 90, .ref 89]) (h' := (HM P w T)) (cs' := 0) (sl' := 0) rfl ?_
        obtain ⟨v977, hq, h⟩ := ai_bdE h
        refine ev_iald rfl rfl hq ?_
        refine ev_go 1 (pc' := 118) (L' := [some (.ref 89), some (.int y975)]) (st' := [.long (v977).toInt64, .ref 89]) (h' := (HM P w T)) (cs' := 0) (sl' := 0) rfl ?_
        obtain ⟨c978, hq, h⟩ := ai_bdE h
        refine ev_call (M' := mm_mix) (L' := [some (.ref 89), some (.long (v977).toInt64), none]) (rest := []) (rv := none) (h' := (HM P c978 T)) rfl (Em_mix_89 (v977).toInt64 w _ hq P T) ?_
        show ai_ev D1 mm_digest 121 [some (.ref 89), some (.int y975)] [] (HM P c978 T) 0 0 _
        refine ev_go 2 (pc' := 97) (L' := [some (.ref 89), some (.int (y975 + 1))]) (st' := []) (h' := (HM P c978 T)) (cs' := 0) (sl' := 0) rfl ?_
        exact ih2 _ _ _ _ h P T
    · intro y979 w r w' h P T
      simp only [Gm_digest_89] at h
      refine ev_go 4 (pc' := 136) (L' := [some (.ref 89), some (.int y979)]) (st' := [.int 6, .ref 90, .int y979]) (h' := (HM P w T)) (cs' := 0) (sl' := 0) rfl ?_
      obtain ⟨v980, hq, h⟩ := ai_bdE h
      refine ev_iald rfl rfl hq ?_
      rcases ai_ifE h with ⟨hc, h⟩ | ⟨hc, h⟩
      · refine ev_ic_ge (t := 175) rfl rfl (fun _ => ?_) (fun c9 => absurd hc c9)
        refine ev_go 3 (pc' := 180) (L' := [some (.ref 89), some (.int y979)]) (st' := [.long (a_m_above w), .ref 89]) (h' := (HM P w T)) (cs' := 0) (sl' := 0) rfl ?_
        obtain ⟨c981, hq, h⟩ := ai_bdE h
        refine ev_call (M' := mm_mix) (L' := [some (.ref 89), some (.long (a_m_above w)), none]) (rest := []) (rv := none) (h' := (HM P c981 T)) rfl (Em_mix_89 (a_m_above w) w _ hq P T) ?_
        show ai_ev D1 mm_digest 183 [some (.ref 89), some (.int y979)] [] (HM P c981 T) 0 0 _
        refine ev_go 3 (pc' := 188) (L' := [some (.ref 89), some (.int y979)]) (st' := [.long (a_m_below c981), .ref 89]) (h' := (HM P c981 T)) (cs' := 0) (sl' := 0) rfl ?_
        obtain ⟨c982, hq, h⟩ := ai_bdE h
        refine ev_call (M' := mm_mix) (L' := [some (.ref 89), some (.long (a_m_below c981)), none]) (rest := []) (rv := none) (h' := (HM P c982 T)) rfl (Em_mix_89 (a_m_below c981) c981 _ hq P T) ?_
        show ai_ev D1 mm_digest 191 [some (.ref 89), some (.int y979)] [] (HM P c982 T) 0 0 _
        refine ev_go 2 (pc' := 195) (L' := [some (.ref 89), some (.int y979)]) (st' := [.long (a_m_h c982)]) (h' := (HM P c982 T)) (cs' := 0) (sl' := 0) rfl ?_
        obtain ⟨rfl, rfl⟩ := ai_smP h
        exact ev_end rfl
      · refine ev_ic_ge (t := 175) rfl rfl (fun c9 => absurd c9 hc) (fun _ => ?_)
        refine ev_go 6 (pc' := 149) (L' := [some (.ref 89), some (.int y979)]) (st' := [.int (127 + y979), .ref 90, .ref 89]) (h' := (HM P w T)) (cs' := 0) (sl' := 0) rfl ?_
        obtain ⟨v983, hq, h⟩ := ai_bdE h
        refine ev_iald rfl rfl hq ?_
        refine ev_go 1 (pc' := 151) (L' := [some (.ref 89), some (.int y979)]) (st' := [.long (v983).toInt64, .ref 89]) (h' := (HM P w T)) (cs' := 0) (sl' := 0) rfl ?_
        obtain ⟨c984, hq, h⟩ := ai_bdE h
        refine ev_call (M' := mm_mix) (L' := [some (.ref 89), some (.long (v983).toInt64), none]) (rest := []) (rv := none) (h' := (HM P c984 T)) rfl (Em_mix_89 (v983).toInt64 w _ hq P T) ?_
        show ai_ev D1 mm_digest 154 [some (.ref 89), some (.int y979)] [] (HM P c984 T) 0 0 _
        refine ev_go 6 (pc' := 164) (L' := [some (.ref 89), some (.int y979)]) (st' := [.int (133 + y979), .ref 90, .ref 89]) (h' := (HM P c984 T)) (cs' := 0) (sl' := 0) rfl ?_
        obtain ⟨v985, hq, h⟩ := ai_bdE h
        refine ev_iald rfl rfl hq ?_
        refine ev_go 1 (pc' := 166) (L' := [some (.ref 89), some (.int y979)]) (st' := [.long (v985).toInt64, .ref 89]) (h' := (HM P c984 T)) (cs' := 0) (sl' := 0) rfl ?_
        obtain ⟨c986, hq, h⟩ := ai_bdE h
        refine ev_call (M' := mm_mix) (L' := [some (.ref 89), some (.long (v985).toInt64), none]) (rest := []) (rv := none) (h' := (HM P c986 T)) rfl (Em_mix_89 (v985).toInt64 c984 _ hq P T) ?_
        show ai_ev D1 mm_digest 169 [some (.ref 89), some (.int y979)] [] (HM P c986 T) 0 0 _
        refine ev_go 2 (pc' := 129) (L' := [some (.ref 89), some (.int (y979 + 1))]) (st' := []) (h' := (HM P c986 T)) (cs' := 0) (sl' := 0) rfl ?_
        exact ih3 _ _ _ _ h P T
set_option maxHeartbeats 40000000 in
set_option maxRecDepth 100000 in
theorem Em_digest_89 (n : Nat) (w : WM) (r : Int64) (w' : WM) (h : Fm_digest_89 n w = some (r, w')) (P : Nat → ai_E) (T : ai_H) : ai_ev D1 mm_digest 0 [some (.ref 89), none] [] (HM P w T) 0 0 (some (.long r), HM P w' T) := by
  unfold Fm_digest_89 at h
  obtain ⟨ih0, ih1, ih2, ih3⟩ := EGm_digest_89 n
  refine ev_go 2 (pc' := 4) (L' := [some (.ref 89), none]) (st' := [.long 887, .ref 89]) (h' := (HM P w T)) (cs' := 0) (sl' := 0) rfl ?_
  refine ev_step rfl rfl rfl (PFM_8_298_89 rfl) ?_
  refine ev_go 2 (pc' := 9) (L' := [some (.ref 89), some (.int 0)]) (st' := []) (h' := (HM P (u_m_h w 887) T)) (cs' := 0) (sl' := 0) rfl ?_
  exact ih0 _ _ _ _ h P T
set_option maxHeartbeats 40000000 in
set_option maxRecDepth 100000 in
theorem Ef_within (x989 : Int32) (x990 : Int32) (x991 : Int32) (r : Int32) (h : Ff_within x989 x990 x991 = some r) (hh : ai_H) : ai_ev D1 mf_within 0 [some (.int x989), some (.int x990), some (.int x991)] [] hh 0 0 (some (.int r), hh) := by
  unfold Ff_within at h
  refine ev_go 2 (pc' := 2) (L' := [some (.int x989), some (.int x990), some (.int x991)]) (st' := [.int x990, .int x989]) (h' := hh) (cs' := 0) (sl' := 0) rfl ?_
  rcases ai_ifE h with ⟨hc, h⟩ | ⟨hc, h⟩
  · refine ev_ic_lt (t := 14) rfl rfl (fun _ => ?_) (fun c9 => absurd hc c9)
    refine ev_go 1 (pc' := 15) (L' := [some (.int x989), some (.int x990), some (.int x991)]) (st' := [.int 0]) (h' := hh) (cs' := 0) (sl' := 0) rfl ?_
    obtain rfl := Option.some.inj h
    exact ev_end rfl
  · refine ev_ic_lt (t := 14) rfl rfl (fun c9 => absurd c9 hc) (fun _ => ?_)
    refine ev_go 2 (pc' := 7) (L' := [some (.int x989), some (.int x990), some (.int x991)]) (st' := [.int x991, .int x989]) (h' := hh) (cs' := 0) (sl' := 0) rfl ?_
    rcases ai_ifE h with ⟨hc, h⟩ | ⟨hc, h⟩
    · refine ev_ic_gt (t := 14) rfl rfl (fun _ => ?_) (fun c9 => absurd hc c9)
      refine ev_go 1 (pc' := 15) (L' := [some (.int x989), some (.int x990), some (.int x991)]) (st' := [.int 0]) (h' := hh) (cs' := 0) (sl' := 0) rfl ?_
      obtain rfl := Option.some.inj h
      exact ev_end rfl
    · refine ev_ic_gt (t := 14) rfl rfl (fun c9 => absurd c9 hc) (fun _ => ?_)
      refine ev_go 2 (pc' := 15) (L' := [some (.int x989), some (.int x990), some (.int x991)]) (st' := [.int 1]) (h' := hh) (cs' := 0) (sl' := 0) rfl ?_
      obtain rfl := Option.some.inj h
      exact ev_end rfl
set_option maxHeartbeats 40000000 in
set_option maxRecDepth 100000 in
theorem EGarr_fill_3 : ∀ n : Nat, (∀ (y995 : Int32) (y996 : Int32) (y997 : Int32) (w : WX) (w' : WX), Garr_fill_3 n 0 y995 y996 y997 w = some w' → ∀ (T : ai_H), ai_ev D1 marr_fill 5 [some (.ref 3), some (.int y995), some (.int y996), some (.int y997)] [] (HX w T) 0 0 (none, HX w' T)) := by
  intro n
  induction n with
  | zero =>
    exact (fun _ _ _ _ _ h => by cases h)
  | succ n ih0 =>
    intro y995 y996 y997 w w' h T
    simp only [Garr_fill_3] at h
    refine ev_go 2 (pc' := 7) (L' := [some (.ref 3), some (.int y995), some (.int y996), some (.int y997)]) (st' := [.int y997, .int y996]) (h' := (HX w T)) (cs' := 0) (sl' := 0) rfl ?_
    rcases ai_ifE h with ⟨hc, h⟩ | ⟨hc, h⟩
    · refine ev_ic_ge (t := 20) rfl rfl (fun _ => ?_) (fun c9 => absurd hc c9)
      obtain rfl := Option.some.inj h
      exact ev_end rfl
    · refine ev_ic_ge (t := 20) rfl rfl (fun c9 => absurd c9 hc) (fun _ => ?_)
      refine ev_go 3 (pc' := 13) (L' := [some (.ref 3), some (.int y995), some (.int y996), some (.int y997)]) (st' := [.int y995, .int y996, .ref 3]) (h' := (HX w T)) (cs' := 0) (sl' := 0) rfl ?_
      obtain ⟨q998, hq, h⟩ := ai_bdE h
      refine ev_iast rfl rfl hq ?_
      rw [HXs_3]
      refine ev_go 2 (pc' := 5) (L' := [some (.ref 3), some (.int y995), some (.int (y996 + 1)), some (.int y997)]) (st' := []) (h' := (HX (u_s1_currents w q998) T)) (cs' := 0) (sl' := 0) rfl ?_
      exact ih0 _ _ _ _ _ h T
set_option maxHeartbeats 40000000 in
set_option maxRecDepth 100000 in
theorem Earr_fill_3 (n : Nat) (x994 : Int32) (w : WX) (w' : WX) (h : Farr_fill_3 n x994 w = some w') (T : ai_H) : ai_ev D1 marr_fill 0 [some (.ref 3), some (.int x994), none, none] [] (HX w T) 0 0 (none, HX w' T) := by
  unfold Farr_fill_3 at h
  have ih0 := EGarr_fill_3 n
  refine ev_go 5 (pc' := 5) (L' := [some (.ref 3), some (.int x994), some (.int 0), some (.int (Int32.ofNat (List.length (a_s1_currents w))))]) (st' := []) (h' := (HX w T)) (cs' := 0) (sl' := 0) rfl ?_
  exact ih0 _ _ _ _ _ h T
set_option maxHeartbeats 40000000 in
set_option maxRecDepth 100000 in
theorem EGarr_fill_4 : ∀ n : Nat, (∀ (y1001 : Int32) (y1002 : Int32) (y1003 : Int32) (w : WX) (w' : WX), Garr_fill_4 n 0 y1001 y1002 y1003 w = some w' → ∀ (T : ai_H), ai_ev D1 marr_fill 5 [some (.ref 4), some (.int y1001), some (.int y1002), some (.int y1003)] [] (HX w T) 0 0 (none, HX w' T)) := by
  intro n
  induction n with
  | zero =>
    exact (fun _ _ _ _ _ h => by cases h)
  | succ n ih0 =>
    intro y1001 y1002 y1003 w w' h T
    simp only [Garr_fill_4] at h
    refine ev_go 2 (pc' := 7) (L' := [some (.ref 4), some (.int y1001), some (.int y1002), some (.int y1003)]) (st' := [.int y1003, .int y1002]) (h' := (HX w T)) (cs' := 0) (sl' := 0) rfl ?_
    rcases ai_ifE h with ⟨hc, h⟩ | ⟨hc, h⟩
    · refine ev_ic_ge (t := 20) rfl rfl (fun _ => ?_) (fun c9 => absurd hc c9)
      obtain rfl := Option.some.inj h
      exact ev_end rfl
    · refine ev_ic_ge (t := 20) rfl rfl (fun c9 => absurd c9 hc) (fun _ => ?_)
      refine ev_go 3 (pc' := 13) (L' := [some (.ref 4), some (.int y1001), some (.int y1002), some (.int y1003)]) (st' := [.int y1001, .int y1002, .ref 4]) (h' := (HX w T)) (cs' := 0) (sl' := 0) rfl ?_
      obtain ⟨q1004, hq, h⟩ := ai_bdE h
      refine ev_iast rfl rfl hq ?_
      rw [HXs_4]
      refine ev_go 2 (pc' := 5) (L' := [some (.ref 4), some (.int y1001), some (.int (y1002 + 1)), some (.int y1003)]) (st' := []) (h' := (HX (u_s1_tides w q1004) T)) (cs' := 0) (sl' := 0) rfl ?_
      exact ih0 _ _ _ _ _ h T
set_option maxHeartbeats 40000000 in
set_option maxRecDepth 100000 in
theorem Earr_fill_4 (n : Nat) (x1000 : Int32) (w : WX) (w' : WX) (h : Farr_fill_4 n x1000 w = some w') (T : ai_H) : ai_ev D1 marr_fill 0 [some (.ref 4), some (.int x1000), none, none] [] (HX w T) 0 0 (none, HX w' T) := by
  unfold Farr_fill_4 at h
  have ih0 := EGarr_fill_4 n
  refine ev_go 5 (pc' := 5) (L' := [some (.ref 4), some (.int x1000), some (.int 0), some (.int (Int32.ofNat (List.length (a_s1_tides w))))]) (st' := []) (h' := (HX w T)) (cs' := 0) (sl' := 0) rfl ?_
  exact ih0 _ _ _ _ _ h T
set_option maxHeartbeats 40000000 in
set_option maxRecDepth 100000 in
theorem EGarr_fill_5 : ∀ n : Nat, (∀ (y1007 : Int32) (y1008 : Int32) (y1009 : Int32) (w : WX) (w' : WX), Garr_fill_5 n 0 y1007 y1008 y1009 w = some w' → ∀ (T : ai_H), ai_ev D1 marr_fill 5 [some (.ref 5), some (.int y1007), some (.int y1008), some (.int y1009)] [] (HX w T) 0 0 (none, HX w' T)) := by
  intro n
  induction n with
  | zero =>
    exact (fun _ _ _ _ _ h => by cases h)
  | succ n ih0 =>
    intro y1007 y1008 y1009 w w' h T
    simp only [Garr_fill_5] at h
    refine ev_go 2 (pc' := 7) (L' := [some (.ref 5), some (.int y1007), some (.int y1008), some (.int y1009)]) (st' := [.int y1009, .int y1008]) (h' := (HX w T)) (cs' := 0) (sl' := 0) rfl ?_
    rcases ai_ifE h with ⟨hc, h⟩ | ⟨hc, h⟩
    · refine ev_ic_ge (t := 20) rfl rfl (fun _ => ?_) (fun c9 => absurd hc c9)
      obtain rfl := Option.some.inj h
      exact ev_end rfl
    · refine ev_ic_ge (t := 20) rfl rfl (fun c9 => absurd c9 hc) (fun _ => ?_)
      refine ev_go 3 (pc' := 13) (L' := [some (.ref 5), some (.int y1007), some (.int y1008), some (.int y1009)]) (st' := [.int y1007, .int y1008, .ref 5]) (h' := (HX w T)) (cs' := 0) (sl' := 0) rfl ?_
      obtain ⟨q1010, hq, h⟩ := ai_bdE h
      refine ev_iast rfl rfl hq ?_
      rw [HXs_5]
      refine ev_go 2 (pc' := 5) (L' := [some (.ref 5), some (.int y1007), some (.int (y1008 + 1)), some (.int y1009)]) (st' := []) (h' := (HX (u_s1_thicks w q1010) T)) (cs' := 0) (sl' := 0) rfl ?_
      exact ih0 _ _ _ _ _ h T
set_option maxHeartbeats 40000000 in
set_option maxRecDepth 100000 in
theorem Earr_fill_5 (n : Nat) (x1006 : Int32) (w : WX) (w' : WX) (h : Farr_fill_5 n x1006 w = some w') (T : ai_H) : ai_ev D1 marr_fill 0 [some (.ref 5), some (.int x1006), none, none] [] (HX w T) 0 0 (none, HX w' T) := by
  unfold Farr_fill_5 at h
  have ih0 := EGarr_fill_5 n
  refine ev_go 5 (pc' := 5) (L' := [some (.ref 5), some (.int x1006), some (.int 0), some (.int (Int32.ofNat (List.length (a_s1_thicks w))))]) (st' := []) (h' := (HX w T)) (cs' := 0) (sl' := 0) rfl ?_
  exact ih0 _ _ _ _ _ h T
set_option maxHeartbeats 40000000 in
set_option maxRecDepth 100000 in
theorem EGarr_fill_6 : ∀ n : Nat, (∀ (y1013 : Int32) (y1014 : Int32) (y1015 : Int32) (w : WX) (w' : WX), Garr_fill_6 n 0 y1013 y1014 y1015 w = some w' → ∀ (T : ai_H), ai_ev D1 marr_fill 5 [some (.ref 6), some (.int y1013), some (.int y1014), some (.int y1015)] [] (HX w T) 0 0 (none, HX w' T)) := by
  intro n
  induction n with
  | zero =>
    exact (fun _ _ _ _ _ h => by cases h)
  | succ n ih0 =>
    intro y1013 y1014 y1015 w w' h T
    simp only [Garr_fill_6] at h
    refine ev_go 2 (pc' := 7) (L' := [some (.ref 6), some (.int y1013), some (.int y1014), some (.int y1015)]) (st' := [.int y1015, .int y1014]) (h' := (HX w T)) (cs' := 0) (sl' := 0) rfl ?_
    rcases ai_ifE h with ⟨hc, h⟩ | ⟨hc, h⟩
    · refine ev_ic_ge (t := 20) rfl rfl (fun _ => ?_) (fun c9 => absurd hc c9)
      obtain rfl := Option.some.inj h
      exact ev_end rfl
    · refine ev_ic_ge (t := 20) rfl rfl (fun c9 => absurd c9 hc) (fun _ => ?_)
      refine ev_go 3 (pc' := 13) (L' := [some (.ref 6), some (.int y1013), some (.int y1014), some (.int y1015)]) (st' := [.int y1013, .int y1014, .ref 6]) (h' := (HX w T)) (cs' := 0) (sl' := 0) rfl ?_
      obtain ⟨q1016, hq, h⟩ := ai_bdE h
      refine ev_iast rfl rfl hq ?_
      rw [HXs_6]
      refine ev_go 2 (pc' := 5) (L' := [some (.ref 6), some (.int y1013), some (.int (y1014 + 1)), some (.int y1015)]) (st' := []) (h' := (HX (u_s1_skins w q1016) T)) (cs' := 0) (sl' := 0) rfl ?_
      exact ih0 _ _ _ _ _ h T
set_option maxHeartbeats 40000000 in
set_option maxRecDepth 100000 in
theorem Earr_fill_6 (n : Nat) (x1012 : Int32) (w : WX) (w' : WX) (h : Farr_fill_6 n x1012 w = some w') (T : ai_H) : ai_ev D1 marr_fill 0 [some (.ref 6), some (.int x1012), none, none] [] (HX w T) 0 0 (none, HX w' T) := by
  unfold Farr_fill_6 at h
  have ih0 := EGarr_fill_6 n
  refine ev_go 5 (pc' := 5) (L' := [some (.ref 6), some (.int x1012), some (.int 0), some (.int (Int32.ofNat (List.length (a_s1_skins w))))]) (st' := []) (h' := (HX w T)) (cs' := 0) (sl' := 0) rfl ?_
  exact ih0 _ _ _ _ _ h T
set_option maxHeartbeats 40000000 in
set_option maxRecDepth 100000 in
theorem Esea_startAnew_1 (n : Nat) (x988 : Int32) (w : WX) (r : Int32) (w' : WX) (h : Fsea_startAnew_1 n x988 w = some (r, w')) (T : ai_H) : ai_ev D1 msea_startAnew 0 [some (.ref 1), some (.int x988), none] [] (HX w T) 0 0 (some (.int r), HX w' T) := by
  unfold Fsea_startAnew_1 at h
  refine ev_go 3 (pc' := 4) (L' := [some (.ref 1), some (.int x988), none]) (st' := [.int 6, .int 1, .int x988]) (h' := (HX w T)) (cs' := 0) (sl' := 0) rfl ?_
  obtain ⟨c992, hq, h⟩ := ai_bdE h
  refine ev_call (M' := mf_within) (L' := [some (.int x988), some (.int 1), some (.int 6)]) (rest := []) (rv := some (.int c992)) (h' := (HX w T)) rfl (Ef_within x988 1 6 _ hq (HX w T)) ?_
  show ai_ev D1 msea_startAnew 7 [some (.ref 1), some (.int x988), none] [.int c992] (HX w T) 0 0 _
  rcases ai_ifE h with ⟨hc, h⟩ | ⟨hc, h⟩
  · refine ev_if_ne (t := 13) rfl rfl (fun c9 => absurd hc c9) (fun _ => ?_)
    refine ev_go 1 (pc' := 12) (L' := [some (.ref 1), some (.int x988), none]) (st' := [.int (-2)]) (h' := (HX w T)) (cs' := 0) (sl' := 0) rfl ?_
    obtain ⟨rfl, rfl⟩ := ai_smP h
    exact ev_end rfl
  · refine ev_if_ne (t := 13) rfl rfl (fun _ => ?_) (fun c9 => absurd c9 hc)
    refine ev_go 5 (pc' := 20) (L' := [some (.ref 1), some (.int x988), some (.int (a_s1_cells w))]) (st' := [.int x988, .ref 1]) (h' := (HX w T)) (cs' := 0) (sl' := 0) rfl ?_
    refine ev_step rfl rfl rfl (PFX_2_9_1 rfl) ?_
    refine ev_go 2 (pc' := 25) (L' := [some (.ref 1), some (.int x988), some (.int (a_s1_cells w))]) (st' := [.int 0, .ref 1]) (h' := (HX (u_s1_cells w x988) T)) (cs' := 0) (sl' := 0) rfl ?_
    refine ev_step rfl rfl rfl (PFX_2_15_1 rfl) ?_
    refine ev_go 2 (pc' := 30) (L' := [some (.ref 1), some (.int x988), some (.int (a_s1_cells w))]) (st' := [.int 0, .ref 1]) (h' := (HX (u_s1_hour (u_s1_cells w x988) 0) T)) (cs' := 0) (sl' := 0) rfl ?_
    refine ev_step rfl rfl rfl (PFX_2_18_1 rfl) ?_
    refine ev_go 6 (pc' := 43) (L' := [some (.ref 1), some (.int x988), some (.int (a_s1_cells w))]) (st' := [.int 4, .int 0, .ref 2, .int 0, .retAddr 0]) (h' := (HX (u_s1_dams (u_s1_hour (u_s1_cells w x988) 0) 0) T)) (cs' := 0) (sl' := 0) rfl ?_
    obtain ⟨q993, hq, h⟩ := ai_bdE h
    refine ev_cpx rfl rfl rfl rfl rfl rfl hq ?_
    rw [HXs_2]
    refine ev_go 3 (pc' := 51) (L' := [some (.ref 1), some (.int x988), some (.int (a_s1_cells w))]) (st' := [.int 0, .ref 3]) (h' := (HX (u_s1_densities (u_s1_dams (u_s1_hour (u_s1_cells w x988) 0) 0) q993) T)) (cs' := 0) (sl' := 0) rfl ?_
    obtain ⟨c999, hq, h⟩ := ai_bdE h
    refine ev_call (M' := marr_fill) (L' := [some (.ref 3), some (.int 0), none, none]) (rest := []) (rv := none) (h' := (HX c999 T)) rfl (Earr_fill_3 n 0 (u_s1_densities (u_s1_dams (u_s1_hour (u_s1_cells w x988) 0) 0) q993) _ hq T) ?_
    show ai_ev D1 msea_startAnew 54 [some (.ref 1), some (.int x988), some (.int (a_s1_cells w))] [] (HX c999 T) 0 0 _
    refine ev_go 3 (pc' := 59) (L' := [some (.ref 1), some (.int x988), some (.int (a_s1_cells w))]) (st' := [.int 0, .ref 4]) (h' := (HX c999 T)) (cs' := 0) (sl' := 0) rfl ?_
    obtain ⟨c1005, hq, h⟩ := ai_bdE h
    refine ev_call (M' := marr_fill) (L' := [some (.ref 4), some (.int 0), none, none]) (rest := []) (rv := none) (h' := (HX c1005 T)) rfl (Earr_fill_4 n 0 c999 _ hq T) ?_
    show ai_ev D1 msea_startAnew 62 [some (.ref 1), some (.int x988), some (.int (a_s1_cells w))] [] (HX c1005 T) 0 0 _
    refine ev_go 3 (pc' := 67) (L' := [some (.ref 1), some (.int x988), some (.int (a_s1_cells w))]) (st' := [.int 3, .ref 5]) (h' := (HX c1005 T)) (cs' := 0) (sl' := 0) rfl ?_
    obtain ⟨c1011, hq, h⟩ := ai_bdE h
    refine ev_call (M' := marr_fill) (L' := [some (.ref 5), some (.int 3), none, none]) (rest := []) (rv := none) (h' := (HX c1011 T)) rfl (Earr_fill_5 n 3 c1005 _ hq T) ?_
    show ai_ev D1 msea_startAnew 70 [some (.ref 1), some (.int x988), some (.int (a_s1_cells w))] [] (HX c1011 T) 0 0 _
    refine ev_go 3 (pc' := 75) (L' := [some (.ref 1), some (.int x988), some (.int (a_s1_cells w))]) (st' := [.int 0, .ref 6]) (h' := (HX c1011 T)) (cs' := 0) (sl' := 0) rfl ?_
    obtain ⟨c1017, hq, h⟩ := ai_bdE h
    refine ev_call (M' := marr_fill) (L' := [some (.ref 6), some (.int 0), none, none]) (rest := []) (rv := none) (h' := (HX c1017 T)) rfl (Earr_fill_6 n 0 c1011 _ hq T) ?_
    show ai_ev D1 msea_startAnew 78 [some (.ref 1), some (.int x988), some (.int (a_s1_cells w))] [] (HX c1017 T) 0 0 _
    refine ev_go 3 (pc' := 83) (L' := [some (.ref 1), some (.int x988), some (.int (a_s1_cells w))]) (st' := [.int 0, .ref 7]) (h' := (HX c1017 T)) (cs' := 0) (sl' := 0) rfl ?_
    refine ev_step rfl rfl rfl (PFX_2_95_7 rfl) ?_
    refine ev_go 3 (pc' := 91) (L' := [some (.ref 1), some (.int x988), some (.int (a_s1_cells w))]) (st' := [.int 0, .ref 12]) (h' := (HX (u_s1things_count c1017 0) T)) (cs' := 0) (sl' := 0) rfl ?_
    refine ev_step rfl rfl rfl (PFX_2_98_12 rfl) ?_
    refine ev_go 2 (pc' := 96) (L' := [some (.ref 1), some (.int x988), some (.int (a_s1_cells w))]) (st' := [.int 0, .ref 1]) (h' := (HX (u_s1lifts_count (u_s1things_count c1017 0) 0) T)) (cs' := 0) (sl' := 0) rfl ?_
    refine ev_step rfl rfl rfl (PFX_2_51_1 rfl) ?_
    refine ev_go 2 (pc' := 101) (L' := [some (.ref 1), some (.int x988), some (.int (a_s1_cells w))]) (st' := [.int 0, .ref 1]) (h' := (HX (u_s1_towns (u_s1lifts_count (u_s1things_count c1017 0) 0) 0) T)) (cs' := 0) (sl' := 0) rfl ?_
    refine ev_step rfl rfl rfl (PFX_2_57_1 rfl) ?_
    refine ev_go 2 (pc' := 106) (L' := [some (.ref 1), some (.int x988), some (.int (a_s1_cells w))]) (st' := [.int 0, .ref 1]) (h' := (HX (u_s1_drops (u_s1_towns (u_s1lifts_count (u_s1things_count c1017 0) 0) 0) 0) T)) (cs' := 0) (sl' := 0) rfl ?_
    refine ev_step rfl rfl rfl (PFX_2_66_1 rfl) ?_
    refine ev_go 1 (pc' := 110) (L' := [some (.ref 1), some (.int x988), some (.int (a_s1_cells w))]) (st' := [.int (a_s1_cells w)]) (h' := (HX (u_s1_undos (u_s1_drops (u_s1_towns (u_s1lifts_count (u_s1things_count c1017 0) 0) 0) 0) 0) T)) (cs' := 0) (sl' := 0) rfl ?_
    obtain ⟨rfl, rfl⟩ := ai_smP h
    exact ev_end rfl
set_option maxHeartbeats 40000000 in
set_option maxRecDepth 100000 in
theorem Ef_counted_0 (x1019 : Int32) (w : WX) (r : Int32) (w' : WX) (h : Ff_counted_0 x1019 w = some (r, w')) (T : ai_H) : ai_ev D1 mf_counted 0 [some (.ref 0), some (.int x1019)] [] (HX w T) 0 0 (some (.int r), HX w' T) := by
  unfold Ff_counted_0 at h
  refine ev_go 2 (pc' := 3) (L' := [some (.ref 0), some (.int x1019)]) (st' := [.int (-2), .int x1019]) (h' := (HX w T)) (cs' := 0) (sl' := 0) rfl ?_
  rcases ai_ifE h with ⟨hc, h⟩ | ⟨hc, h⟩
  · refine ev_ic_ne (t := 19) rfl rfl (fun c9 => absurd hc c9) (fun _ => ?_)
    refine ev_go 5 (pc' := 13) (L' := [some (.ref 0), some (.int x1019)]) (st' := [.int ((a_f_refusedBad w) + 1), .ref 0]) (h' := (HX w T)) (cs' := 0) (sl' := 0) rfl ?_
    refine ev_step rfl rfl rfl (PFX_7_68_0 rfl) ?_
    refine ev_go 2 (pc' := 55) (L' := [some (.ref 0), some (.int x1019)]) (st' := [.int x1019]) (h' := (HX (u_f_refusedBad w ((a_f_refusedBad w) + 1)) T)) (cs' := 0) (sl' := 0) rfl ?_
    obtain ⟨rfl, rfl⟩ := ai_smP h
    exact ev_end rfl
  · refine ev_ic_ne (t := 19) rfl rfl (fun _ => ?_) (fun c9 => absurd c9 hc)
    refine ev_go 2 (pc' := 22) (L' := [some (.ref 0), some (.int x1019)]) (st' := [.int (-3), .int x1019]) (h' := (HX w T)) (cs' := 0) (sl' := 0) rfl ?_
    rcases ai_ifE h with ⟨hc, h⟩ | ⟨hc, h⟩
    · refine ev_ic_ne (t := 38) rfl rfl (fun c9 => absurd hc c9) (fun _ => ?_)
      refine ev_go 5 (pc' := 32) (L' := [some (.ref 0), some (.int x1019)]) (st' := [.int ((a_f_refusedNo w) + 1), .ref 0]) (h' := (HX w T)) (cs' := 0) (sl' := 0) rfl ?_
      refine ev_step rfl rfl rfl (PFX_7_72_0 rfl) ?_
      refine ev_go 2 (pc' := 55) (L' := [some (.ref 0), some (.int x1019)]) (st' := [.int x1019]) (h' := (HX (u_f_refusedNo w ((a_f_refusedNo w) + 1)) T)) (cs' := 0) (sl' := 0) rfl ?_
      obtain ⟨rfl, rfl⟩ := ai_smP h
      exact ev_end rfl
    · refine ev_ic_ne (t := 38) rfl rfl (fun _ => ?_) (fun c9 => absurd c9 hc)
      refine ev_go 2 (pc' := 41) (L' := [some (.ref 0), some (.int x1019)]) (st' := [.int (-4), .int x1019]) (h' := (HX w T)) (cs' := 0) (sl' := 0) rfl ?_
      rcases ai_ifE h with ⟨hc, h⟩ | ⟨hc, h⟩
      · refine ev_ic_ne (t := 54) rfl rfl (fun c9 => absurd hc c9) (fun _ => ?_)
        refine ev_go 5 (pc' := 51) (L' := [some (.ref 0), some (.int x1019)]) (st' := [.int ((a_f_refusedFull w) + 1), .ref 0]) (h' := (HX w T)) (cs' := 0) (sl' := 0) rfl ?_
        refine ev_step rfl rfl rfl (PFX_7_75_0 rfl) ?_
        refine ev_go 1 (pc' := 55) (L' := [some (.ref 0), some (.int x1019)]) (st' := [.int x1019]) (h' := (HX (u_f_refusedFull w ((a_f_refusedFull w) + 1)) T)) (cs' := 0) (sl' := 0) rfl ?_
        obtain ⟨rfl, rfl⟩ := ai_smP h
        exact ev_end rfl
      · refine ev_ic_ne (t := 54) rfl rfl (fun _ => ?_) (fun c9 => absurd c9 hc)
        refine ev_go 1 (pc' := 55) (L' := [some (.ref 0), some (.int x1019)]) (st' := [.int x1019]) (h' := (HX w T)) (cs' := 0) (sl' := 0) rfl ?_
        obtain ⟨rfl, rfl⟩ := ai_smP h
        exact ev_end rfl
