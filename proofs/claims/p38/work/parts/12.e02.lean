set_option maxHeartbeats 40000000 in
set_option maxRecDepth 100000 in
theorem Em_isNamed_89 (x231 : Int32) (x232 : Int32) (x233 : Int32) (x234 : Int32) (x235 : Int32) (w : WM) (r : Int32) (w' : WM) (h : Fm_isNamed_89 x231 x232 x233 x234 x235 w = some (r, w')) (P : Nat → ai_E) (T : ai_H) : ai_ev D1 mm_isNamed 0 [some (.ref 89), some (.int x231), some (.int x232), some (.int x233), some (.int x234), some (.int x235), none, none] [] (HM P w T) 0 0 (some (.int r), HM P w' T) := by
  unfold Fm_isNamed_89 at h
  refine ev_go 1 (pc' := 2) (L' := [some (.ref 89), some (.int x231), some (.int x232), some (.int x233), some (.int x234), some (.int x235), none, none]) (st' := [.int x234]) (h' := (HM P w T)) (cs' := 0) (sl' := 0) rfl ?_
  rcases ai_ifE h with ⟨hc, h⟩ | ⟨hc, h⟩
  · refine ev_if_ne (t := 9) rfl rfl (fun c9 => absurd hc c9) (fun _ => ?_)
    refine ev_go 5 (pc' := 25) (L' := [some (.ref 89), some (.int x231), some (.int x232), some (.int x233), some (.int x234), some (.int x235), some (.int 3), none]) (st' := [.int (a_m_isWord w)]) (h' := (HM P w T)) (cs' := 0) (sl' := 0) rfl ?_
    rcases ai_ifE h with ⟨hc, h⟩ | ⟨hc, h⟩
    · refine ev_if_eq (t := 86) rfl rfl (fun _ => ?_) (fun c9 => absurd hc c9)
      refine ev_go 5 (pc' := 139) (L' := [some (.ref 89), some (.int x231), some (.int x232), some (.int x233), some (.int x234), some (.int x235), some (.int 3), some (.int 0)]) (st' := [.int 0]) (h' := (HM P w T)) (cs' := 0) (sl' := 0) rfl ?_
      obtain ⟨rfl, rfl⟩ := ai_smP h
      exact ev_end rfl
    · refine ev_if_eq (t := 86) rfl rfl (fun c9 => absurd c9 hc) (fun _ => ?_)
      refine ev_go 6 (pc' := 39) (L' := [some (.ref 89), some (.int x231), some (.int x232), some (.int x233), some (.int x234), some (.int x235), some (.int 3), none]) (st' := [.int 3, .int ((a_m_at w) - (a_m_start w))]) (h' := (HM P w T)) (cs' := 0) (sl' := 0) rfl ?_
      rcases ai_ifE h with ⟨hc, h⟩ | ⟨hc, h⟩
      · refine ev_ic_ne (t := 86) rfl rfl (fun c9 => absurd hc c9) (fun _ => ?_)
        refine ev_go 3 (pc' := 47) (L' := [some (.ref 89), some (.int x231), some (.int x232), some (.int x233), some (.int x234), some (.int x235), some (.int 3), none]) (st' := [.int (a_m_start w), .ref 89]) (h' := (HM P w T)) (cs' := 0) (sl' := 0) rfl ?_
        obtain ⟨c248, hq, h⟩ := ai_bdE h
        refine ev_call (M' := mm_byteAt) (L' := [some (.ref 89), some (.int (a_m_start w))]) (rest := []) (rv := some (.int c248.1)) (h' := (HM P c248.2 T)) rfl (Em_byteAt_89 (a_m_start w) w _ _ hq P T) ?_
        show ai_ev D1 mm_isNamed 50 [some (.ref 89), some (.int x231), some (.int x232), some (.int x233), some (.int x234), some (.int x235), some (.int 3), none] [.int c248.1] (HM P c248.2 T) 0 0 _
        refine ev_go 1 (pc' := 51) (L' := [some (.ref 89), some (.int x231), some (.int x232), some (.int x233), some (.int x234), some (.int x235), some (.int 3), none]) (st' := [.int x231, .int c248.1]) (h' := (HM P c248.2 T)) (cs' := 0) (sl' := 0) rfl ?_
        rcases ai_ifE h with ⟨hc, h⟩ | ⟨hc, h⟩
        · refine ev_ic_ne (t := 86) rfl rfl (fun c9 => absurd hc c9) (fun _ => ?_)
          refine ev_go 5 (pc' := 61) (L' := [some (.ref 89), some (.int x231), some (.int x232), some (.int x233), some (.int x234), some (.int x235), some (.int 3), none]) (st' := [.int ((a_m_start c248.2) + 1), .ref 89]) (h' := (HM P c248.2 T)) (cs' := 0) (sl' := 0) rfl ?_
          obtain ⟨c249, hq, h⟩ := ai_bdE h
          refine ev_call (M' := mm_byteAt) (L' := [some (.ref 89), some (.int ((a_m_start c248.2) + 1))]) (rest := []) (rv := some (.int c249.1)) (h' := (HM P c249.2 T)) rfl (Em_byteAt_89 ((a_m_start c248.2) + 1) c248.2 _ _ hq P T) ?_
          show ai_ev D1 mm_isNamed 64 [some (.ref 89), some (.int x231), some (.int x232), some (.int x233), some (.int x234), some (.int x235), some (.int 3), none] [.int c249.1] (HM P c249.2 T) 0 0 _
          refine ev_go 1 (pc' := 65) (L' := [some (.ref 89), some (.int x231), some (.int x232), some (.int x233), some (.int x234), some (.int x235), some (.int 3), none]) (st' := [.int x232, .int c249.1]) (h' := (HM P c249.2 T)) (cs' := 0) (sl' := 0) rfl ?_
          rcases ai_ifE h with ⟨hc, h⟩ | ⟨hc, h⟩
          · refine ev_ic_ne (t := 86) rfl rfl (fun c9 => absurd hc c9) (fun _ => ?_)
            refine ev_go 5 (pc' := 75) (L' := [some (.ref 89), some (.int x231), some (.int x232), some (.int x233), some (.int x234), some (.int x235), some (.int 3), none]) (st' := [.int ((a_m_start c249.2) + 2), .ref 89]) (h' := (HM P c249.2 T)) (cs' := 0) (sl' := 0) rfl ?_
            obtain ⟨c250, hq, h⟩ := ai_bdE h
            refine ev_call (M' := mm_byteAt) (L' := [some (.ref 89), some (.int ((a_m_start c249.2) + 2))]) (rest := []) (rv := some (.int c250.1)) (h' := (HM P c250.2 T)) rfl (Em_byteAt_89 ((a_m_start c249.2) + 2) c249.2 _ _ hq P T) ?_
            show ai_ev D1 mm_isNamed 78 [some (.ref 89), some (.int x231), some (.int x232), some (.int x233), some (.int x234), some (.int x235), some (.int 3), none] [.int c250.1] (HM P c250.2 T) 0 0 _
            refine ev_go 1 (pc' := 79) (L' := [some (.ref 89), some (.int x231), some (.int x232), some (.int x233), some (.int x234), some (.int x235), some (.int 3), none]) (st' := [.int x233, .int c250.1]) (h' := (HM P c250.2 T)) (cs' := 0) (sl' := 0) rfl ?_
            rcases ai_ifE h with ⟨hc, h⟩ | ⟨hc, h⟩
            · refine ev_ic_ne (t := 86) rfl rfl (fun c9 => absurd hc c9) (fun _ => ?_)
              refine ev_go 6 (pc' := 96) (L' := [some (.ref 89), some (.int x231), some (.int x232), some (.int x233), some (.int x234), some (.int x235), some (.int 3), some (.int 1)]) (st' := [.int x234]) (h' := (HM P c250.2 T)) (cs' := 0) (sl' := 0) rfl ?_
              rcases ai_ifE h with ⟨hc, h⟩ | ⟨hc, h⟩
              · refine ev_if_eq (t := 114) rfl rfl (fun _ => ?_) (fun c9 => absurd hc c9)
                refine ev_go 1 (pc' := 116) (L' := [some (.ref 89), some (.int x231), some (.int x232), some (.int x233), some (.int x234), some (.int x235), some (.int 3), some (.int 1)]) (st' := [.int x235]) (h' := (HM P c250.2 T)) (cs' := 0) (sl' := 0) rfl ?_
                rcases ai_ifE h with ⟨hc, h⟩ | ⟨hc, h⟩
                · refine ev_if_eq (t := 134) rfl rfl (fun _ => ?_) (fun c9 => absurd hc c9)
                  refine ev_go 2 (pc' := 139) (L' := [some (.ref 89), some (.int x231), some (.int x232), some (.int x233), some (.int x234), some (.int x235), some (.int 3), some (.int 1)]) (st' := [.int 1]) (h' := (HM P c250.2 T)) (cs' := 0) (sl' := 0) rfl ?_
                  obtain ⟨rfl, rfl⟩ := ai_smP h
                  exact ev_end rfl
                · refine ev_if_eq (t := 134) rfl rfl (fun c9 => absurd c9 hc) (fun _ => ?_)
                  refine ev_go 5 (pc' := 126) (L' := [some (.ref 89), some (.int x231), some (.int x232), some (.int x233), some (.int x234), some (.int x235), some (.int 3), some (.int 1)]) (st' := [.int ((a_m_start c250.2) + 4), .ref 89]) (h' := (HM P c250.2 T)) (cs' := 0) (sl' := 0) rfl ?_
                  obtain ⟨c251, hq, h⟩ := ai_bdE h
                  refine ev_call (M' := mm_byteAt) (L' := [some (.ref 89), some (.int ((a_m_start c250.2) + 4))]) (rest := []) (rv := some (.int c251.1)) (h' := (HM P c251.2 T)) rfl (Em_byteAt_89 ((a_m_start c250.2) + 4) c250.2 _ _ hq P T) ?_
                  show ai_ev D1 mm_isNamed 129 [some (.ref 89), some (.int x231), some (.int x232), some (.int x233), some (.int x234), some (.int x235), some (.int 3), some (.int 1)] [.int c251.1] (HM P c251.2 T) 0 0 _
                  refine ev_go 1 (pc' := 131) (L' := [some (.ref 89), some (.int x231), some (.int x232), some (.int x233), some (.int x234), some (.int x235), some (.int 3), some (.int 1)]) (st' := [.int x235, .int c251.1]) (h' := (HM P c251.2 T)) (cs' := 0) (sl' := 0) rfl ?_
                  rcases ai_ifE h with ⟨hc, h⟩ | ⟨hc, h⟩
                  · refine ev_ic_ne (t := 138) rfl rfl (fun c9 => absurd hc c9) (fun _ => ?_)
                    refine ev_go 2 (pc' := 139) (L' := [some (.ref 89), some (.int x231), some (.int x232), some (.int x233), some (.int x234), some (.int x235), some (.int 3), some (.int 1)]) (st' := [.int 1]) (h' := (HM P c251.2 T)) (cs' := 0) (sl' := 0) rfl ?_
                    obtain ⟨rfl, rfl⟩ := ai_smP h
                    exact ev_end rfl
                  · refine ev_ic_ne (t := 138) rfl rfl (fun _ => ?_) (fun c9 => absurd c9 hc)
                    refine ev_go 1 (pc' := 139) (L' := [some (.ref 89), some (.int x231), some (.int x232), some (.int x233), some (.int x234), some (.int x235), some (.int 3), some (.int 1)]) (st' := [.int 0]) (h' := (HM P c251.2 T)) (cs' := 0) (sl' := 0) rfl ?_
                    obtain ⟨rfl, rfl⟩ := ai_smP h
                    exact ev_end rfl
              · refine ev_if_eq (t := 114) rfl rfl (fun c9 => absurd c9 hc) (fun _ => ?_)
                refine ev_go 5 (pc' := 106) (L' := [some (.ref 89), some (.int x231), some (.int x232), some (.int x233), some (.int x234), some (.int x235), some (.int 3), some (.int 1)]) (st' := [.int ((a_m_start c250.2) + 3), .ref 89]) (h' := (HM P c250.2 T)) (cs' := 0) (sl' := 0) rfl ?_
                obtain ⟨c252, hq, h⟩ := ai_bdE h
                refine ev_call (M' := mm_byteAt) (L' := [some (.ref 89), some (.int ((a_m_start c250.2) + 3))]) (rest := []) (rv := some (.int c252.1)) (h' := (HM P c252.2 T)) rfl (Em_byteAt_89 ((a_m_start c250.2) + 3) c250.2 _ _ hq P T) ?_
                show ai_ev D1 mm_isNamed 109 [some (.ref 89), some (.int x231), some (.int x232), some (.int x233), some (.int x234), some (.int x235), some (.int 3), some (.int 1)] [.int c252.1] (HM P c252.2 T) 0 0 _
                refine ev_go 1 (pc' := 111) (L' := [some (.ref 89), some (.int x231), some (.int x232), some (.int x233), some (.int x234), some (.int x235), some (.int 3), some (.int 1)]) (st' := [.int x234, .int c252.1]) (h' := (HM P c252.2 T)) (cs' := 0) (sl' := 0) rfl ?_
                rcases ai_ifE h with ⟨hc, h⟩ | ⟨hc, h⟩
                · refine ev_ic_ne (t := 138) rfl rfl (fun c9 => absurd hc c9) (fun _ => ?_)
                  refine ev_go 1 (pc' := 116) (L' := [some (.ref 89), some (.int x231), some (.int x232), some (.int x233), some (.int x234), some (.int x235), some (.int 3), some (.int 1)]) (st' := [.int x235]) (h' := (HM P c252.2 T)) (cs' := 0) (sl' := 0) rfl ?_
                  rcases ai_ifE h with ⟨hc, h⟩ | ⟨hc, h⟩
                  · refine ev_if_eq (t := 134) rfl rfl (fun _ => ?_) (fun c9 => absurd hc c9)
                    refine ev_go 2 (pc' := 139) (L' := [some (.ref 89), some (.int x231), some (.int x232), some (.int x233), some (.int x234), some (.int x235), some (.int 3), some (.int 1)]) (st' := [.int 1]) (h' := (HM P c252.2 T)) (cs' := 0) (sl' := 0) rfl ?_
                    obtain ⟨rfl, rfl⟩ := ai_smP h
                    exact ev_end rfl
                  · refine ev_if_eq (t := 134) rfl rfl (fun c9 => absurd c9 hc) (fun _ => ?_)
                    refine ev_go 5 (pc' := 126) (L' := [some (.ref 89), some (.int x231), some (.int x232), some (.int x233), some (.int x234), some (.int x235), some (.int 3), some (.int 1)]) (st' := [.int ((a_m_start c252.2) + 4), .ref 89]) (h' := (HM P c252.2 T)) (cs' := 0) (sl' := 0) rfl ?_
                    obtain ⟨c253, hq, h⟩ := ai_bdE h
                    refine ev_call (M' := mm_byteAt) (L' := [some (.ref 89), some (.int ((a_m_start c252.2) + 4))]) (rest := []) (rv := some (.int c253.1)) (h' := (HM P c253.2 T)) rfl (Em_byteAt_89 ((a_m_start c252.2) + 4) c252.2 _ _ hq P T) ?_
                    show ai_ev D1 mm_isNamed 129 [some (.ref 89), some (.int x231), some (.int x232), some (.int x233), some (.int x234), some (.int x235), some (.int 3), some (.int 1)] [.int c253.1] (HM P c253.2 T) 0 0 _
                    refine ev_go 1 (pc' := 131) (L' := [some (.ref 89), some (.int x231), some (.int x232), some (.int x233), some (.int x234), some (.int x235), some (.int 3), some (.int 1)]) (st' := [.int x235, .int c253.1]) (h' := (HM P c253.2 T)) (cs' := 0) (sl' := 0) rfl ?_
                    rcases ai_ifE h with ⟨hc, h⟩ | ⟨hc, h⟩
                    · refine ev_ic_ne (t := 138) rfl rfl (fun c9 => absurd hc c9) (fun _ => ?_)
                      refine ev_go 2 (pc' := 139) (L' := [some (.ref 89), some (.int x231), some (.int x232), some (.int x233), some (.int x234), some (.int x235), some (.int 3), some (.int 1)]) (st' := [.int 1]) (h' := (HM P c253.2 T)) (cs' := 0) (sl' := 0) rfl ?_
                      obtain ⟨rfl, rfl⟩ := ai_smP h
                      exact ev_end rfl
                    · refine ev_ic_ne (t := 138) rfl rfl (fun _ => ?_) (fun c9 => absurd c9 hc)
                      refine ev_go 1 (pc' := 139) (L' := [some (.ref 89), some (.int x231), some (.int x232), some (.int x233), some (.int x234), some (.int x235), some (.int 3), some (.int 1)]) (st' := [.int 0]) (h' := (HM P c253.2 T)) (cs' := 0) (sl' := 0) rfl ?_
                      obtain ⟨rfl, rfl⟩ := ai_smP h
                      exact ev_end rfl
                · refine ev_ic_ne (t := 138) rfl rfl (fun _ => ?_) (fun c9 => absurd c9 hc)
                  refine ev_go 1 (pc' := 139) (L' := [some (.ref 89), some (.int x231), some (.int x232), some (.int x233), some (.int x234), some (.int x235), some (.int 3), some (.int 1)]) (st' := [.int 0]) (h' := (HM P c252.2 T)) (cs' := 0) (sl' := 0) rfl ?_
                  obtain ⟨rfl, rfl⟩ := ai_smP h
                  exact ev_end rfl
            · refine ev_ic_ne (t := 86) rfl rfl (fun _ => ?_) (fun c9 => absurd c9 hc)
              refine ev_go 5 (pc' := 139) (L' := [some (.ref 89), some (.int x231), some (.int x232), some (.int x233), some (.int x234), some (.int x235), some (.int 3), some (.int 0)]) (st' := [.int 0]) (h' := (HM P c250.2 T)) (cs' := 0) (sl' := 0) rfl ?_
              obtain ⟨rfl, rfl⟩ := ai_smP h
              exact ev_end rfl
          · refine ev_ic_ne (t := 86) rfl rfl (fun _ => ?_) (fun c9 => absurd c9 hc)
            refine ev_go 5 (pc' := 139) (L' := [some (.ref 89), some (.int x231), some (.int x232), some (.int x233), some (.int x234), some (.int x235), some (.int 3), some (.int 0)]) (st' := [.int 0]) (h' := (HM P c249.2 T)) (cs' := 0) (sl' := 0) rfl ?_
            obtain ⟨rfl, rfl⟩ := ai_smP h
            exact ev_end rfl
        · refine ev_ic_ne (t := 86) rfl rfl (fun _ => ?_) (fun c9 => absurd c9 hc)
          refine ev_go 5 (pc' := 139) (L' := [some (.ref 89), some (.int x231), some (.int x232), some (.int x233), some (.int x234), some (.int x235), some (.int 3), some (.int 0)]) (st' := [.int 0]) (h' := (HM P c248.2 T)) (cs' := 0) (sl' := 0) rfl ?_
          obtain ⟨rfl, rfl⟩ := ai_smP h
          exact ev_end rfl
      · refine ev_ic_ne (t := 86) rfl rfl (fun _ => ?_) (fun c9 => absurd c9 hc)
        refine ev_go 5 (pc' := 139) (L' := [some (.ref 89), some (.int x231), some (.int x232), some (.int x233), some (.int x234), some (.int x235), some (.int 3), some (.int 0)]) (st' := [.int 0]) (h' := (HM P w T)) (cs' := 0) (sl' := 0) rfl ?_
        obtain ⟨rfl, rfl⟩ := ai_smP h
        exact ev_end rfl
  · refine ev_if_ne (t := 9) rfl rfl (fun _ => ?_) (fun c9 => absurd c9 hc)
    refine ev_go 1 (pc' := 11) (L' := [some (.ref 89), some (.int x231), some (.int x232), some (.int x233), some (.int x234), some (.int x235), none, none]) (st' := [.int x235]) (h' := (HM P w T)) (cs' := 0) (sl' := 0) rfl ?_
    rcases ai_ifE h with ⟨hc, h⟩ | ⟨hc, h⟩
    · refine ev_if_ne (t := 18) rfl rfl (fun c9 => absurd hc c9) (fun _ => ?_)
      refine ev_go 5 (pc' := 25) (L' := [some (.ref 89), some (.int x231), some (.int x232), some (.int x233), some (.int x234), some (.int x235), some (.int 4), none]) (st' := [.int (a_m_isWord w)]) (h' := (HM P w T)) (cs' := 0) (sl' := 0) rfl ?_
      rcases ai_ifE h with ⟨hc, h⟩ | ⟨hc, h⟩
      · refine ev_if_eq (t := 86) rfl rfl (fun _ => ?_) (fun c9 => absurd hc c9)
        refine ev_go 5 (pc' := 139) (L' := [some (.ref 89), some (.int x231), some (.int x232), some (.int x233), some (.int x234), some (.int x235), some (.int 4), some (.int 0)]) (st' := [.int 0]) (h' := (HM P w T)) (cs' := 0) (sl' := 0) rfl ?_
        obtain ⟨rfl, rfl⟩ := ai_smP h
        exact ev_end rfl
      · refine ev_if_eq (t := 86) rfl rfl (fun c9 => absurd c9 hc) (fun _ => ?_)
        refine ev_go 6 (pc' := 39) (L' := [some (.ref 89), some (.int x231), some (.int x232), some (.int x233), some (.int x234), some (.int x235), some (.int 4), none]) (st' := [.int 4, .int ((a_m_at w) - (a_m_start w))]) (h' := (HM P w T)) (cs' := 0) (sl' := 0) rfl ?_
        rcases ai_ifE h with ⟨hc, h⟩ | ⟨hc, h⟩
        · refine ev_ic_ne (t := 86) rfl rfl (fun c9 => absurd hc c9) (fun _ => ?_)
          refine ev_go 3 (pc' := 47) (L' := [some (.ref 89), some (.int x231), some (.int x232), some (.int x233), some (.int x234), some (.int x235), some (.int 4), none]) (st' := [.int (a_m_start w), .ref 89]) (h' := (HM P w T)) (cs' := 0) (sl' := 0) rfl ?_
          obtain ⟨c242, hq, h⟩ := ai_bdE h
          refine ev_call (M' := mm_byteAt) (L' := [some (.ref 89), some (.int (a_m_start w))]) (rest := []) (rv := some (.int c242.1)) (h' := (HM P c242.2 T)) rfl (Em_byteAt_89 (a_m_start w) w _ _ hq P T) ?_
          show ai_ev D1 mm_isNamed 50 [some (.ref 89), some (.int x231), some (.int x232), some (.int x233), some (.int x234), some (.int x235), some (.int 4), none] [.int c242.1] (HM P c242.2 T) 0 0 _
          refine ev_go 1 (pc' := 51) (L' := [some (.ref 89), some (.int x231), some (.int x232), some (.int x233), some (.int x234), some (.int x235), some (.int 4), none]) (st' := [.int x231, .int c242.1]) (h' := (HM P c242.2 T)) (cs' := 0) (sl' := 0) rfl ?_
          rcases ai_ifE h with ⟨hc, h⟩ | ⟨hc, h⟩
          · refine ev_ic_ne (t := 86) rfl rfl (fun c9 => absurd hc c9) (fun _ => ?_)
            refine ev_go 5 (pc' := 61) (L' := [some (.ref 89), some (.int x231), some (.int x232), some (.int x233), some (.int x234), some (.int x235), some (.int 4), none]) (st' := [.int ((a_m_start c242.2) + 1), .ref 89]) (h' := (HM P c242.2 T)) (cs' := 0) (sl' := 0) rfl ?_
            obtain ⟨c243, hq, h⟩ := ai_bdE h
            refine ev_call (M' := mm_byteAt) (L' := [some (.ref 89), some (.int ((a_m_start c242.2) + 1))]) (rest := []) (rv := some (.int c243.1)) (h' := (HM P c243.2 T)) rfl (Em_byteAt_89 ((a_m_start c242.2) + 1) c242.2 _ _ hq P T) ?_
            show ai_ev D1 mm_isNamed 64 [some (.ref 89), some (.int x231), some (.int x232), some (.int x233), some (.int x234), some (.int x235), some (.int 4), none] [.int c243.1] (HM P c243.2 T) 0 0 _
            refine ev_go 1 (pc' := 65) (L' := [some (.ref 89), some (.int x231), some (.int x232), some (.int x233), some (.int x234), some (.int x235), some (.int 4), none]) (st' := [.int x232, .int c243.1]) (h' := (HM P c243.2 T)) (cs' := 0) (sl' := 0) rfl ?_
            rcases ai_ifE h with ⟨hc, h⟩ | ⟨hc, h⟩
            · refine ev_ic_ne (t := 86) rfl rfl (fun c9 => absurd hc c9) (fun _ => ?_)
              refine ev_go 5 (pc' := 75) (L' := [some (.ref 89), some (.int x231), some (.int x232), some (.int x233), some (.int x234), some (.int x235), some (.int 4), none]) (st' := [.int ((a_m_start c243.2) + 2), .ref 89]) (h' := (HM P c243.2 T)) (cs' := 0) (sl' := 0) rfl ?_
              obtain ⟨c244, hq, h⟩ := ai_bdE h
              refine ev_call (M' := mm_byteAt) (L' := [some (.ref 89), some (.int ((a_m_start c243.2) + 2))]) (rest := []) (rv := some (.int c244.1)) (h' := (HM P c244.2 T)) rfl (Em_byteAt_89 ((a_m_start c243.2) + 2) c243.2 _ _ hq P T) ?_
              show ai_ev D1 mm_isNamed 78 [some (.ref 89), some (.int x231), some (.int x232), some (.int x233), some (.int x234), some (.int x235), some (.int 4), none] [.int c244.1] (HM P c244.2 T) 0 0 _
              refine ev_go 1 (pc' := 79) (L' := [some (.ref 89), some (.int x231), some (.int x232), some (.int x233), some (.int x234), some (.int x235), some (.int 4), none]) (st' := [.int x233, .int c244.1]) (h' := (HM P c244.2 T)) (cs' := 0) (sl' := 0) rfl ?_
              rcases ai_ifE h with ⟨hc, h⟩ | ⟨hc, h⟩
              · refine ev_ic_ne (t := 86) rfl rfl (fun c9 => absurd hc c9) (fun _ => ?_)
                refine ev_go 6 (pc' := 96) (L' := [some (.ref 89), some (.int x231), some (.int x232), some (.int x233), some (.int x234), some (.int x235), some (.int 4), some (.int 1)]) (st' := [.int x234]) (h' := (HM P c244.2 T)) (cs' := 0) (sl' := 0) rfl ?_
                rcases ai_ifE h with ⟨hc, h⟩ | ⟨hc, h⟩
                · refine ev_if_eq (t := 114) rfl rfl (fun _ => ?_) (fun c9 => absurd hc c9)
                  refine ev_go 1 (pc' := 116) (L' := [some (.ref 89), some (.int x231), some (.int x232), some (.int x233), some (.int x234), some (.int x235), some (.int 4), some (.int 1)]) (st' := [.int x235]) (h' := (HM P c244.2 T)) (cs' := 0) (sl' := 0) rfl ?_
                  rcases ai_ifE h with ⟨hc, h⟩ | ⟨hc, h⟩
                  · refine ev_if_eq (t := 134) rfl rfl (fun _ => ?_) (fun c9 => absurd hc c9)
                    refine ev_go 2 (pc' := 139) (L' := [some (.ref 89), some (.int x231), some (.int x232), some (.int x233), some (.int x234), some (.int x235), some (.int 4), some (.int 1)]) (st' := [.int 1]) (h' := (HM P c244.2 T)) (cs' := 0) (sl' := 0) rfl ?_
                    obtain ⟨rfl, rfl⟩ := ai_smP h
                    exact ev_end rfl
                  · refine ev_if_eq (t := 134) rfl rfl (fun c9 => absurd c9 hc) (fun _ => ?_)
                    refine ev_go 5 (pc' := 126) (L' := [some (.ref 89), some (.int x231), some (.int x232), some (.int x233), some (.int x234), some (.int x235), some (.int 4), some (.int 1)]) (st' := [.int ((a_m_start c244.2) + 4), .ref 89]) (h' := (HM P c244.2 T)) (cs' := 0) (sl' := 0) rfl ?_
                    obtain ⟨c245, hq, h⟩ := ai_bdE h
                    refine ev_call (M' := mm_byteAt) (L' := [some (.ref 89), some (.int ((a_m_start c244.2) + 4))]) (rest := []) (rv := some (.int c245.1)) (h' := (HM P c245.2 T)) rfl (Em_byteAt_89 ((a_m_start c244.2) + 4) c244.2 _ _ hq P T) ?_
                    show ai_ev D1 mm_isNamed 129 [some (.ref 89), some (.int x231), some (.int x232), some (.int x233), some (.int x234), some (.int x235), some (.int 4), some (.int 1)] [.int c245.1] (HM P c245.2 T) 0 0 _
                    refine ev_go 1 (pc' := 131) (L' := [some (.ref 89), some (.int x231), some (.int x232), some (.int x233), some (.int x234), some (.int x235), some (.int 4), some (.int 1)]) (st' := [.int x235, .int c245.1]) (h' := (HM P c245.2 T)) (cs' := 0) (sl' := 0) rfl ?_
                    rcases ai_ifE h with ⟨hc, h⟩ | ⟨hc, h⟩
                    · refine ev_ic_ne (t := 138) rfl rfl (fun c9 => absurd hc c9) (fun _ => ?_)
                      refine ev_go 2 (pc' := 139) (L' := [some (.ref 89), some (.int x231), some (.int x232), some (.int x233), some (.int x234), some (.int x235), some (.int 4), some (.int 1)]) (st' := [.int 1]) (h' := (HM P c245.2 T)) (cs' := 0) (sl' := 0) rfl ?_
                      obtain ⟨rfl, rfl⟩ := ai_smP h
                      exact ev_end rfl
                    · refine ev_ic_ne (t := 138) rfl rfl (fun _ => ?_) (fun c9 => absurd c9 hc)
                      refine ev_go 1 (pc' := 139) (L' := [some (.ref 89), some (.int x231), some (.int x232), some (.int x233), some (.int x234), some (.int x235), some (.int 4), some (.int 1)]) (st' := [.int 0]) (h' := (HM P c245.2 T)) (cs' := 0) (sl' := 0) rfl ?_
                      obtain ⟨rfl, rfl⟩ := ai_smP h
                      exact ev_end rfl
                · refine ev_if_eq (t := 114) rfl rfl (fun c9 => absurd c9 hc) (fun _ => ?_)
                  refine ev_go 5 (pc' := 106) (L' := [some (.ref 89), some (.int x231), some (.int x232), some (.int x233), some (.int x234), some (.int x235), some (.int 4), some (.int 1)]) (st' := [.int ((a_m_start c244.2) + 3), .ref 89]) (h' := (HM P c244.2 T)) (cs' := 0) (sl' := 0) rfl ?_
                  obtain ⟨c246, hq, h⟩ := ai_bdE h
                  refine ev_call (M' := mm_byteAt) (L' := [some (.ref 89), some (.int ((a_m_start c244.2) + 3))]) (rest := []) (rv := some (.int c246.1)) (h' := (HM P c246.2 T)) rfl (Em_byteAt_89 ((a_m_start c244.2) + 3) c244.2 _ _ hq P T) ?_
                  show ai_ev D1 mm_isNamed 109 [some (.ref 89), some (.int x231), some (.int x232), some (.int x233), some (.int x234), some (.int x235), some (.int 4), some (.int 1)] [.int c246.1] (HM P c246.2 T) 0 0 _
                  refine ev_go 1 (pc' := 111) (L' := [some (.ref 89), some (.int x231), some (.int x232), some (.int x233), some (.int x234), some (.int x235), some (.int 4), some (.int 1)]) (st' := [.int x234, .int c246.1]) (h' := (HM P c246.2 T)) (cs' := 0) (sl' := 0) rfl ?_
                  rcases ai_ifE h with ⟨hc, h⟩ | ⟨hc, h⟩
                  · refine ev_ic_ne (t := 138) rfl rfl (fun c9 => absurd hc c9) (fun _ => ?_)
                    refine ev_go 1 (pc' := 116) (L' := [some (.ref 89), some (.int x231), some (.int x232), some (.int x233), some (.int x234), some (.int x235), some (.int 4), some (.int 1)]) (st' := [.int x235]) (h' := (HM P c246.2 T)) (cs' := 0) (sl' := 0) rfl ?_
                    rcases ai_ifE h with ⟨hc, h⟩ | ⟨hc, h⟩
                    · refine ev_if_eq (t := 134) rfl rfl (fun _ => ?_) (fun c9 => absurd hc c9)
                      refine ev_go 2 (pc' := 139) (L' := [some (.ref 89), some (.int x231), some (.int x232), some (.int x233), some (.int x234), some (.int x235), some (.int 4), some (.int 1)]) (st' := [.int 1]) (h' := (HM P c246.2 T)) (cs' := 0) (sl' := 0) rfl ?_
                      obtain ⟨rfl, rfl⟩ := ai_smP h
                      exact ev_end rfl
                    · refine ev_if_eq (t := 134) rfl rfl (fun c9 => absurd c9 hc) (fun _ => ?_)
                      refine ev_go 5 (pc' := 126) (L' := [some (.ref 89), some (.int x231), some (.int x232), some (.int x233), some (.int x234), some (.int x235), some (.int 4), some (.int 1)]) (st' := [.int ((a_m_start c246.2) + 4), .ref 89]) (h' := (HM P c246.2 T)) (cs' := 0) (sl' := 0) rfl ?_
                      obtain ⟨c247, hq, h⟩ := ai_bdE h
                      refine ev_call (M' := mm_byteAt) (L' := [some (.ref 89), some (.int ((a_m_start c246.2) + 4))]) (rest := []) (rv := some (.int c247.1)) (h' := (HM P c247.2 T)) rfl (Em_byteAt_89 ((a_m_start c246.2) + 4) c246.2 _ _ hq P T) ?_
                      show ai_ev D1 mm_isNamed 129 [some (.ref 89), some (.int x231), some (.int x232), some (.int x233), some (.int x234), some (.int x235), some (.int 4), some (.int 1)] [.int c247.1] (HM P c247.2 T) 0 0 _
                      refine ev_go 1 (pc' := 131) (L' := [some (.ref 89), some (.int x231), some (.int x232), some (.int x233), some (.int x234), some (.int x235), some (.int 4), some (.int 1)]) (st' := [.int x235, .int c247.1]) (h' := (HM P c247.2 T)) (cs' := 0) (sl' := 0) rfl ?_
                      rcases ai_ifE h with ⟨hc, h⟩ | ⟨hc, h⟩
                      · refine ev_ic_ne (t := 138) rfl rfl (fun c9 => absurd hc c9) (fun _ => ?_)
                        refine ev_go 2 (pc' := 139) (L' := [some (.ref 89), some (.int x231), some (.int x232), some (.int x233), some (.int x234), some (.int x235), some (.int 4), some (.int 1)]) (st' := [.int 1]) (h' := (HM P c247.2 T)) (cs' := 0) (sl' := 0) rfl ?_
                        obtain ⟨rfl, rfl⟩ := ai_smP h
                        exact ev_end rfl
                      · refine ev_ic_ne (t := 138) rfl rfl (fun _ => ?_) (fun c9 => absurd c9 hc)
                        refine ev_go 1 (pc' := 139) (L' := [some (.ref 89), some (.int x231), some (.int x232), some (.int x233), some (.int x234), some (.int x235), some (.int 4), some (.int 1)]) (st' := [.int 0]) (h' := (HM P c247.2 T)) (cs' := 0) (sl' := 0) rfl ?_
                        obtain ⟨rfl, rfl⟩ := ai_smP h
                        exact ev_end rfl
                  · refine ev_ic_ne (t := 138) rfl rfl (fun _ => ?_) (fun c9 => absurd c9 hc)
                    refine ev_go 1 (pc' := 139) (L' := [some (.ref 89), some (.int x231), some (.int x232), some (.int x233), some (.int x234), some (.int x235), some (.int 4), some (.int 1)]) (st' := [.int 0]) (h' := (HM P c246.2 T)) (cs' := 0) (sl' := 0) rfl ?_
                    obtain ⟨rfl, rfl⟩ := ai_smP h
                    exact ev_end rfl
              · refine ev_ic_ne (t := 86) rfl rfl (fun _ => ?_) (fun c9 => absurd c9 hc)
                refine ev_go 5 (pc' := 139) (L' := [some (.ref 89), some (.int x231), some (.int x232), some (.int x233), some (.int x234), some (.int x235), some (.int 4), some (.int 0)]) (st' := [.int 0]) (h' := (HM P c244.2 T)) (cs' := 0) (sl' := 0) rfl ?_
                obtain ⟨rfl, rfl⟩ := ai_smP h
                exact ev_end rfl
            · refine ev_ic_ne (t := 86) rfl rfl (fun _ => ?_) (fun c9 => absurd c9 hc)
              refine ev_go 5 (pc' := 139) (L' := [some (.ref 89), some (.int x231), some (.int x232), some (.int x233), some (.int x234), some (.int x235), some (.int 4), some (.int 0)]) (st' := [.int 0]) (h' := (HM P c243.2 T)) (cs' := 0) (sl' := 0) rfl ?_
              obtain ⟨rfl, rfl⟩ := ai_smP h
              exact ev_end rfl
          · refine ev_ic_ne (t := 86) rfl rfl (fun _ => ?_) (fun c9 => absurd c9 hc)
            refine ev_go 5 (pc' := 139) (L' := [some (.ref 89), some (.int x231), some (.int x232), some (.int x233), some (.int x234), some (.int x235), some (.int 4), some (.int 0)]) (st' := [.int 0]) (h' := (HM P c242.2 T)) (cs' := 0) (sl' := 0) rfl ?_
            obtain ⟨rfl, rfl⟩ := ai_smP h
            exact ev_end rfl
        · refine ev_ic_ne (t := 86) rfl rfl (fun _ => ?_) (fun c9 => absurd c9 hc)
          refine ev_go 5 (pc' := 139) (L' := [some (.ref 89), some (.int x231), some (.int x232), some (.int x233), some (.int x234), some (.int x235), some (.int 4), some (.int 0)]) (st' := [.int 0]) (h' := (HM P w T)) (cs' := 0) (sl' := 0) rfl ?_
          obtain ⟨rfl, rfl⟩ := ai_smP h
          exact ev_end rfl
    · refine ev_if_ne (t := 18) rfl rfl (fun _ => ?_) (fun c9 => absurd c9 hc)
      refine ev_go 4 (pc' := 25) (L' := [some (.ref 89), some (.int x231), some (.int x232), some (.int x233), some (.int x234), some (.int x235), some (.int 5), none]) (st' := [.int (a_m_isWord w)]) (h' := (HM P w T)) (cs' := 0) (sl' := 0) rfl ?_
      rcases ai_ifE h with ⟨hc, h⟩ | ⟨hc, h⟩
      · refine ev_if_eq (t := 86) rfl rfl (fun _ => ?_) (fun c9 => absurd hc c9)
        refine ev_go 5 (pc' := 139) (L' := [some (.ref 89), some (.int x231), some (.int x232), some (.int x233), some (.int x234), some (.int x235), some (.int 5), some (.int 0)]) (st' := [.int 0]) (h' := (HM P w T)) (cs' := 0) (sl' := 0) rfl ?_
        obtain ⟨rfl, rfl⟩ := ai_smP h
        exact ev_end rfl
      · refine ev_if_eq (t := 86) rfl rfl (fun c9 => absurd c9 hc) (fun _ => ?_)
        refine ev_go 6 (pc' := 39) (L' := [some (.ref 89), some (.int x231), some (.int x232), some (.int x233), some (.int x234), some (.int x235), some (.int 5), none]) (st' := [.int 5, .int ((a_m_at w) - (a_m_start w))]) (h' := (HM P w T)) (cs' := 0) (sl' := 0) rfl ?_
        rcases ai_ifE h with ⟨hc, h⟩ | ⟨hc, h⟩
        · refine ev_ic_ne (t := 86) rfl rfl (fun c9 => absurd hc c9) (fun _ => ?_)
          refine ev_go 3 (pc' := 47) (L' := [some (.ref 89), some (.int x231), some (.int x232), some (.int x233), some (.int x234), some (.int x235), some (.int 5), none]) (st' := [.int (a_m_start w), .ref 89]) (h' := (HM P w T)) (cs' := 0) (sl' := 0) rfl ?_
          obtain ⟨c236, hq, h⟩ := ai_bdE h
          refine ev_call (M' := mm_byteAt) (L' := [some (.ref 89), some (.int (a_m_start w))]) (rest := []) (rv := some (.int c236.1)) (h' := (HM P c236.2 T)) rfl (Em_byteAt_89 (a_m_start w) w _ _ hq P T) ?_
          show ai_ev D1 mm_isNamed 50 [some (.ref 89), some (.int x231), some (.int x232), some (.int x233), some (.int x234), some (.int x235), some (.int 5), none] [.int c236.1] (HM P c236.2 T) 0 0 _
          refine ev_go 1 (pc' := 51) (L' := [some (.ref 89), some (.int x231), some (.int x232), some (.int x233), some (.int x234), some (.int x235), some (.int 5), none]) (st' := [.int x231, .int c236.1]) (h' := (HM P c236.2 T)) (cs' := 0) (sl' := 0) rfl ?_
          rcases ai_ifE h with ⟨hc, h⟩ | ⟨hc, h⟩
          · refine ev_ic_ne (t := 86) rfl rfl (fun c9 => absurd hc c9) (fun _ => ?_)
            refine ev_go 5 (pc' := 61) (L' := [some (.ref 89), some (.int x231), some (.int x232), some (.int x233), some (.int x234), some (.int x235), some (.int 5), none]) (st' := [.int ((a_m_start c236.2) + 1), .ref 89]) (h' := (HM P c236.2 T)) (cs' := 0) (sl' := 0) rfl ?_
            obtain ⟨c237, hq, h⟩ := ai_bdE h
            refine ev_call (M' := mm_byteAt) (L' := [some (.ref 89), some (.int ((a_m_start c236.2) + 1))]) (rest := []) (rv := some (.int c237.1)) (h' := (HM P c237.2 T)) rfl (Em_byteAt_89 ((a_m_start c236.2) + 1) c236.2 _ _ hq P T) ?_
            show ai_ev D1 mm_isNamed 64 [some (.ref 89), some (.int x231), some (.int x232), some (.int x233), some (.int x234), some (.int x235), some (.int 5), none] [.int c237.1] (HM P c237.2 T) 0 0 _
            refine ev_go 1 (pc' := 65) (L' := [some (.ref 89), some (.int x231), some (.int x232), some (.int x233), some (.int x234), some (.int x235), some (.int 5), none]) (st' := [.int x232, .int c237.1]) (h' := (HM P c237.2 T)) (cs' := 0) (sl' := 0) rfl ?_
            rcases ai_ifE h with ⟨hc, h⟩ | ⟨hc, h⟩
            · refine ev_ic_ne (t := 86) rfl rfl (fun c9 => absurd hc c9) (fun _ => ?_)
              refine ev_go 5 (pc' := 75) (L' := [some (.ref 89), some (.int x231), some (.int x232), some (.int x233), some (.int x234), some (.int x235), some (.int 5), none]) (st' := [.int ((a_m_start c237.2) + 2), .ref 89]) (h' := (HM P c237.2 T)) (cs' := 0) (sl' := 0) rfl ?_
              obtain ⟨c238, hq, h⟩ := ai_bdE h
              refine ev_call (M' := mm_byteAt) (L' := [some (.ref 89), some (.int ((a_m_start c237.2) + 2))]) (rest := []) (rv := some (.int c238.1)) (h' := (HM P c238.2 T)) rfl (Em_byteAt_89 ((a_m_start c237.2) + 2) c237.2 _ _ hq P T) ?_
              show ai_ev D1 mm_isNamed 78 [some (.ref 89), some (.int x231), some (.int x232), some (.int x233), some (.int x234), some (.int x235), some (.int 5), none] [.int c238.1] (HM P c238.2 T) 0 0 _
              refine ev_go 1 (pc' := 79) (L' := [some (.ref 89), some (.int x231), some (.int x232), some (.int x233), some (.int x234), some (.int x235), some (.int 5), none]) (st' := [.int x233, .int c238.1]) (h' := (HM P c238.2 T)) (cs' := 0) (sl' := 0) rfl ?_
              rcases ai_ifE h with ⟨hc, h⟩ | ⟨hc, h⟩
              · refine ev_ic_ne (t := 86) rfl rfl (fun c9 => absurd hc c9) (fun _ => ?_)
                refine ev_go 6 (pc' := 96) (L' := [some (.ref 89), some (.int x231), some (.int x232), some (.int x233), some (.int x234), some (.int x235), some (.int 5), some (.int 1)]) (st' := [.int x234]) (h' := (HM P c238.2 T)) (cs' := 0) (sl' := 0) rfl ?_
                rcases ai_ifE h with ⟨hc, h⟩ | ⟨hc, h⟩
                · refine ev_if_eq (t := 114) rfl rfl (fun _ => ?_) (fun c9 => absurd hc c9)
                  refine ev_go 1 (pc' := 116) (L' := [some (.ref 89), some (.int x231), some (.int x232), some (.int x233), some (.int x234), some (.int x235), some (.int 5), some (.int 1)]) (st' := [.int x235]) (h' := (HM P c238.2 T)) (cs' := 0) (sl' := 0) rfl ?_
                  rcases ai_ifE h with ⟨hc, h⟩ | ⟨hc, h⟩
                  · refine ev_if_eq (t := 134) rfl rfl (fun _ => ?_) (fun c9 => absurd hc c9)
                    refine ev_go 2 (pc' := 139) (L' := [some (.ref 89), some (.int x231), some (.int x232), some (.int x233), some (.int x234), some (.int x235), some (.int 5), some (.int 1)]) (st' := [.int 1]) (h' := (HM P c238.2 T)) (cs' := 0) (sl' := 0) rfl ?_
                    obtain ⟨rfl, rfl⟩ := ai_smP h
                    exact ev_end rfl
                  · refine ev_if_eq (t := 134) rfl rfl (fun c9 => absurd c9 hc) (fun _ => ?_)
                    refine ev_go 5 (pc' := 126) (L' := [some (.ref 89), some (.int x231), some (.int x232), some (.int x233), some (.int x234), some (.int x235), some (.int 5), some (.int 1)]) (st' := [.int ((a_m_start c238.2) + 4), .ref 89]) (h' := (HM P c238.2 T)) (cs' := 0) (sl' := 0) rfl ?_
                    obtain ⟨c239, hq, h⟩ := ai_bdE h
                    refine ev_call (M' := mm_byteAt) (L' := [some (.ref 89), some (.int ((a_m_start c238.2) + 4))]) (rest := []) (rv := some (.int c239.1)) (h' := (HM P c239.2 T)) rfl (Em_byteAt_89 ((a_m_start c238.2) + 4) c238.2 _ _ hq P T) ?_
                    show ai_ev D1 mm_isNamed 129 [some (.ref 89), some (.int x231), some (.int x232), some (.int x233), some (.int x234), some (.int x235), some (.int 5), some (.int 1)] [.int c239.1] (HM P c239.2 T) 0 0 _
                    refine ev_go 1 (pc' := 131) (L' := [some (.ref 89), some (.int x231), some (.int x232), some (.int x233), some (.int x234), some (.int x235), some (.int 5), some (.int 1)]) (st' := [.int x235, .int c239.1]) (h' := (HM P c239.2 T)) (cs' := 0) (sl' := 0) rfl ?_
                    rcases ai_ifE h with ⟨hc, h⟩ | ⟨hc, h⟩
                    · refine ev_ic_ne (t := 138) rfl rfl (fun c9 => absurd hc c9) (fun _ => ?_)
                      refine ev_go 2 (pc' := 139) (L' := [some (.ref 89), some (.int x231), some (.int x232), some (.int x233), some (.int x234), some (.int x235), some (.int 5), some (.int 1)]) (st' := [.int 1]) (h' := (HM P c239.2 T)) (cs' := 0) (sl' := 0) rfl ?_
                      obtain ⟨rfl, rfl⟩ := ai_smP h
                      exact ev_end rfl
                    · refine ev_ic_ne (t := 138) rfl rfl (fun _ => ?_) (fun c9 => absurd c9 hc)
                      refine ev_go 1 (pc' := 139) (L' := [some (.ref 89), some (.int x231), some (.int x232), some (.int x233), some (.int x234), some (.int x235), some (.int 5), some (.int 1)]) (st' := [.int 0]) (h' := (HM P c239.2 T)) (cs' := 0) (sl' := 0) rfl ?_
                      obtain ⟨rfl, rfl⟩ := ai_smP h
                      exact ev_end rfl
                · refine ev_if_eq (t := 114) rfl rfl (fun c9 => absurd c9 hc) (fun _ => ?_)
                  refine ev_go 5 (pc' := 106) (L' := [some (.ref 89), some (.int x231), some (.int x232), some (.int x233), some (.int x234), some (.int x235), some (.int 5), some (.int 1)]) (st' := [.int ((a_m_start c238.2) + 3), .ref 89]) (h' := (HM P c238.2 T)) (cs' := 0) (sl' := 0) rfl ?_
                  obtain ⟨c240, hq, h⟩ := ai_bdE h
                  refine ev_call (M' := mm_byteAt) (L' := [some (.ref 89), some (.int ((a_m_start c238.2) + 3))]) (rest := []) (rv := some (.int c240.1)) (h' := (HM P c240.2 T)) rfl (Em_byteAt_89 ((a_m_start c238.2) + 3) c238.2 _ _ hq P T) ?_
                  show ai_ev D1 mm_isNamed 109 [some (.ref 89), some (.int x231), some (.int x232), some (.int x233), some (.int x234), some (.int x235), some (.int 5), some (.int 1)] [.int c240.1] (HM P c240.2 T) 0 0 _
                  refine ev_go 1 (pc' := 111) (L' := [some (.ref 89), some (.int x231), some (.int x232), some (.int x233), some (.int x234), some (.int x235), some (.int 5), some (.int 1)]) (st' := [.int x234, .int c240.1]) (h' := (HM P c240.2 T)) (cs' := 0) (sl' := 0) rfl ?_
                  rcases ai_ifE h with ⟨hc, h⟩ | ⟨hc, h⟩
                  · refine ev_ic_ne (t := 138) rfl rfl (fun c9 => absurd hc c9) (fun _ => ?_)
                    refine ev_go 1 (pc' := 116) (L' := [some (.ref 89), some (.int x231), some (.int x232), some (.int x233), some (.int x234), some (.int x235), some (.int 5), some (.int 1)]) (st' := [.int x235]) (h' := (HM P c240.2 T)) (cs' := 0) (sl' := 0) rfl ?_
                    rcases ai_ifE h with ⟨hc, h⟩ | ⟨hc, h⟩
                    · refine ev_if_eq (t := 134) rfl rfl (fun _ => ?_) (fun c9 => absurd hc c9)
                      refine ev_go 2 (pc' := 139) (L' := [some (.ref 89), some (.int x231), some (.int x232), some (.int x233), some (.int x234), some (.int x235), some (.int 5), some (.int 1)]) (st' := [.int 1]) (h' := (HM P c240.2 T)) (cs' := 0) (sl' := 0) rfl ?_
                      obtain ⟨rfl, rfl⟩ := ai_smP h
                      exact ev_end rfl
                    · refine ev_if_eq (t := 134) rfl rfl (fun c9 => absurd c9 hc) (fun _ => ?_)
                      refine ev_go 5 (pc' := 126) (L' := [some (.ref 89), some (.int x231), some (.int x232), some (.int x233), some (.int x234), some (.int x235), some (.int 5), some (.int 1)]) (st' := [.int ((a_m_start c240.2) + 4), .ref 89]) (h' := (HM P c240.2 T)) (cs' := 0) (sl' := 0) rfl ?_
                      obtain ⟨c241, hq, h⟩ := ai_bdE h
                      refine ev_call (M' := mm_byteAt) (L' := [some (.ref 89), some (.int ((a_m_start c240.2) + 4))]) (rest := []) (rv := some (.int c241.1)) (h' := (HM P c241.2 T)) rfl (Em_byteAt_89 ((a_m_start c240.2) + 4) c240.2 _ _ hq P T) ?_
                      show ai_ev D1 mm_isNamed 129 [some (.ref 89), some (.int x231), some (.int x232), some (.int x233), some (.int x234), some (.int x235), some (.int 5), some (.int 1)] [.int c241.1] (HM P c241.2 T) 0 0 _
                      refine ev_go 1 (pc' := 131) (L' := [some (.ref 89), some (.int x231), some (.int x232), some (.int x233), some (.int x234), some (.int x235), some (.int 5), some (.int 1)]) (st' := [.int x235, .int c241.1]) (h' := (HM P c241.2 T)) (cs' := 0) (sl' := 0) rfl ?_
                      rcases ai_ifE h with ⟨hc, h⟩ | ⟨hc, h⟩
                      · refine ev_ic_ne (t := 138) rfl rfl (fun c9 => absurd hc c9) (fun _ => ?_)
                        refine ev_go 2 (pc' := 139) (L' := [some (.ref 89), some (.int x231), some (.int x232), some (.int x233), some (.int x234), some (.int x235), some (.int 5), some (.int 1)]) (st' := [.int 1]) (h' := (HM P c241.2 T)) (cs' := 0) (sl' := 0) rfl ?_
                        obtain ⟨rfl, rfl⟩ := ai_smP h
                        exact ev_end rfl
                      · refine ev_ic_ne (t := 138) rfl rfl (fun _ => ?_) (fun c9 => absurd c9 hc)
                        refine ev_go 1 (pc' := 139) (L' := [some (.ref 89), some (.int x231), some (.int x232), some (.int x233), some (.int x234), some (.int x235), some (.int 5), some (.int 1)]) (st' := [.int 0]) (h' := (HM P c241.2 T)) (cs' := 0) (sl' := 0) rfl ?_
                        obtain ⟨rfl, rfl⟩ := ai_smP h
                        exact ev_end rfl
                  · refine ev_ic_ne (t := 138) rfl rfl (fun _ => ?_) (fun c9 => absurd c9 hc)
                    refine ev_go 1 (pc' := 139) (L' := [some (.ref 89), some (.int x231), some (.int x232), some (.int x233), some (.int x234), some (.int x235), some (.int 5), some (.int 1)]) (st' := [.int 0]) (h' := (HM P c240.2 T)) (cs' := 0) (sl' := 0) rfl ?_
                    obtain ⟨rfl, rfl⟩ := ai_smP h
                    exact ev_end rfl
              · refine ev_ic_ne (t := 86) rfl rfl (fun _ => ?_) (fun c9 => absurd c9 hc)
                refine ev_go 5 (pc' := 139) (L' := [some (.ref 89), some (.int x231), some (.int x232), some (.int x233), some (.int x234), some (.int x235), some (.int 5), some (.int 0)]) (st' := [.int 0]) (h' := (HM P c238.2 T)) (cs' := 0) (sl' := 0) rfl ?_
                obtain ⟨rfl, rfl⟩ := ai_smP h
                exact ev_end rfl
            · refine ev_ic_ne (t := 86) rfl rfl (fun _ => ?_) (fun c9 => absurd c9 hc)
              refine ev_go 5 (pc' := 139) (L' := [some (.ref 89), some (.int x231), some (.int x232), some (.int x233), some (.int x234), some (.int x235), some (.int 5), some (.int 0)]) (st' := [.int 0]) (h' := (HM P c237.2 T)) (cs' := 0) (sl' := 0) rfl ?_
              obtain ⟨rfl, rfl⟩ := ai_smP h
              exact ev_end rfl
          · refine ev_ic_ne (t := 86) rfl rfl (fun _ => ?_) (fun c9 => absurd c9 hc)
            refine ev_go 5 (pc' := 139) (L' := [some (.ref 89), some (.int x231), some (.int x232), some (.int x233), some (.int x234), some (.int x235), some (.int 5), some (.int 0)]) (st' := [.int 0]) (h' := (HM P c236.2 T)) (cs' := 0) (sl' := 0) rfl ?_
            obtain ⟨rfl, rfl⟩ := ai_smP h
            exact ev_end rfl
        · refine ev_ic_ne (t := 86) rfl rfl (fun _ => ?_) (fun c9 => absurd c9 hc)
          refine ev_go 5 (pc' := 139) (L' := [some (.ref 89), some (.int x231), some (.int x232), some (.int x233), some (.int x234), some (.int x235), some (.int 5), some (.int 0)]) (st' := [.int 0]) (h' := (HM P w T)) (cs' := 0) (sl' := 0) rfl ?_
          obtain ⟨rfl, rfl⟩ := ai_smP h
          exact ev_end rfl
set_option maxHeartbeats 40000000 in
set_option maxRecDepth 100000 in
theorem Em_wordNow_89 (w : WM) (r : Int32) (w' : WM) (h : Fm_wordNow_89 w = some (r, w')) (P : Nat → ai_E) (T : ai_H) : ai_ev D1 mm_wordNow 0 [some (.ref 89)] [] (HM P w T) 0 0 (some (.int r), HM P w' T) := by
  unfold Fm_wordNow_89 at h
  refine ev_go 6 (pc' := 9) (L' := [some (.ref 89)]) (st' := [.int 0, .int 0, .int 97, .int 101, .int 115, .ref 89]) (h' := (HM P w T)) (cs' := 0) (sl' := 0) rfl ?_
  obtain ⟨c254, hq, h⟩ := ai_bdE h
  refine ev_call (M' := mm_isNamed) (L' := [some (.ref 89), some (.int 115), some (.int 101), some (.int 97), some (.int 0), some (.int 0), none, none]) (rest := []) (rv := some (.int c254.1)) (h' := (HM P c254.2 T)) rfl (Em_isNamed_89 115 101 97 0 0 w _ _ hq P T) ?_
  show ai_ev D1 mm_wordNow 12 [some (.ref 89)] [.int c254.1] (HM P c254.2 T) 0 0 _
  rcases ai_ifE h with ⟨hc, h⟩ | ⟨hc, h⟩
  · refine ev_if_eq (t := 17) rfl rfl (fun _ => ?_) (fun c9 => absurd hc c9)
    refine ev_go 6 (pc' := 28) (L' := [some (.ref 89)]) (st' := [.int 114, .int 101, .int 116, .int 97, .int 119, .ref 89]) (h' := (HM P c254.2 T)) (cs' := 0) (sl' := 0) rfl ?_
    obtain ⟨c255, hq, h⟩ := ai_bdE h
    refine ev_call (M' := mm_isNamed) (L' := [some (.ref 89), some (.int 119), some (.int 97), some (.int 116), some (.int 101), some (.int 114), none, none]) (rest := []) (rv := some (.int c255.1)) (h' := (HM P c255.2 T)) rfl (Em_isNamed_89 119 97 116 101 114 c254.2 _ _ hq P T) ?_
    show ai_ev D1 mm_wordNow 31 [some (.ref 89)] [.int c255.1] (HM P c255.2 T) 0 0 _
    rcases ai_ifE h with ⟨hc, h⟩ | ⟨hc, h⟩
    · refine ev_if_eq (t := 36) rfl rfl (fun _ => ?_) (fun c9 => absurd hc c9)
      refine ev_go 6 (pc' := 47) (L' := [some (.ref 89)]) (st' := [.int 107, .int 99, .int 105, .int 104, .int 116, .ref 89]) (h' := (HM P c255.2 T)) (cs' := 0) (sl' := 0) rfl ?_
      obtain ⟨c256, hq, h⟩ := ai_bdE h
      refine ev_call (M' := mm_isNamed) (L' := [some (.ref 89), some (.int 116), some (.int 104), some (.int 105), some (.int 99), some (.int 107), none, none]) (rest := []) (rv := some (.int c256.1)) (h' := (HM P c256.2 T)) rfl (Em_isNamed_89 116 104 105 99 107 c255.2 _ _ hq P T) ?_
      show ai_ev D1 mm_wordNow 50 [some (.ref 89)] [.int c256.1] (HM P c256.2 T) 0 0 _
      rcases ai_ifE h with ⟨hc, h⟩ | ⟨hc, h⟩
      · refine ev_if_eq (t := 55) rfl rfl (fun _ => ?_) (fun c9 => absurd hc c9)
        refine ev_go 6 (pc' := 65) (L' := [some (.ref 89)]) (st' := [.int 0, .int 110, .int 105, .int 107, .int 115, .ref 89]) (h' := (HM P c256.2 T)) (cs' := 0) (sl' := 0) rfl ?_
        obtain ⟨c257, hq, h⟩ := ai_bdE h
        refine ev_call (M' := mm_isNamed) (L' := [some (.ref 89), some (.int 115), some (.int 107), some (.int 105), some (.int 110), some (.int 0), none, none]) (rest := []) (rv := some (.int c257.1)) (h' := (HM P c257.2 T)) rfl (Em_isNamed_89 115 107 105 110 0 c256.2 _ _ hq P T) ?_
        show ai_ev D1 mm_wordNow 68 [some (.ref 89)] [.int c257.1] (HM P c257.2 T) 0 0 _
        rcases ai_ifE h with ⟨hc, h⟩ | ⟨hc, h⟩
        · refine ev_if_eq (t := 73) rfl rfl (fun _ => ?_) (fun c9 => absurd hc c9)
          refine ev_go 6 (pc' := 84) (L' := [some (.ref 89)]) (st' := [.int 103, .int 110, .int 105, .int 104, .int 116, .ref 89]) (h' := (HM P c257.2 T)) (cs' := 0) (sl' := 0) rfl ?_
          obtain ⟨c258, hq, h⟩ := ai_bdE h
          refine ev_call (M' := mm_isNamed) (L' := [some (.ref 89), some (.int 116), some (.int 104), some (.int 105), some (.int 110), some (.int 103), none, none]) (rest := []) (rv := some (.int c258.1)) (h' := (HM P c258.2 T)) rfl (Em_isNamed_89 116 104 105 110 103 c257.2 _ _ hq P T) ?_
          show ai_ev D1 mm_wordNow 87 [some (.ref 89)] [.int c258.1] (HM P c258.2 T) 0 0 _
          rcases ai_ifE h with ⟨hc, h⟩ | ⟨hc, h⟩
          · refine ev_if_eq (t := 92) rfl rfl (fun _ => ?_) (fun c9 => absurd hc c9)
            refine ev_go 6 (pc' := 102) (L' := [some (.ref 89)]) (st' := [.int 0, .int 116, .int 102, .int 105, .int 108, .ref 89]) (h' := (HM P c258.2 T)) (cs' := 0) (sl' := 0) rfl ?_
            obtain ⟨c259, hq, h⟩ := ai_bdE h
            refine ev_call (M' := mm_isNamed) (L' := [some (.ref 89), some (.int 108), some (.int 105), some (.int 102), some (.int 116), some (.int 0), none, none]) (rest := []) (rv := some (.int c259.1)) (h' := (HM P c259.2 T)) rfl (Em_isNamed_89 108 105 102 116 0 c258.2 _ _ hq P T) ?_
            show ai_ev D1 mm_wordNow 105 [some (.ref 89)] [.int c259.1] (HM P c259.2 T) 0 0 _
            rcases ai_ifE h with ⟨hc, h⟩ | ⟨hc, h⟩
            · refine ev_if_eq (t := 110) rfl rfl (fun _ => ?_) (fun c9 => absurd hc c9)
              refine ev_go 6 (pc' := 120) (L' := [some (.ref 89)]) (st' := [.int 0, .int 110, .int 119, .int 111, .int 116, .ref 89]) (h' := (HM P c259.2 T)) (cs' := 0) (sl' := 0) rfl ?_
              obtain ⟨c260, hq, h⟩ := ai_bdE h
              refine ev_call (M' := mm_isNamed) (L' := [some (.ref 89), some (.int 116), some (.int 111), some (.int 119), some (.int 110), some (.int 0), none, none]) (rest := []) (rv := some (.int c260.1)) (h' := (HM P c260.2 T)) rfl (Em_isNamed_89 116 111 119 110 0 c259.2 _ _ hq P T) ?_
              show ai_ev D1 mm_wordNow 123 [some (.ref 89)] [.int c260.1] (HM P c260.2 T) 0 0 _
              rcases ai_ifE h with ⟨hc, h⟩ | ⟨hc, h⟩
              · refine ev_if_eq (t := 131) rfl rfl (fun _ => ?_) (fun c9 => absurd hc c9)
                refine ev_go 6 (pc' := 140) (L' := [some (.ref 89)]) (st' := [.int 0, .int 0, .int 109, .int 97, .int 100, .ref 89]) (h' := (HM P c260.2 T)) (cs' := 0) (sl' := 0) rfl ?_
                obtain ⟨c261, hq, h⟩ := ai_bdE h
                refine ev_call (M' := mm_isNamed) (L' := [some (.ref 89), some (.int 100), some (.int 97), some (.int 109), some (.int 0), some (.int 0), none, none]) (rest := []) (rv := some (.int c261.1)) (h' := (HM P c261.2 T)) rfl (Em_isNamed_89 100 97 109 0 0 c260.2 _ _ hq P T) ?_
                show ai_ev D1 mm_wordNow 143 [some (.ref 89)] [.int c261.1] (HM P c261.2 T) 0 0 _
                rcases ai_ifE h with ⟨hc, h⟩ | ⟨hc, h⟩
                · refine ev_if_eq (t := 151) rfl rfl (fun _ => ?_) (fun c9 => absurd hc c9)
                  refine ev_go 1 (pc' := 152) (L' := [some (.ref 89)]) (st' := [.int (-1)]) (h' := (HM P c261.2 T)) (cs' := 0) (sl' := 0) rfl ?_
                  obtain ⟨rfl, rfl⟩ := ai_smP h
                  exact ev_end rfl
                · refine ev_if_eq (t := 151) rfl rfl (fun c9 => absurd c9 hc) (fun _ => ?_)
                  refine ev_go 2 (pc' := 152) (L' := [some (.ref 89)]) (st' := [.int 7]) (h' := (HM P c261.2 T)) (cs' := 0) (sl' := 0) rfl ?_
                  obtain ⟨rfl, rfl⟩ := ai_smP h
                  exact ev_end rfl
              · refine ev_if_eq (t := 131) rfl rfl (fun c9 => absurd c9 hc) (fun _ => ?_)
                refine ev_go 2 (pc' := 152) (L' := [some (.ref 89)]) (st' := [.int 6]) (h' := (HM P c260.2 T)) (cs' := 0) (sl' := 0) rfl ?_
                obtain ⟨rfl, rfl⟩ := ai_smP h
                exact ev_end rfl
            · refine ev_if_eq (t := 110) rfl rfl (fun c9 => absurd c9 hc) (fun _ => ?_)
              refine ev_go 1 (pc' := 109) (L' := [some (.ref 89)]) (st' := [.int 5]) (h' := (HM P c259.2 T)) (cs' := 0) (sl' := 0) rfl ?_
              obtain ⟨rfl, rfl⟩ := ai_smP h
              exact ev_end rfl
          · refine ev_if_eq (t := 92) rfl rfl (fun c9 => absurd c9 hc) (fun _ => ?_)
            refine ev_go 1 (pc' := 91) (L' := [some (.ref 89)]) (st' := [.int 4]) (h' := (HM P c258.2 T)) (cs' := 0) (sl' := 0) rfl ?_
            obtain ⟨rfl, rfl⟩ := ai_smP h
            exact ev_end rfl
        · refine ev_if_eq (t := 73) rfl rfl (fun c9 => absurd c9 hc) (fun _ => ?_)
          refine ev_go 1 (pc' := 72) (L' := [some (.ref 89)]) (st' := [.int 3]) (h' := (HM P c257.2 T)) (cs' := 0) (sl' := 0) rfl ?_
          obtain ⟨rfl, rfl⟩ := ai_smP h
          exact ev_end rfl
      · refine ev_if_eq (t := 55) rfl rfl (fun c9 => absurd c9 hc) (fun _ => ?_)
        refine ev_go 1 (pc' := 54) (L' := [some (.ref 89)]) (st' := [.int 2]) (h' := (HM P c256.2 T)) (cs' := 0) (sl' := 0) rfl ?_
        obtain ⟨rfl, rfl⟩ := ai_smP h
        exact ev_end rfl
    · refine ev_if_eq (t := 36) rfl rfl (fun c9 => absurd c9 hc) (fun _ => ?_)
      refine ev_go 1 (pc' := 35) (L' := [some (.ref 89)]) (st' := [.int 1]) (h' := (HM P c255.2 T)) (cs' := 0) (sl' := 0) rfl ?_
      obtain ⟨rfl, rfl⟩ := ai_smP h
      exact ev_end rfl
  · refine ev_if_eq (t := 17) rfl rfl (fun c9 => absurd c9 hc) (fun _ => ?_)
    refine ev_go 1 (pc' := 16) (L' := [some (.ref 89)]) (st' := [.int 0]) (h' := (HM P c254.2 T)) (cs' := 0) (sl' := 0) rfl ?_
    obtain ⟨rfl, rfl⟩ := ai_smP h
    exact ev_end rfl
set_option maxHeartbeats 40000000 in
set_option maxRecDepth 100000 in
theorem Em_manyOf (x265 : Int32) (r : Int32) (h : Fm_manyOf x265 = some r) (hh : ai_H) : ai_ev D1 mm_manyOf 0 [some (.int x265)] [] hh 0 0 (some (.int r), hh) := by
  unfold Fm_manyOf at h
  refine ev_go 1 (pc' := 1) (L' := [some (.int x265)]) (st' := [.int x265]) (h' := hh) (cs' := 0) (sl' := 0) rfl ?_
  rcases ai_ifE h with ⟨hc, h⟩ | ⟨hc, h⟩
  · refine ev_if_eq (t := 9) rfl rfl (fun _ => ?_) (fun c9 => absurd hc c9)
    refine ev_go 2 (pc' := 28) (L' := [some (.int x265)]) (st' := [.int 1]) (h' := hh) (cs' := 0) (sl' := 0) rfl ?_
    obtain rfl := Option.some.inj h
    exact ev_end rfl
  · refine ev_if_eq (t := 9) rfl rfl (fun c9 => absurd c9 hc) (fun _ => ?_)
    refine ev_go 2 (pc' := 6) (L' := [some (.int x265)]) (st' := [.int 5, .int x265]) (h' := hh) (cs' := 0) (sl' := 0) rfl ?_
    rcases ai_ifE h with ⟨hc, h⟩ | ⟨hc, h⟩
    · refine ev_ic_le (t := 13) rfl rfl (fun _ => ?_) (fun c9 => absurd hc c9)
      refine ev_go 2 (pc' := 15) (L' := [some (.int x265)]) (st' := [.int 1, .int x265]) (h' := hh) (cs' := 0) (sl' := 0) rfl ?_
      rcases ai_ifE h with ⟨hc, h⟩ | ⟨hc, h⟩
      · refine ev_ic_eq (t := 23) rfl rfl (fun _ => ?_) (fun c9 => absurd hc c9)
        refine ev_go 2 (pc' := 28) (L' := [some (.int x265)]) (st' := [.int 2]) (h' := hh) (cs' := 0) (sl' := 0) rfl ?_
        obtain rfl := Option.some.inj h
        exact ev_end rfl
      · refine ev_ic_eq (t := 23) rfl rfl (fun c9 => absurd c9 hc) (fun _ => ?_)
        refine ev_go 2 (pc' := 20) (L' := [some (.int x265)]) (st' := [.int 3, .int x265]) (h' := hh) (cs' := 0) (sl' := 0) rfl ?_
        rcases ai_ifE h with ⟨hc, h⟩ | ⟨hc, h⟩
        · refine ev_ic_ne (t := 27) rfl rfl (fun c9 => absurd hc c9) (fun _ => ?_)
          refine ev_go 2 (pc' := 28) (L' := [some (.int x265)]) (st' := [.int 2]) (h' := hh) (cs' := 0) (sl' := 0) rfl ?_
          obtain rfl := Option.some.inj h
          exact ev_end rfl
        · refine ev_ic_ne (t := 27) rfl rfl (fun _ => ?_) (fun c9 => absurd c9 hc)
          refine ev_go 1 (pc' := 28) (L' := [some (.int x265)]) (st' := [.int 3]) (h' := hh) (cs' := 0) (sl' := 0) rfl ?_
          obtain rfl := Option.some.inj h
          exact ev_end rfl
    · refine ev_ic_le (t := 13) rfl rfl (fun c9 => absurd c9 hc) (fun _ => ?_)
      refine ev_go 2 (pc' := 28) (L' := [some (.int x265)]) (st' := [.int 1]) (h' := hh) (cs' := 0) (sl' := 0) rfl ?_
      obtain rfl := Option.some.inj h
      exact ev_end rfl
set_option maxHeartbeats 40000000 in
set_option maxRecDepth 100000 in
theorem EGm_takesItem_89 : ∀ n : Nat, (∀ (y263 : Int32) (y264 : Int32) (w : WM) (r : Int32) (w' : WM), Gm_takesItem_89 n 0 y263 y264 0 w = some (r, w') → ∀ (P : Nat → ai_E) (T : ai_H) (o3 : Option Value), ai_ev D1 mm_takesItem 44 [some (.ref 89), some (.int y263), some (.int y264), o3] [] (HM P w T) 0 0 (some (.int r), HM P w' T)) ∧ (∀ (y271 : Int32) (y272 : Int32) (y273 : Int32) (w : WM) (r : Int32) (w' : WM), Gm_takesItem_89 n 1 y271 y272 y273 w = some (r, w') → ∀ (P : Nat → ai_E) (T : ai_H), ai_ev D1 mm_takesItem 93 [some (.ref 89), some (.int y271), some (.int y272), some (.int y273)] [] (HM P w T) 0 0 (some (.int r), HM P w' T)) := by
  intro n
  induction n with
  | zero =>
    exact ⟨(fun _ _ _ _ _ h => by cases h), (fun _ _ _ _ _ _ h => by cases h)⟩
  | succ n ih =>
    obtain ⟨ih0, ih1⟩ := ih
    refine ⟨?_, ?_⟩
    · intro y263 y264 w r w' h P T o3
      simp only [Gm_takesItem_89] at h
      refine ev_go 3 (pc' := 49) (L' := [some (.ref 89), some (.int y263), some (.int y264), o3]) (st' := [.int (a_m_word w), .int y264]) (h' := (HM P w T)) (cs' := 0) (sl' := 0) rfl ?_
      obtain ⟨c266, hq, h⟩ := ai_bdE h
      refine ev_call (M' := mm_manyOf) (L' := [some (.int (a_m_word w))]) (rest := [.int y264]) (rv := some (.int c266)) (h' := (HM P w T)) rfl (Em_manyOf (a_m_word w) _ hq (HM P w T)) ?_
      show ai_ev D1 mm_takesItem 52 [some (.ref 89), some (.int y263), some (.int y264), o3] [.int c266, .int y264] (HM P w T) 0 0 _
      rcases ai_ifE h with ⟨hc, h⟩ | ⟨hc, h⟩
      · refine ev_ic_ge (t := 137) rfl rfl (fun _ => ?_) (fun c9 => absurd hc c9)
        refine ev_go 1 (pc' := 138) (L' := [some (.ref 89), some (.int y263), some (.int y264), o3]) (st' := [.ref 89]) (h' := (HM P w T)) (cs' := 0) (sl' := 0) rfl ?_
        obtain ⟨c267, hq, h⟩ := ai_bdE h
        refine ev_call (M' := mm_token) (L' := [some (.ref 89)]) (rest := []) (rv := none) (h' := (HM P c267 T)) rfl (Em_token_89 n w _ hq P T) ?_
        show ai_ev D1 mm_takesItem 141 [some (.ref 89), some (.int y263), some (.int y264), o3] [] (HM P c267 T) 0 0 _
        refine ev_go 3 (pc' := 146) (L' := [some (.ref 89), some (.int y263), some (.int y264), o3]) (st' := [.int (a_m_start c267), .ref 89]) (h' := (HM P c267 T)) (cs' := 0) (sl' := 0) rfl ?_
        obtain ⟨c268, hq, h⟩ := ai_bdE h
        refine ev_call (M' := mm_byteAt) (L' := [some (.ref 89), some (.int (a_m_start c267))]) (rest := []) (rv := some (.int c268.1)) (h' := (HM P c268.2 T)) rfl (Em_byteAt_89 (a_m_start c267) c267 _ _ hq P T) ?_
        show ai_ev D1 mm_takesItem 149 [some (.ref 89), some (.int y263), some (.int y264), o3] [.int c268.1] (HM P c268.2 T) 0 0 _
        refine ev_go 1 (pc' := 151) (L' := [some (.ref 89), some (.int y263), some (.int y264), o3]) (st' := [.int 59, .int c268.1]) (h' := (HM P c268.2 T)) (cs' := 0) (sl' := 0) rfl ?_
        rcases ai_ifE h with ⟨hc, h⟩ | ⟨hc, h⟩
        · refine ev_ic_ne (t := 158) rfl rfl (fun c9 => absurd hc c9) (fun _ => ?_)
          refine ev_go 2 (pc' := 159) (L' := [some (.ref 89), some (.int y263), some (.int y264), o3]) (st' := [.int 1]) (h' := (HM P c268.2 T)) (cs' := 0) (sl' := 0) rfl ?_
          obtain ⟨rfl, rfl⟩ := ai_smP h
          exact ev_end rfl
        · refine ev_ic_ne (t := 158) rfl rfl (fun _ => ?_) (fun c9 => absurd c9 hc)
          refine ev_go 1 (pc' := 159) (L' := [some (.ref 89), some (.int y263), some (.int y264), o3]) (st' := [.int 0]) (h' := (HM P c268.2 T)) (cs' := 0) (sl' := 0) rfl ?_
          obtain ⟨rfl, rfl⟩ := ai_smP h
          exact ev_end rfl
      · refine ev_ic_ge (t := 137) rfl rfl (fun c9 => absurd c9 hc) (fun _ => ?_)
        refine ev_go 1 (pc' := 56) (L' := [some (.ref 89), some (.int y263), some (.int y264), o3]) (st' := [.ref 89]) (h' := (HM P w T)) (cs' := 0) (sl' := 0) rfl ?_
        obtain ⟨c269, hq, h⟩ := ai_bdE h
        refine ev_call (M' := mm_token) (L' := [some (.ref 89)]) (rest := []) (rv := none) (h' := (HM P c269 T)) rfl (Em_token_89 n w _ hq P T) ?_
        show ai_ev D1 mm_takesItem 59 [some (.ref 89), some (.int y263), some (.int y264), o3] [] (HM P c269 T) 0 0 _
        refine ev_go 2 (pc' := 63) (L' := [some (.ref 89), some (.int y263), some (.int y264), o3]) (st' := [.int (a_m_isFigures c269)]) (h' := (HM P c269 T)) (cs' := 0) (sl' := 0) rfl ?_
        rcases ai_ifE h with ⟨hc, h⟩ | ⟨hc, h⟩
        · refine ev_if_eq (t := 79) rfl rfl (fun _ => ?_) (fun c9 => absurd hc c9)
          refine ev_go 1 (pc' := 80) (L' := [some (.ref 89), some (.int y263), some (.int y264), o3]) (st' := [.int 0]) (h' := (HM P c269 T)) (cs' := 0) (sl' := 0) rfl ?_
          obtain ⟨rfl, rfl⟩ := ai_smP h
          exact ev_end rfl
        · refine ev_if_eq (t := 79) rfl rfl (fun c9 => absurd c9 hc) (fun _ => ?_)
          refine ev_go 6 (pc' := 76) (L' := [some (.ref 89), some (.int y263), some (.int y264), o3]) (st' := [.int 2, .int ((a_m_at c269) - (a_m_start c269))]) (h' := (HM P c269 T)) (cs' := 0) (sl' := 0) rfl ?_
          rcases ai_ifE h with ⟨hc, h⟩ | ⟨hc, h⟩
          · refine ev_ic_le (t := 81) rfl rfl (fun _ => ?_) (fun c9 => absurd hc c9)
            refine ev_go 4 (pc' := 87) (L' := [some (.ref 89), some (.int y263), some (.int y264), o3]) (st' := [.int 0, .int y264, .ref 94]) (h' := (HM P c269 T)) (cs' := 0) (sl' := 0) rfl ?_
            obtain ⟨q270, hq, h⟩ := ai_bdE h
            refine ev_iast rfl rfl hq ?_
            rw [HMs_94]
            refine ev_go 3 (pc' := 93) (L' := [some (.ref 89), some (.int y263), some (.int y264), some (.int (a_m_start c269))]) (st' := []) (h' := (HM P (u_m_numbers c269 q270) T)) (cs' := 0) (sl' := 0) rfl ?_
            exact ih1 _ _ _ _ _ _ h P T
          · refine ev_ic_le (t := 81) rfl rfl (fun c9 => absurd c9 hc) (fun _ => ?_)
            refine ev_go 1 (pc' := 80) (L' := [some (.ref 89), some (.int y263), some (.int y264), o3]) (st' := [.int 0]) (h' := (HM P c269 T)) (cs' := 0) (sl' := 0) rfl ?_
            obtain ⟨rfl, rfl⟩ := ai_smP h
            exact ev_end rfl
    · intro y271 y272 y273 w r w' h P T
      simp only [Gm_takesItem_89] at h
      refine ev_go 3 (pc' := 98) (L' := [some (.ref 89), some (.int y271), some (.int y272), some (.int y273)]) (st' := [.int (a_m_at w), .int y273]) (h' := (HM P w T)) (cs' := 0) (sl' := 0) rfl ?_
      rcases ai_ifE h with ⟨hc, h⟩ | ⟨hc, h⟩
      · refine ev_ic_ge (t := 131) rfl rfl (fun _ => ?_) (fun c9 => absurd hc c9)
        refine ev_go 2 (pc' := 44) (L' := [some (.ref 89), some (.int y271), some (.int (y272 + 1)), some (.int y273)]) (st' := []) (h' := (HM P w T)) (cs' := 0) (sl' := 0) rfl ?_
        exact ih0 _ _ _ _ _ h P T _
      · refine ev_ic_ge (t := 131) rfl rfl (fun c9 => absurd c9 hc) (fun _ => ?_)
        refine ev_go 7 (pc' := 113) (L' := [some (.ref 89), some (.int y271), some (.int y272), some (.int y273)]) (st' := [.int y272, .ref 94, .int 10, .int y272, .ref 94]) (h' := (HM P w T)) (cs' := 0) (sl' := 0) rfl ?_
        obtain ⟨v274, hq, h⟩ := ai_bdE h
        refine ev_iald rfl rfl hq ?_
        refine ev_go 3 (pc' := 117) (L' := [some (.ref 89), some (.int y271), some (.int y272), some (.int y273)]) (st' := [.int y273, .ref 89, .int (10 * v274), .int y272, .ref 94]) (h' := (HM P w T)) (cs' := 0) (sl' := 0) rfl ?_
        obtain ⟨c275, hq, h⟩ := ai_bdE h
        refine ev_call (M' := mm_byteAt) (L' := [some (.ref 89), some (.int y273)]) (rest := [.int (10 * v274), .int y272, .ref 94]) (rv := some (.int c275.1)) (h' := (HM P c275.2 T)) rfl (Em_byteAt_89 y273 w _ _ hq P T) ?_
        show ai_ev D1 mm_takesItem 120 [some (.ref 89), some (.int y271), some (.int y272), some (.int y273)] [.int c275.1, .int (10 * v274), .int y272, .ref 94] (HM P c275.2 T) 0 0 _
        refine ev_go 3 (pc' := 124) (L' := [some (.ref 89), some (.int y271), some (.int y272), some (.int y273)]) (st' := [.int (((10 * v274) + c275.1) - 48), .int y272, .ref 94]) (h' := (HM P c275.2 T)) (cs' := 0) (sl' := 0) rfl ?_
        obtain ⟨q276, hq, h⟩ := ai_bdE h
        refine ev_iast rfl rfl hq ?_
        rw [HMs_94]
        refine ev_go 2 (pc' := 93) (L' := [some (.ref 89), some (.int y271), some (.int y272), some (.int (y273 + 1))]) (st' := []) (h' := (HM P (u_m_numbers c275.2 q276) T)) (cs' := 0) (sl' := 0) rfl ?_
        exact ih1 _ _ _ _ _ _ h P T
set_option maxHeartbeats 40000000 in
set_option maxRecDepth 100000 in
theorem Em_takesItem_89 (n : Nat) (x230 : Int32) (w : WM) (r : Int32) (w' : WM) (h : Fm_takesItem_89 n x230 w = some (r, w')) (P : Nat → ai_E) (T : ai_H) : ai_ev D1 mm_takesItem 0 [some (.ref 89), some (.int x230), none, none] [] (HM P w T) 0 0 (some (.int r), HM P w' T) := by
  unfold Fm_takesItem_89 at h
  obtain ⟨ih0, ih1⟩ := EGm_takesItem_89 n
  refine ev_go 2 (pc' := 2) (L' := [some (.ref 89), some (.int x230), none, none]) (st' := [.ref 89, .ref 89]) (h' := (HM P w T)) (cs' := 0) (sl' := 0) rfl ?_
  obtain ⟨c262, hq, h⟩ := ai_bdE h
  refine ev_call (M' := mm_wordNow) (L' := [some (.ref 89)]) (rest := [.ref 89]) (rv := some (.int c262.1)) (h' := (HM P c262.2 T)) rfl (Em_wordNow_89 w _ _ hq P T) ?_
  show ai_ev D1 mm_takesItem 5 [some (.ref 89), some (.int x230), none, none] [.int c262.1, .ref 89] (HM P c262.2 T) 0 0 _
  refine ev_step rfl rfl rfl (PFM_8_159_89 rfl) ?_
  refine ev_go 3 (pc' := 13) (L' := [some (.ref 89), some (.int x230), none, none]) (st' := [.int (-1), .int c262.1]) (h' := (HM P (u_m_word c262.2 c262.1) T)) (cs' := 0) (sl' := 0) rfl ?_
  rcases ai_ifE h with ⟨hc, h⟩ | ⟨hc, h⟩
  · refine ev_ic_eq (t := 40) rfl rfl (fun _ => ?_) (fun c9 => absurd hc c9)
    refine ev_go 1 (pc' := 41) (L' := [some (.ref 89), some (.int x230), none, none]) (st' := [.int 0]) (h' := (HM P (u_m_word c262.2 c262.1) T)) (cs' := 0) (sl' := 0) rfl ?_
    obtain ⟨rfl, rfl⟩ := ai_smP h
    exact ev_end rfl
  · refine ev_ic_eq (t := 40) rfl rfl (fun c9 => absurd c9 hc) (fun _ => ?_)
    refine ev_go 2 (pc' := 20) (L' := [some (.ref 89), some (.int x230), none, none]) (st' := [.int c262.1]) (h' := (HM P (u_m_word c262.2 c262.1) T)) (cs' := 0) (sl' := 0) rfl ?_
    rcases ai_ifE h with ⟨hc, h⟩ | ⟨hc, h⟩
    · refine ev_if_ne (t := 27) rfl rfl (fun c9 => absurd hc c9) (fun _ => ?_)
      refine ev_go 3 (pc' := 29) (L' := [some (.ref 89), some (.int x230), none, none]) (st' := [.int x230, .int 1]) (h' := (HM P (u_m_word c262.2 c262.1) T)) (cs' := 0) (sl' := 0) rfl ?_
      rcases ai_ifE h with ⟨hc, h⟩ | ⟨hc, h⟩
      · refine ev_if_ne (t := 36) rfl rfl (fun c9 => absurd hc c9) (fun _ => ?_)
        refine ev_go 5 (pc' := 44) (L' := [some (.ref 89), some (.int x230), some (.int 0), none]) (st' := []) (h' := (HM P (u_m_word c262.2 c262.1) T)) (cs' := 0) (sl' := 0) rfl ?_
        exact ih0 _ _ _ _ _ h P T _
      · refine ev_if_ne (t := 36) rfl rfl (fun _ => ?_) (fun c9 => absurd c9 hc)
        refine ev_go 3 (pc' := 41) (L' := [some (.ref 89), some (.int x230), none, none]) (st' := [.int 0]) (h' := (HM P (u_m_word c262.2 c262.1) T)) (cs' := 0) (sl' := 0) rfl ?_
        obtain ⟨rfl, rfl⟩ := ai_smP h
        exact ev_end rfl
    · refine ev_if_ne (t := 27) rfl rfl (fun _ => ?_) (fun c9 => absurd c9 hc)
      refine ev_go 2 (pc' := 29) (L' := [some (.ref 89), some (.int x230), none, none]) (st' := [.int x230, .int 0]) (h' := (HM P (u_m_word c262.2 c262.1) T)) (cs' := 0) (sl' := 0) rfl ?_
      rcases ai_ifE h with ⟨hc, h⟩ | ⟨hc, h⟩
      · refine ev_if_ne (t := 36) rfl rfl (fun c9 => absurd hc c9) (fun _ => ?_)
        refine ev_go 4 (pc' := 41) (L' := [some (.ref 89), some (.int x230), none, none]) (st' := [.int 0]) (h' := (HM P (u_m_word c262.2 c262.1) T)) (cs' := 0) (sl' := 0) rfl ?_
        obtain ⟨rfl, rfl⟩ := ai_smP h
        exact ev_end rfl
      · refine ev_if_ne (t := 36) rfl rfl (fun _ => ?_) (fun c9 => absurd c9 hc)
        refine ev_go 4 (pc' := 44) (L' := [some (.ref 89), some (.int x230), some (.int 0), none]) (st' := []) (h' := (HM P (u_m_word c262.2 c262.1) T)) (cs' := 0) (sl' := 0) rfl ?_
        exact ih0 _ _ _ _ _ h P T _
