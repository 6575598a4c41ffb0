set_option maxHeartbeats 40000000 in
set_option maxRecDepth 100000 in
theorem Em_wordNow_89 (w : WM) (r : Int32) (w' : WM) (h : Fm_wordNow_89 w = some (r, w')) (P : Nat → ai_E) (T : ai_H) : ai_ev D1 mm_wordNow 0 [some (.ref 89)] [] (HM P w T) 0 0 (some (.int r), HM P w' T) := by
  unfold Fm_wordNow_89 at h
  refine ev_go 6 (pc' := 9) (L' := [some (.ref 89)]) (st' := [.int 0, .int 0, .int 97, .int 101, .int 115, .ref 89]) (h' := (HM P w T)) (cs' := 0) (sl' := 0) rfl ?_
  obtain ⟨c254, hq, h⟩ := ai_bdE h
  refine ev_call (M' := mm_isNamed) (L' := [some (.ref 89), some (.int 115), some (.int 101), some (.int 97), some (.int 0), some (.int 0), none, none]) (rest := []) (rv := some (.int c254.1)) (h' := (HM P c254.2 T)) rfl (Em_isNamed_89 115 101 97 0 0 w _ _ hq P T) ?_
  show ai_ev D1 mm_wordNow 12 [some (.ref 89)] [.int c254.1] (HM P c254.2 T) 0 0 _
  rcases ai_ifE h with ⟨hc, h⟩ | ⟨hc, h⟩
  · refine ev_if_eq (t := 17) rfl rfl (fun _ => ?_) (fun c9 => absurd hc c9)
    refine ev_go 6 (pc' := 28) (L' := [some (.ref 89)]) (st' := [.int 114, .int 101, .int 116, .int 97, .int 119, .ref 89]) (h' := (HM P c254.2 T)) (cs' := 0) (sl' := 0) rfl ?_
    obtain ⟨c255, hq, h⟩ := ai_bdE h
    refine ev_call (M' := mm_isNamed) (L' := [some (.ref 89), some (.int 119), some (.int 97), some (.int 116), some (.int 101), some (.int 114), none, none]) (rest := []) (rv := some (.int c255.1)) (h' := (HM P c255.2 T)) rfl (Em_isNamed_89 119 97 116 101 114 c254.2 _ _ hq P T) ?_
    show ai_ev D1 mm_wordNow 31 [some (.ref 89)] [.int c255.1] (HM P c255.2 T) 0 0 _
    rcases ai_ifE h with ⟨hc, h⟩ | ⟨hc, h⟩
    · refine ev_if_eq (t := 36) rfl rfl (fun _ => ?_) (fun c9 => absurd hc c9)
      refine ev_go 6 (pc' := 47) (L' := [some (.ref 89)]) (st' := [.int 107, .int 99, .int 105, .int 104, .int 116, .ref 89]) (h' := (HM P c255.2 T)) (cs' := 0) (sl' := 0) rfl ?_
      obtain ⟨c256, hq, h⟩ := ai_bdE h
      refine ev_call (M' := mm_isNamed) (L' := [some (.ref 89), some (.int 116), some (.int 104), some (.int 105), some (.int 99), some (.int 107), none, none]) (rest := []) (rv := some (.int c256.1)) (h' := (HM P c256.2 T)) rfl (Em_isNamed_89 116 104 105 99 107 c255.2 _ _ hq P T) ?_
      show ai_ev D1 mm_wordNow 50 [some (.ref 89)] [.int c256.1] (HM P c256.2 T) 0 0 _
      rcases ai_ifE h with ⟨hc, h⟩ | ⟨hc, h⟩
      · refine ev_if_eq (t := 55) rfl rfl (fun _ => ?_) (fun c9 => absurd hc c9)
        refine ev_go 6 (pc' := 65) (L' := [some (.ref 89)]) (st' := [.int 0, .int 110, .int 105, .int 107, .int 115, .ref 89]) (h' := (HM P c256.2 T)) (cs' := 0) (sl' := 0) rfl ?_
        obtain ⟨c257, hq, h⟩ := ai_bdE h
        refine ev_call (M' := mm_isNamed) (L' := [some (.ref 89), some (.int 115), some (.int 107), some (.int 105), some (.int 110), some (.int 0), none, none]) (rest := []) (rv := some (.int c257.1)) (h' := (HM P c257.2 T)) rfl (Em_isNamed_89 115 107 105 110 0 c256.2 _ _ hq P T) ?_
        show ai_ev D1 mm_wordNow 68 [some (.ref 89)] [.int c257.1] (HM P c257.2 T) 0 0 _
        rcases ai_ifE h with ⟨hc, h⟩ | ⟨hc, h⟩
        · refine ev_if_eq (t := 73) rfl rfl (fun _ => ?_) (fun c9 => absurd hc c9)
          refine ev_go 6 (pc' := 84) (L' := [some (.ref 89)]) (st' := [.int 103, .int 110, .int 105, .int 104, .int 116, .ref 89]) (h' := (HM P c257.2 T)) (cs' := 0) (sl' := 0) rfl ?_
          obtain ⟨c258, hq, h⟩ := ai_bdE h
          refine ev_call (M' := mm_isNamed) (L' := [some (.ref 89), some (.int 116), some (.int 104), some (.int 105), some (.int 110), some (.int 103), none, none]) (rest := []) (rv := some (.int c258.1)) (h' := (HM P c258.2 T)) rfl (Em_isNamed_89 116 104 105 110 103 c257.2 _ _ hq P T) ?_
          show ai_ev D1 mm_wordNow 87 [some (.ref 89)] [.int c258.1] (HM P c258.2 T) 0 0 _
          rcases ai_ifE h with ⟨hc, h⟩ | ⟨hc, h⟩
          · refine ev_if_eq (t := 92) rfl rfl (fun _ => ?_) (fun c9 => absurd hc c9)
            refine ev_go 6 (pc' := 102) (L' := [some (.ref 89)]) (st' := [.int 0, .int 116, .int 102, .int 105, .int 108, .ref 89]) (h' := (HM P c258.2 T)) (cs' := 0) (sl' := 0) rfl ?_
            obtain ⟨c259, hq, h⟩ := ai_bdE h
            refine ev_call (M' := mm_isNamed) (L' := [some (.ref 89), some (.int 108), some (.int 105), some (.int 102), some (.int 116), some (.int 0), none, none]) (rest := []) (rv := some (.int c259.1)) (h' := (HM P c259.2 T)) rfl (Em_isNamed_89 108 105 102 116 0 c258.2 _ _ hq P T) ?_
            show ai_ev D1 mm_wordNow 105 [some (.ref 89)] [.int c259.1] (HM P c259.2 T) 0 0 _
            rcases ai_ifE h with ⟨hc, h⟩ | ⟨hc, h⟩
            · refine ev_if_eq (t := 110) rfl rfl (fun _ => ?_) (fun c9 => absurd hc c9)
              refine ev_go 6 (pc' := 120) (L' := [some (.ref 89)]) (st' := [.int 0, .int 110, .int 119, .int 111, .int 116, .ref 89]) (h' := (HM P c259.2 T)) (cs' := 0) (sl' := 0) rfl ?_
              obtain ⟨c260, hq, h⟩ := ai_bdE h
              refine ev_call (M' := mm_isNamed) (L' := [some (.ref 89), some (.int 116), some (.int 111), some (.int 119), some (.int 110), some (.int 0), none, none]) (rest := []) (rv := some (.int c260.1)) (h' := (HM P c260.2 T)) rfl (Em_isNamed_89 116 111 119 110 0 c259.2 _ _ hq P T) ?_
              show ai_ev D1 mm_wordNow 123 [some (.ref 89)] [.int c260.1] (HM P c260.2 T) 0 0 _
              rcases ai_ifE h with ⟨hc, h⟩ | ⟨hc, h⟩
              · refine ev_if_eq (t := 131) rfl rfl (fun _ => ?_) (fun c9 => absurd hc c9)
                refine ev_go 6 (pc' := 140) (L' := [some (.ref 89)]) (st' := [.int 0, .int 0, .int 109, .int 97, .int 100, .ref 89]) (h' := (HM P c260.2 T)) (cs' := 0) (sl' := 0) rfl ?_
                obtain ⟨c261, hq, h⟩ := ai_bdE h
                refine ev_call (M' := mm_isNamed) (L' := [some (.ref 89), some (.int 100), some (.int 97), some (.int 109), some (.int 0), some (.int 0), none, none]) (rest := []) (rv := some (.int c261.1)) (h' := (HM P c261.2 T)) rfl (Em_isNamed_89 100 97 109 0 0 c260.2 _ _ hq P T) ?_
                show ai_ev D1 mm_wordNow 143 [some (.ref 89)] [.int c261.1] (HM P c261.2 T) 0 0 _
                rcases ai_ifE h with ⟨hc, h⟩ | ⟨hc, h⟩
                · refine ev_if_eq (t := 151) rfl rfl (fun _ => ?_) (fun c9 => absurd hc c9)
                  refine ev_go 1 (pc' := 152) (L' := [some (.ref 89)]) (st' := [.int (-1)]) (h' := (HM P c261.2 T)) (cs' := 0) (sl' := 0) rfl ?_
                  obtain ⟨rfl, rfl⟩ := ai_smP h
                  exact ev_end rfl
                · refine ev_if_eq (t := 151) rfl rfl (fun c9 => absurd c9 hc) (fun _ => ?_)
                  refine ev_go 2 (pc' := 152) (L' := [some (.ref 89)]) (st' := [.int 7]) (h' := (HM P c261.2 T)) (cs' := 0) (sl' := 0) rfl ?_
                  obtain ⟨rfl, rfl⟩ := ai_smP h
                  exact ev_end rfl
              · refine ev_if_eq (t := 131) rfl rfl (fun c9 => absurd c9 hc) (fun _ => ?_)
                refine ev_go 2 (pc' := 152) (L' := [some (.ref 89)]) (st' := [.int 6]) (h' := (HM P c260.2 T)) (cs' := 0) (sl' := 0) rfl ?_
                obtain ⟨rfl, rfl⟩ := ai_smP h
                exact ev_end rfl
            · refine ev_if_eq (t := 110) rfl rfl (fun c9 => absurd c9 hc) (fun _ => ?_)
              refine ev_go 1 (pc' := 109) (L' := [some (.ref 89)]) (st' := [.int 5]) (h' := (HM P c259.2 T)) (cs' := 0) (sl' := 0) rfl ?_
              obtain ⟨rfl, rfl⟩ := ai_smP h
              exact ev_end rfl
          · refine ev_if_eq (t := 92) rfl rfl (fun c9 => absurd c9 hc) (fun _ => ?_)
            refine ev_go 1 (pc' := 91) (L' := [some (.ref 89)]) (st' := [.int 4]) (h' := (HM P c258.2 T)) (cs' := 0) (sl' := 0) rfl ?_
            obtain ⟨rfl, rfl⟩ := ai_smP h
            exact ev_end rfl
        · refine ev_if_eq (t := 73) rfl rfl (fun c9 => absurd c9 hc) (fun _ => ?_)
          refine ev_go 1 (pc' := 72) (L' := [some (.ref 89)]) (st' := [.int 3]) (h' := (HM P c257.2 T)) (cs' := 0) (sl' := 0) rfl ?_
          obtain ⟨rfl, rfl⟩ := ai_smP h
          exact ev_end rfl
      · refine ev_if_eq (t := 55) rfl rfl (fun c9 => absurd c9 hc) (fun _ => ?_)
        refine ev_go 1 (pc' := 54) (L' := [some (.ref 89)]) (st' := [.int 2]) (h' := (HM P c256.2 T)) (cs' := 0) (sl' := 0) rfl ?_
        obtain ⟨rfl, rfl⟩ := ai_smP h
        exact ev_end rfl
    · refine ev_if_eq (t := 36) rfl rfl (fun c9 => absurd c9 hc) (fun _ => ?_)
      refine ev_go 1 (pc' := 35) (L' := [some (.ref 89)]) (st' := [.int 1]) (h' := (HM P c255.2 T)) (cs' := 0) (sl' := 0) rfl ?_
      obtain ⟨rfl, rfl⟩ := ai_smP h
      exact ev_end rfl
  · refine ev_if_eq (t := 17) rfl rfl (fun c9 => absurd c9 hc) (fun _ => ?_)
    refine ev_go 1 (pc' := 16) (L' := [some (.ref 89)]) (st' := [.int 0]) (h' := (HM P c254.2 T)) (cs' := 0) (sl' := 0) rfl ?_
    obtain ⟨rfl, rfl⟩ := ai_smP h
    exact ev_end rfl
set_option maxHeartbeats 40000000 in
set_option maxRecDepth 100000 in
theorem Em_manyOf (x265 : Int32) (r : Int32) (h : Fm_manyOf x265 = some r) (hh : ai_H) : ai_ev D1 mm_manyOf 0 [some (.int x265)] [] hh 0 0 (some (.int r), hh) := by
  unfold Fm_manyOf at h
  refine ev_go 1 (pc' := 1) (L' := [some (.int x265)]) (st' := [.int x265]) (h' := hh) (cs' := 0) (sl' := 0) rfl ?_
  rcases ai_ifE h with ⟨hc, h⟩ | ⟨hc, h⟩
  · refine ev_if_eq (t := 9) rfl rfl (fun _ => ?_) (fun c9 => absurd hc c9)
    refine ev_go 2 (pc' := 28) (L' := [some (.int x265)]) (st' := [.int 1]) (h' := hh) (cs' := 0) (sl' := 0) rfl ?_
    obtain rfl := Option.some.inj h
    exact ev_end rfl
  · refine ev_if_eq (t := 9) rfl rfl (fun c9 => absurd c9 hc) (fun _ => ?_)
    refine ev_go 2 (pc' := 6) (L' := [some (.int x265)]) (st' := [.int 5, .int x265]) (h' := hh) (cs' := 0) (sl' := 0) rfl ?_
    rcases ai_ifE h with ⟨hc, h⟩ | ⟨hc, h⟩
    · refine ev_ic_le (t := 13) rfl rfl (fun _ => ?_) (fun c9 => absurd hc c9)
      refine ev_go 2 (pc' := 15) (L' := [some (.int x265)]) (st' := [.int 1, .int x265]) (h' := hh) (cs' := 0) (sl' := 0) rfl ?_
      rcases ai_ifE h with ⟨hc, h⟩ | ⟨hc, h⟩
      · refine ev_ic_eq (t := 23) rfl rfl (fun _ => ?_) (fun c9 => absurd hc c9)
        refine ev_go 2 (pc' := 28) (L' := [some (.int x265)]) (st' := [.int 2]) (h' := hh) (cs' := 0) (sl' := 0) rfl ?_
        obtain rfl := Option.some.inj h
        exact ev_end rfl
      · refine ev_ic_eq (t := 23) rfl rfl (fun c9 => absurd c9 hc) (fun _ => ?_)
        refine ev_go 2 (pc' := 20) (L' := [some (.int x265)]) (st' := [.int 3, .int x265]) (h' := hh) (cs' := 0) (sl' := 0) rfl ?_
        rcases ai_ifE h with ⟨hc, h⟩ | ⟨hc, h⟩
        · refine ev_ic_ne (t := 27) rfl rfl (fun c9 => absurd hc c9) (fun _ => ?_)
          refine ev_go 2 (pc' := 28) (L' := [some (.int x265)]) (st' := [.int 2]) (h' := hh) (cs' := 0) (sl' := 0) rfl ?_
          obtain rfl := Option.some.inj h
          exact ev_end rfl
        · refine ev_ic_ne (t := 27) rfl rfl (fun _ => ?_) (fun c9 => absurd c9 hc)
          refine ev_go 1 (pc' := 28) (L' := [some (.int x265)]) (st' := [.int 3]) (h' := hh) (cs' := 0) (sl' := 0) rfl ?_
          obtain rfl := Option.some.inj h
          exact ev_end rfl
    · refine ev_ic_le (t := 13) rfl rfl (fun c9 => absurd c9 hc) (fun _ => ?_)
      refine ev_go 2 (pc' := 28) (L' := [some (.int x265)]) (st' := [.int 1]) (h' := hh) (cs' := 0) (sl' := 0) rfl ?_
      obtain rfl := Option.some.inj h
      exact ev_end rfl
set_option maxHeartbeats 40000000 in
set_option maxRecDepth 100000 in
theorem EGm_takesItem_89 : ∀ n : Nat, (∀ (y263 : Int32) (y264 : Int32) (w : WM) (r : Int32) (w' : WM), Gm_takesItem_89 n 0 y263 y264 0 w = some (r, w') → ∀ (P : Nat → ai_E) (T : ai_H) (o3 : Option Value), ai_ev D1 mm_takesItem 44 [some (.ref 89), some (.int y263), some (.int y264), o3] [] (HM P w T) 0 0 (some (.int r), HM P w' T)) ∧ (∀ (y271 : Int32) (y272 : Int32) (y273 : Int32) (w : WM) (r : Int32) (w' : WM), Gm_takesItem_89 n 1 y271 y272 y273 w = some (r, w') → ∀ (P : Nat → ai_E) (T : ai_H), ai_ev D1 mm_takesItem 93 [some (.ref 89), some (.int y271), some (.int y272), some (.int y273)] [] (HM P w T) 0 0 (some (.int r), HM P w' T)) := by
  intro n
  induction n with
  | zero =>
    exact ⟨(fun _ _ _ _ _ h => by cases h), (fun _ _ _ _ _ _ h => by cases h)⟩
  | succ n ih =>
    obtain ⟨ih0, ih1⟩ := ih
    refine ⟨?_, ?_⟩
    · intro y263 y264 w r w' h P T o3
      simp only [Gm_takesItem_89] at h
      refine ev_go 3 (pc' := 49) (L' := [some (.ref 89), some (.int y263), some (.int y264), o3]) (st' := [.int (a_m_word w), .int y264]) (h' := (HM P w T)) (cs' := 0) (sl' := 0) rfl ?_
      obtain ⟨c266, hq, h⟩ := ai_bdE h
      refine ev_call (M' := mm_manyOf) (L' := [some (.int (a_m_word w))]) (rest := [.int y264]) (rv := some (.int c266)) (h' := (HM P w T)) rfl (Em_manyOf (a_m_word w) _ hq (HM P w T)) ?_
      show ai_ev D1 mm_takesItem 52 [some (.ref 89), some (.int y263), some (.int y264), o3] [.int c266, .int y264] (HM P w T) 0 0 _
      rcases ai_ifE h with ⟨hc, h⟩ | ⟨hc, h⟩
      · refine ev_ic_ge (t := 137) rfl rfl (fun _ => ?_) (fun c9 => absurd hc c9)
        refine ev_go 1 (pc' := 138) (L' := [some (.ref 89), some (.int y263), some (.int y264), o3]) (st' := [.ref 89]) (h' := (HM P w T)) (cs' := 0) (sl' := 0) rfl ?_
        obtain ⟨c267, hq, h⟩ := ai_bdE h
        refine ev_call (M' := mm_token) (L' := [some (.ref 89)]) (rest := []) (rv := none) (h' := (HM P c267 T)) rfl (Em_token_89 n w _ hq P T) ?_
        show ai_ev D1 mm_takesItem 141 [some (.ref 89), some (.int y263), some (.int y264), o3] [] (HM P c267 T) 0 0 _
        refine ev_go 3 (pc' := 146) (L' := [some (.ref 89), some (.int y263), some (.int y264), o3]) (st' := [.int (a_m_start c267), .ref 89]) (h' := (HM P c267 T)) (cs' := 0) (sl' := 0) rfl ?_
        obtain ⟨c268, hq, h⟩ := ai_bdE h
        refine ev_call (M' := mm_byteAt) (L' := [some (.ref 89), some (.int (a_m_start c267))]) (rest := []) (rv := some (.int c268.1)) (h' := (HM P c268.2 T)) rfl (Em_byteAt_89 (a_m_start c267) c267 _ _ hq P T) ?_
        show ai_ev D1 mm_takesItem 149 [some (.ref 89), some (.int y263), some (.int y264), o3] [.int c268.1] (HM P c268.2 T) 0 0 _
        refine ev_go 1 (pc' := 151) (L' := [some (.ref 89), some (.int y263), some (.int y264), o3]) (st' := [.int 59, .int c268.1]) (h' := (HM P c268.2 T)) (cs' := 0) (sl' := 0) rfl ?_
        rcases ai_ifE h with ⟨hc, h⟩ | ⟨hc, h⟩
        · refine ev_ic_ne (t := 158) rfl rfl (fun c9 => absurd hc c9) (fun _ => ?_)
          refine ev_go 2 (pc' := 159) (L' := [some (.ref 89), some (.int y263), some (.int y264), o3]) (st' := [.int 1]) (h' := (HM P c268.2 T)) (cs' := 0) (sl' := 0) rfl ?_
          obtain ⟨rfl, rfl⟩ := ai_smP h
          exact ev_end rfl
        · refine ev_ic_ne (t := 158) rfl rfl (fun _ => ?_) (fun c9 => absurd c9 hc)
          refine ev_go 1 (pc' := 159) (L' := [some (.ref 89), some (.int y263), some (.int y264), o3]) (st' := [.int 0]) (h' := (HM P c268.2 T)) (cs' := 0) (sl' := 0) rfl ?_
          obtain ⟨rfl, rfl⟩ := ai_smP h
          exact ev_end rfl
      · refine ev_ic_ge (t := 137) rfl rfl (fun c9 => absurd c9 hc) (fun _ => ?_)
        refine ev_go 1 (pc' := 56) (L' := [some (.ref 89), some (.int y263), some (.int y264), o3]) (st' := [.ref 89]) (h' := (HM P w T)) (cs' := 0) (sl' := 0) rfl ?_
        obtain ⟨c269, hq, h⟩ := ai_bdE h
        refine ev_call (M' := mm_token) (L' := [some (.ref 89)]) (rest := []) (rv := none) (h' := (HM P c269 T)) rfl (Em_token_89 n w _ hq P T) ?_
        show ai_ev D1 mm_takesItem 59 [some (.ref 89), some (.int y263), some (.int y264), o3] [] (HM P c269 T) 0 0 _
        refine ev_go 2 (pc' := 63) (L' := [some (.ref 89), some (.int y263), some (.int y264), o3]) (st' := [.int (a_m_isFigures c269)]) (h' := (HM P c269 T)) (cs' := 0) (sl' := 0) rfl ?_
        rcases ai_ifE h with ⟨hc, h⟩ | ⟨hc, h⟩
        · refine ev_if_eq (t := 79) rfl rfl (fun _ => ?_) (fun c9 => absurd hc c9)
          refine ev_go 1 (pc' := 80) (L' := [some (.ref 89), some (.int y263), some (.int y264), o3]) (st' := [.int 0]) (h' := (HM P c269 T)) (cs' := 0) (sl' := 0) rfl ?_
          obtain ⟨rfl, rfl⟩ := ai_smP h
          exact ev_end rfl
        · refine ev_if_eq (t := 79) rfl rfl (fun c9 => absurd c9 hc) (fun _ => ?_)
          refine ev_go 6 (pc' := 76) (L' := [some (.ref 89), some (.int y263), some (.int y264), o3]) (st' := [.int 2, .int ((a_m_at c269) - (a_m_start c269))]) (h' := (HM P c269 T)) (cs' := 0) (sl' := 0) rfl ?_
          rcases ai_ifE h with ⟨hc, h⟩ | ⟨hc, h⟩
          · refine ev_ic_le (t := 81) rfl rfl (fun _ => ?_) (fun c9 => absurd hc c9)
            refine ev_go 4 (pc' := 87) (L' := [some (.ref 89), some (.int y263), some (.int y264), o3]) (st' := [.int 0, .int y264, .ref 94]) (h' := (HM P c269 T)) (cs' := 0) (sl' := 0) rfl ?_
            obtain ⟨q270, hq, h⟩ := ai_bdE h
            refine ev_iast rfl rfl hq ?_
            rw [HMs_94]
            refine ev_go 3 (pc' := 93) (L' := [some (.ref 89), some (.int y263), some (.int y264), some (.int (a_m_start c269))]) (st' := []) (h' := (HM P (u_m_numbers c269 q270) T)) (cs' := 0) (sl' := 0) rfl ?_
            exact ih1 _ _ _ _ _ _ h P T
          · refine ev_ic_le (t := 81) rfl rfl (fun c9 => absurd c9 hc) (fun _ => ?_)
            refine ev_go 1 (pc' := 80) (L' := [some (.ref 89), some (.int y263), some (.int y264), o3]) (st' := [.int 0]) (h' := (HM P c269 T)) (cs' := 0) (sl' := 0) rfl ?_
            obtain ⟨rfl, rfl⟩ := ai_smP h
            exact ev_end rfl
    · intro y271 y272 y273 w r w' h P T
      simp only [Gm_takesItem_89] at h
      refine ev_go 3 (pc' := 98) (L' := [some (.ref 89), some (.int y271), some (.int y272), some (.int y273)]) (st' := [.int (a_m_at w), .int y273]) (h' := (HM P w T)) (cs' := 0) (sl' := 0) rfl ?_
      rcases ai_ifE h with ⟨hc, h⟩ | ⟨hc, h⟩
      · refine ev_ic_ge (t := 131) rfl rfl (fun _ => ?_) (fun c9 => absurd hc c9)
        refine ev_go 2 (pc' := 44) (L' := [some (.ref 89), some (.int y271), some (.int (y272 + 1)), some (.int y273)]) (st' := []) (h' := (HM P w T)) (cs' := 0) (sl' := 0) rfl ?_
        exact ih0 _ _ _ _ _ h P T _
      · refine ev_ic_ge (t := 131) rfl rfl (fun c9 => absurd c9 hc) (fun _ => ?_)
        refine ev_go 7 (pc' := 113) (L' := [some (.ref 89), some (.int y271), some (.int y272), some (.int y273)]) (st' := [.int y272, .ref 94, .int 10, .int y272, .ref 94]) (h' := (HM P w T)) (cs' := 0) (sl' := 0) rfl ?_
        obtain ⟨v274, hq, h⟩ := ai_bdE h
        refine ev_iald rfl rfl hq ?_
        refine ev_go 3 (pc' := 117) (L' := [some (.ref 89), some (.int y271), some (.int y272), some (.int y273)]) (st' := [.int y273, .ref 89, .int (10 * v274), .int y272, .ref 94]) (h' := (HM P w T)) (cs' := 0) (sl' := 0) rfl ?_
        obtain ⟨c275, hq, h⟩ := ai_bdE h
        refine ev_call (M' := mm_byteAt) (L' := [some (.ref 89), some (.int y273)]) (rest := [.int (10 * v274), .int y272, .ref 94]) (rv := some (.int c275.1)) (h' := (HM P c275.2 T)) rfl (Em_byteAt_89 y273 w _ _ hq P T) ?_
        show ai_ev D1 mm_takesItem 120 [some (.ref 89), some (.int y271), some (.int y272), some (.int y273)] [.int c275.1, .int (10 * v274), .int y272, .ref 94] (HM P c275.2 T) 0 0 _
        refine ev_go 3 (pc' := 124) (L' := [some (.ref 89), some (.int y271), some (.int y272), some (.int y273)]) (st' := [.int (((10 * v274) + c275.1) - 48), .int y272, .ref 94]) (h' := (HM P c275.2 T)) (cs' := 0) (sl' := 0) rfl ?_
        obtain ⟨q276, hq, h⟩ := ai_bdE h
        refine ev_iast rfl rfl hq ?_
        rw [HMs_94]
        refine ev_go 2 (pc' := 93) (L' := [some (.ref 89), some (.int y271), some (.int y272), some (.int (y273 + 1))]) (st' := []) (h' := (HM P (u_m_numbers c275.2 q276) T)) (cs' := 0) (sl' := 0) rfl ?_
        exact ih1 _ _ _ _ _ _ h P T
set_option maxHeartbeats 40000000 in
set_option maxRecDepth 100000 in
theorem Em_takesItem_89 (n : Nat) (x230 : Int32) (w : WM) (r : Int32) (w' : WM) (h : Fm_takesItem_89 n x230 w = some (r, w')) (P : Nat → ai_E) (T : ai_H) : ai_ev D1 mm_takesItem 0 [some (.ref 89), some (.int x230), none, none] [] (HM P w T) 0 0 (some (.int r), HM P w' T) := by
  unfold Fm_takesItem_89 at h
  obtain ⟨ih0, ih1⟩ := EGm_takesItem_89 n
  refine ev_go 2 (pc' := 2) (L' := [some (.ref 89), some (.int x230), none, none]) (st' := [.ref 89, .ref 89]) (h' := (HM P w T)) (cs' := 0) (sl' := 0) rfl ?_
  obtain ⟨c262, hq, h⟩ := ai_bdE h
  refine ev_call (M' := mm_wordNow) (L' := [some (.ref 89)]) (rest := [.ref 89]) (rv := some (.int c262.1)) (h' := (HM P c262.2 T)) rfl (Em_wordNow_89 w _ _ hq P T) ?_
  show ai_ev D1 mm_takesItem 5 [some (.ref 89), some (.int x230), none, none] [.int c262.1, .ref 89] (HM P c262.2 T) 0 0 _
  refine ev_go 4 (pc' := 13) (L' := [some (.ref 89), some (.int x230), none, none]) (st' := [.int (-1), .int c262.1]) (h' := (HM P (u_m_word c262.2 c262.1) T)) (cs' := 0) (sl' := 0) rfl ?_
  rcases ai_ifE h with ⟨hc, h⟩ | ⟨hc, h⟩
  · refine ev_ic_eq (t := 40) rfl rfl (fun _ => ?_) (fun c9 => absurd hc c9)
    refine ev_go 1 (pc' := 41) (L' := [some (.ref 89), some (.int x230), none, none]) (st' := [.int 0]) (h' := (HM P (u_m_word c262.2 c262.1) T)) (cs' := 0) (sl' := 0) rfl ?_
    obtain ⟨rfl, rfl⟩ := ai_smP h
    exact ev_end rfl
  · refine ev_ic_eq (t := 40) rfl rfl (fun c9 => absurd c9 hc) (fun _ => ?_)
    refine ev_go 2 (pc' := 20) (L' := [some (.ref 89), some (.int x230), none, none]) (st' := [.int c262.1]) (h' := (HM P (u_m_word c262.2 c262.1) T)) (cs' := 0) (sl' := 0) rfl ?_
    rcases ai_ifE h with ⟨hc, h⟩ | ⟨hc, h⟩
    · refine ev_if_ne (t := 27) rfl rfl (fun c9 => absurd hc c9) (fun _ => ?_)
      refine ev_go 3 (pc' := 29) (L' := [some (.ref 89), some (.int x230), none, none]) (st' := [.int x230, .int 1]) (h' := (HM P (u_m_word c262.2 c262.1) T)) (cs' := 0) (sl' := 0) rfl ?_
      rcases ai_ifE h with ⟨hc, h⟩ | ⟨hc, h⟩
      · refine ev_if_ne (t := 36) rfl rfl (fun c9 => absurd hc c9) (fun _ => ?_)
        refine ev_go 5 (pc' := 44) (L' := [some (.ref 89), some (.int x230), some (.int 0), none]) (st' := []) (h' := (HM P (u_m_word c262.2 c262.1) T)) (cs' := 0) (sl' := 0) rfl ?_
        exact ih0 _ _ _ _ _ h P T _
      · refine ev_if_ne (t := 36) rfl rfl (fun _ => ?_) (fun c9 => absurd c9 hc)
        refine ev_go 3 (pc' := 41) (L' := [some (.ref 89), some (.int x230), none, none]) (st' := [.int 0]) (h' := (HM P (u_m_word c262.2 c262.1) T)) (cs' := 0) (sl' := 0) rfl ?_
        obtain ⟨rfl, rfl⟩ := ai_smP h
        exact ev_end rfl
    · refine ev_if_ne (t := 27) rfl rfl (fun _ => ?_) (fun c9 => absurd c9 hc)
      refine ev_go 2 (pc' := 29) (L' := [some (.ref 89), some (.int x230), none, none]) (st' := [.int x230, .int 0]) (h' := (HM P (u_m_word c262.2 c262.1) T)) (cs' := 0) (sl' := 0) rfl ?_
      rcases ai_ifE h with ⟨hc, h⟩ | ⟨hc, h⟩
      · refine ev_if_ne (t := 36) rfl rfl (fun c9 => absurd hc c9) (fun _ => ?_)
        refine ev_go 4 (pc' := 41) (L' := [some (.ref 89), some (.int x230), none, none]) (st' := [.int 0]) (h' := (HM P (u_m_word c262.2 c262.1) T)) (cs' := 0) (sl' := 0) rfl ?_
        obtain ⟨rfl, rfl⟩ := ai_smP h
        exact ev_end rfl
      · refine ev_if_ne (t := 36) rfl rfl (fun _ => ?_) (fun c9 => absurd c9 hc)
        refine ev_go 4 (pc' := 44) (L' := [some (.ref 89), some (.int x230), some (.int 0), none]) (st' := []) (h' := (HM P (u_m_word c262.2 c262.1) T)) (cs' := 0) (sl' := 0) rfl ?_
        exact ih0 _ _ _ _ _ h P T _
set_option maxHeartbeats 40000000 in
set_option maxRecDepth 100000 in
theorem Em_done_89 (n : Nat) (w : WM) (r : Int32) (w' : WM) (h : Fm_done_89 n w = some (r, w')) (P : Nat → ai_E) (T : ai_H) : ai_ev D1 mm_done 0 [some (.ref 89)] [] (HM P w T) 0 0 (some (.int r), HM P w' T) := by
  unfold Fm_done_89 at h
  refine ev_go 2 (pc' := 4) (L' := [some (.ref 89)]) (st' := [.int (a_m_word w)]) (h' := (HM P w T)) (cs' := 0) (sl' := 0) rfl ?_
  rcases ai_ifE h with ⟨hc, h⟩ | ⟨hs0, h⟩
  · refine ev_swi (k := 0) (t := 48) rfl hc (by decide) (by decide) rfl rfl ?_
    refine ev_go 5 (pc' := 57) (L' := [some (.ref 89)]) (st' := [.int 0, .ref 94, .int 447, .ref 89]) (h' := (HM P w T)) (cs' := 0) (sl' := 0) rfl ?_
    obtain ⟨v279, hq, h⟩ := ai_bdE h
    refine ev_iald rfl rfl hq ?_
    obtain ⟨c280, hq, h⟩ := ai_bdE h
    refine ev_call (M' := mm_seaTo) (L' := [some (.ref 89), some (.int 447), some (.int v279), none]) (rest := []) (rv := some (.int c280.1)) (h' := (HM P c280.2 T)) rfl (Em_seaTo_89 n 447 v279 w _ _ hq P T) ?_
    show ai_ev D1 mm_done 61 [some (.ref 89)] [.int c280.1] (HM P c280.2 T) 0 0 _
    obtain ⟨rfl, rfl⟩ := ai_smP h
    exact ev_end rfl
  rcases ai_ifE h with ⟨hc, h⟩ | ⟨hs1, h⟩
  · refine ev_swi (k := 1) (t := 62) rfl hc (by decide) (by decide) rfl rfl ?_
    refine ev_go 5 (pc' := 71) (L' := [some (.ref 89)]) (st' := [.int 0, .ref 94, .int 447, .ref 89]) (h' := (HM P w T)) (cs' := 0) (sl' := 0) rfl ?_
    obtain ⟨v281, hq, h⟩ := ai_bdE h
    refine ev_iald rfl rfl hq ?_
    refine ev_go 3 (pc' := 77) (L' := [some (.ref 89)]) (st' := [.int 1, .ref 94, .int v281, .int 447, .ref 89]) (h' := (HM P w T)) (cs' := 0) (sl' := 0) rfl ?_
    obtain ⟨v282, hq, h⟩ := ai_bdE h
    refine ev_iald rfl rfl hq ?_
    obtain ⟨c283, hq, h⟩ := ai_bdE h
    refine ev_call (M' := mm_waterTo) (L' := [some (.ref 89), some (.int 447), some (.int v281), some (.int v282), none]) (rest := []) (rv := some (.int c283.1)) (h' := (HM P c283.2 T)) rfl (Em_waterTo_89 447 v281 v282 w _ _ hq P T) ?_
    show ai_ev D1 mm_done 81 [some (.ref 89)] [.int c283.1] (HM P c283.2 T) 0 0 _
    obtain ⟨rfl, rfl⟩ := ai_smP h
    exact ev_end rfl
  rcases ai_ifE h with ⟨hc, h⟩ | ⟨hs2, h⟩
  · refine ev_swi (k := 2) (t := 82) rfl hc (by decide) (by decide) rfl rfl ?_
    refine ev_go 5 (pc' := 91) (L' := [some (.ref 89)]) (st' := [.int 0, .ref 94, .int 447, .ref 89]) (h' := (HM P w T)) (cs' := 0) (sl' := 0) rfl ?_
    obtain ⟨v284, hq, h⟩ := ai_bdE h
    refine ev_iald rfl rfl hq ?_
    refine ev_go 3 (pc' := 97) (L' := [some (.ref 89)]) (st' := [.int 1, .ref 94, .int v284, .int 447, .ref 89]) (h' := (HM P w T)) (cs' := 0) (sl' := 0) rfl ?_
    obtain ⟨v285, hq, h⟩ := ai_bdE h
    refine ev_iald rfl rfl hq ?_
    refine ev_go 3 (pc' := 103) (L' := [some (.ref 89)]) (st' := [.int 2, .ref 94, .int v285, .int v284, .int 447, .ref 89]) (h' := (HM P w T)) (cs' := 0) (sl' := 0) rfl ?_
    obtain ⟨v286, hq, h⟩ := ai_bdE h
    refine ev_iald rfl rfl hq ?_
    obtain ⟨c287, hq, h⟩ := ai_bdE h
    refine ev_call (M' := mm_thickTo) (L' := [some (.ref 89), some (.int 447), some (.int v284), some (.int v285), some (.int v286)]) (rest := []) (rv := some (.int c287.1)) (h' := (HM P c287.2 T)) rfl (Em_thickTo_89 447 v284 v285 v286 w _ _ hq P T) ?_
    show ai_ev D1 mm_done 107 [some (.ref 89)] [.int c287.1] (HM P c287.2 T) 0 0 _
    obtain ⟨rfl, rfl⟩ := ai_smP h
    exact ev_end rfl
  rcases ai_ifE h with ⟨hc, h⟩ | ⟨hs3, h⟩
  · refine ev_swi (k := 3) (t := 108) rfl hc (by decide) (by decide) rfl rfl ?_
    refine ev_go 5 (pc' := 117) (L' := [some (.ref 89)]) (st' := [.int 0, .ref 94, .int 447, .ref 89]) (h' := (HM P w T)) (cs' := 0) (sl' := 0) rfl ?_
    obtain ⟨v288, hq, h⟩ := ai_bdE h
    refine ev_iald rfl rfl hq ?_
    refine ev_go 3 (pc' := 123) (L' := [some (.ref 89)]) (st' := [.int 1, .ref 94, .int v288, .int 447, .ref 89]) (h' := (HM P w T)) (cs' := 0) (sl' := 0) rfl ?_
    obtain ⟨v289, hq, h⟩ := ai_bdE h
    refine ev_iald rfl rfl hq ?_
    obtain ⟨c290, hq, h⟩ := ai_bdE h
    refine ev_call (M' := mm_skinTo) (L' := [some (.ref 89), some (.int 447), some (.int v288), some (.int v289)]) (rest := []) (rv := some (.int c290.1)) (h' := (HM P c290.2 T)) rfl (Em_skinTo_89 447 v288 v289 w _ _ hq P T) ?_
    show ai_ev D1 mm_done 127 [some (.ref 89)] [.int c290.1] (HM P c290.2 T) 0 0 _
    obtain ⟨rfl, rfl⟩ := ai_smP h
    exact ev_end rfl
  rcases ai_ifE h with ⟨hc, h⟩ | ⟨hs4, h⟩
  · refine ev_swi (k := 4) (t := 128) rfl hc (by decide) (by decide) rfl rfl ?_
    refine ev_go 5 (pc' := 137) (L' := [some (.ref 89)]) (st' := [.int 0, .ref 94, .int 447, .ref 89]) (h' := (HM P w T)) (cs' := 0) (sl' := 0) rfl ?_
    obtain ⟨v291, hq, h⟩ := ai_bdE h
    refine ev_iald rfl rfl hq ?_
    refine ev_go 3 (pc' := 143) (L' := [some (.ref 89)]) (st' := [.int 1, .ref 94, .int v291, .int 447, .ref 89]) (h' := (HM P w T)) (cs' := 0) (sl' := 0) rfl ?_
    obtain ⟨v292, hq, h⟩ := ai_bdE h
    refine ev_iald rfl rfl hq ?_
    refine ev_go 3 (pc' := 149) (L' := [some (.ref 89)]) (st' := [.int 2, .ref 94, .int v292, .int v291, .int 447, .ref 89]) (h' := (HM P w T)) (cs' := 0) (sl' := 0) rfl ?_
    obtain ⟨v293, hq, h⟩ := ai_bdE h
    refine ev_iald rfl rfl hq ?_
    obtain ⟨c294, hq, h⟩ := ai_bdE h
    refine ev_call (M' := mm_thingTo) (L' := [some (.ref 89), some (.int 447), some (.int v291), some (.int v292), some (.int v293), none]) (rest := []) (rv := some (.int c294.1)) (h' := (HM P c294.2 T)) rfl (Em_thingTo_89 447 v291 v292 v293 w _ _ hq P T) ?_
    show ai_ev D1 mm_done 153 [some (.ref 89)] [.int c294.1] (HM P c294.2 T) 0 0 _
    obtain ⟨rfl, rfl⟩ := ai_smP h
    exact ev_end rfl
  rcases ai_ifE h with ⟨hc, h⟩ | ⟨hs5, h⟩
  · refine ev_swi (k := 5) (t := 154) rfl hc (by decide) (by decide) rfl rfl ?_
    refine ev_go 5 (pc' := 163) (L' := [some (.ref 89)]) (st' := [.int 0, .ref 94, .int 447, .ref 89]) (h' := (HM P w T)) (cs' := 0) (sl' := 0) rfl ?_
    obtain ⟨v295, hq, h⟩ := ai_bdE h
    refine ev_iald rfl rfl hq ?_
    refine ev_go 3 (pc' := 169) (L' := [some (.ref 89)]) (st' := [.int 1, .ref 94, .int v295, .int 447, .ref 89]) (h' := (HM P w T)) (cs' := 0) (sl' := 0) rfl ?_
    obtain ⟨v296, hq, h⟩ := ai_bdE h
    refine ev_iald rfl rfl hq ?_
    refine ev_go 3 (pc' := 175) (L' := [some (.ref 89)]) (st' := [.int 2, .ref 94, .int v296, .int v295, .int 447, .ref 89]) (h' := (HM P w T)) (cs' := 0) (sl' := 0) rfl ?_
    obtain ⟨v297, hq, h⟩ := ai_bdE h
    refine ev_iald rfl rfl hq ?_
    obtain ⟨c298, hq, h⟩ := ai_bdE h
    refine ev_call (M' := mm_liftTo) (L' := [some (.ref 89), some (.int 447), some (.int v295), some (.int v296), some (.int v297), none]) (rest := []) (rv := some (.int c298.1)) (h' := (HM P c298.2 T)) rfl (Em_liftTo_89 447 v295 v296 v297 w _ _ hq P T) ?_
    show ai_ev D1 mm_done 179 [some (.ref 89)] [.int c298.1] (HM P c298.2 T) 0 0 _
    obtain ⟨rfl, rfl⟩ := ai_smP h
    exact ev_end rfl
  rcases ai_ifE h with ⟨hc, h⟩ | ⟨hs6, h⟩
  · refine ev_swi (k := 6) (t := 180) rfl hc (by decide) (by decide) rfl rfl ?_
    refine ev_go 5 (pc' := 189) (L' := [some (.ref 89)]) (st' := [.int 0, .ref 94, .int 447, .ref 89]) (h' := (HM P w T)) (cs' := 0) (sl' := 0) rfl ?_
    obtain ⟨v299, hq, h⟩ := ai_bdE h
    refine ev_iald rfl rfl hq ?_
    obtain ⟨c300, hq, h⟩ := ai_bdE h
    refine ev_call (M' := mm_townTo) (L' := [some (.ref 89), some (.int 447), some (.int v299), none, none]) (rest := []) (rv := some (.int c300.1)) (h' := (HM P c300.2 T)) rfl (Em_townTo_89 n 447 v299 w _ _ hq P T) ?_
    show ai_ev D1 mm_done 193 [some (.ref 89)] [.int c300.1] (HM P c300.2 T) 0 0 _
    obtain ⟨rfl, rfl⟩ := ai_smP h
    exact ev_end rfl
  refine ev_swo (t := 194) (lo := 0) (n := 7) rfl (sw_out 0 7 (fun k hk => by match k, hk with | 0, _ => exact hs0 | 1, _ => exact hs1 | 2, _ => exact hs2 | 3, _ => exact hs3 | 4, _ => exact hs4 | 5, _ => exact hs5 | 6, _ => exact hs6 | k + 7, hk => exact absurd hk (by omega))) ⟨rfl, by decide⟩ rfl ?_
  refine ev_go 5 (pc' := 203) (L' := [some (.ref 89)]) (st' := [.int 0, .ref 94, .int 447, .ref 89]) (h' := (HM P w T)) (cs' := 0) (sl' := 0) rfl ?_
  obtain ⟨v301, hq, h⟩ := ai_bdE h
  refine ev_iald rfl rfl hq ?_
  refine ev_go 1 (pc' := 205) (L' := [some (.ref 89)]) (st' := [.int 1, .int v301, .int 447, .ref 89]) (h' := (HM P w T)) (cs' := 0) (sl' := 0) rfl ?_
  obtain ⟨c302, hq, h⟩ := ai_bdE h
  refine ev_call (M' := mm_damTo) (L' := [some (.ref 89), some (.int 447), some (.int v301), some (.int 1)]) (rest := []) (rv := some (.int c302.1)) (h' := (HM P c302.2 T)) rfl (Em_damTo_89 447 v301 1 w _ _ hq P T) ?_
  show ai_ev D1 mm_done 208 [some (.ref 89)] [.int c302.1] (HM P c302.2 T) 0 0 _
  obtain ⟨rfl, rfl⟩ := ai_smP h
  exact ev_end rfl
set_option maxHeartbeats 40000000 in
set_option maxRecDepth 100000 in
theorem EGm_copy_89 : ∀ n : Nat, (∀ (y308 : Int32) (y309 : Int32) (y310 : Int32) (w : WM) (w' : WM), Gm_copy_89 n 0 y308 y309 y310 w = some w' → ∀ (P : Nat → ai_E) (T : ai_H), ai_ev D1 mm_copy 2 [some (.ref 89), some (.int y308), some (.int y309), some (.int y310)] [] (HM P w T) 0 0 (none, HM P w' T)) := by
  intro n
  induction n with
  | zero =>
    exact (fun _ _ _ _ _ h => by cases h)
  | succ n ih0 =>
    intro y308 y309 y310 w w' h P T
    simp only [Gm_copy_89] at h
    refine ev_go 2 (pc' := 6) (L' := [some (.ref 89), some (.int y308), some (.int y309), some (.int y310)]) (st' := [.int 149, .int y310]) (h' := (HM P w T)) (cs' := 0) (sl' := 0) rfl ?_
    rcases ai_ifE h with ⟨hc, h⟩ | ⟨hc, h⟩
    · refine ev_ic_ge (t := 31) rfl rfl (fun _ => ?_) (fun c9 => absurd hc c9)
      obtain rfl := Option.some.inj h
      exact ev_end rfl
    · refine ev_ic_ge (t := 31) rfl rfl (fun c9 => absurd c9 hc) (fun _ => ?_)
      refine ev_go 10 (pc' := 23) (L' := [some (.ref 89), some (.int y308), some (.int y309), some (.int y310)]) (st' := [.int (y308 + y310), .ref 90, .int (y309 + y310), .ref 90]) (h' := (HM P w T)) (cs' := 0) (sl' := 0) rfl ?_
      obtain ⟨v311, hq, h⟩ := ai_bdE h
      refine ev_iald rfl rfl hq ?_
      obtain ⟨q312, hq, h⟩ := ai_bdE h
      refine ev_iast rfl rfl hq ?_
      rw [HMs_90]
      refine ev_go 2 (pc' := 2) (L' := [some (.ref 89), some (.int y308), some (.int y309), some (.int (y310 + 1))]) (st' := []) (h' := (HM P (u_m_w w q312) T)) (cs' := 0) (sl' := 0) rfl ?_
      exact ih0 _ _ _ _ _ h P T
set_option maxHeartbeats 40000000 in
set_option maxRecDepth 100000 in
theorem Em_copy_89 (n : Nat) (x306 : Int32) (x307 : Int32) (w : WM) (w' : WM) (h : Fm_copy_89 n x306 x307 w = some w') (P : Nat → ai_E) (T : ai_H) : ai_ev D1 mm_copy 0 [some (.ref 89), some (.int x306), some (.int x307), none] [] (HM P w T) 0 0 (none, HM P w' T) := by
  unfold Fm_copy_89 at h
  have ih0 := EGm_copy_89 n
  refine ev_go 2 (pc' := 2) (L' := [some (.ref 89), some (.int x306), some (.int x307), some (.int 0)]) (st' := []) (h' := (HM P w T)) (cs' := 0) (sl' := 0) rfl ?_
  exact ih0 _ _ _ _ _ h P T
set_option maxHeartbeats 40000000 in
set_option maxRecDepth 100000 in
theorem EGm_read_89 : ∀ n : Nat, (∀ (y228 : Int32) (y229 : Int32) (w : WM) (r : Int32) (w' : WM), Gm_read_89 n 0 y228 y229 w = some (r, w') → ∀ (P : Nat → ai_E) (T : ai_H), ai_ev D1 mm_read 13 [some (.ref 89), some (.int y228), some (.int y229)] [] (HM P w T) 0 0 (some (.int r), HM P w' T)) := by
  intro n
  induction n with
  | zero =>
    exact (fun _ _ _ _ _ h => by cases h)
  | succ n ih0 =>
    intro y228 y229 w r w' h P T
    simp only [Gm_read_89] at h
    refine ev_go 4 (pc' := 21) (L' := [some (.ref 89), some (.int y228), some (.int y229)]) (st' := [.int (a_m_texted w), .int (a_m_start w)]) (h' := (HM P w T)) (cs' := 0) (sl' := 0) rfl ?_
    rcases ai_ifE h with ⟨hc, h⟩ | ⟨hc, h⟩
    · refine ev_ic_lt (t := 28) rfl rfl (fun _ => ?_) (fun c9 => absurd hc c9)
      refine ev_go 2 (pc' := 30) (L' := [some (.ref 89), some (.int y228), some (.int y229)]) (st' := [.int y228, .ref 89]) (h' := (HM P w T)) (cs' := 0) (sl' := 0) rfl ?_
      obtain ⟨c277, hq, h⟩ := ai_bdE h
      refine ev_call (M' := mm_takesItem) (L' := [some (.ref 89), some (.int y228), none, none]) (rest := []) (rv := some (.int c277.1)) (h' := (HM P c277.2 T)) rfl (Em_takesItem_89 n y228 w _ _ hq P T) ?_
      show ai_ev D1 mm_read 33 [some (.ref 89), some (.int y228), some (.int y229)] [.int c277.1] (HM P c277.2 T) 0 0 _
      rcases ai_ifE h with ⟨hc, h⟩ | ⟨hc, h⟩
      · refine ev_if_ne (t := 44) rfl rfl (fun c9 => absurd hc c9) (fun _ => ?_)
        refine ev_go 4 (pc' := 43) (L' := [some (.ref 89), some (.int y228), some (.int y229)]) (st' := [.int ((-10) - (a_m_start c277.2))]) (h' := (HM P c277.2 T)) (cs' := 0) (sl' := 0) rfl ?_
        obtain ⟨rfl, rfl⟩ := ai_smP h
        exact ev_end rfl
      · refine ev_if_ne (t := 44) rfl rfl (fun _ => ?_) (fun c9 => absurd c9 hc)
        refine ev_go 2 (pc' := 46) (L' := [some (.ref 89), some (.int y228), some (.int y229)]) (st' := [.int (-1), .int y229]) (h' := (HM P c277.2 T)) (cs' := 0) (sl' := 0) rfl ?_
        rcases ai_ifE h with ⟨hc, h⟩ | ⟨hc, h⟩
        · refine ev_ic_ne (t := 61) rfl rfl (fun c9 => absurd hc c9) (fun _ => ?_)
          refine ev_go 1 (pc' := 50) (L' := [some (.ref 89), some (.int y228), some (.int y229)]) (st' := [.ref 89]) (h' := (HM P c277.2 T)) (cs' := 0) (sl' := 0) rfl ?_
          obtain ⟨c303, hq, h⟩ := ai_bdE h
          refine ev_call (M' := mm_done) (L' := [some (.ref 89)]) (rest := []) (rv := some (.int c303.1)) (h' := (HM P c303.2 T)) rfl (Em_done_89 n c277.2 _ _ hq P T) ?_
          show ai_ev D1 mm_read 53 [some (.ref 89), some (.int y228), some (.int y229)] [.int c303.1] (HM P c303.2 T) 0 0 _
          refine ev_go 1 (pc' := 54) (L' := [some (.ref 89), some (.int y228), some (.int y229)]) (st' := [.int (-1), .int c303.1]) (h' := (HM P c303.2 T)) (cs' := 0) (sl' := 0) rfl ?_
          rcases ai_ifE h with ⟨hc, h⟩ | ⟨hc, h⟩
          · refine ev_ic_ge (t := 61) rfl rfl (fun _ => ?_) (fun c9 => absurd hc c9)
            refine ev_go 4 (pc' := 67) (L' := [some (.ref 89), some (.int (y228 + 1)), some (.int y229)]) (st' := [.ref 89]) (h' := (HM P c303.2 T)) (cs' := 0) (sl' := 0) rfl ?_
            obtain ⟨c304, hq, h⟩ := ai_bdE h
            refine ev_call (M' := mm_token) (L' := [some (.ref 89)]) (rest := []) (rv := none) (h' := (HM P c304 T)) rfl (Em_token_89 n c303.2 _ hq P T) ?_
            show ai_ev D1 mm_read 70 [some (.ref 89), some (.int (y228 + 1)), some (.int y229)] [] (HM P c304 T) 0 0 _
            refine ev_go 1 (pc' := 13) (L' := [some (.ref 89), some (.int (y228 + 1)), some (.int y229)]) (st' := []) (h' := (HM P c304 T)) (cs' := 0) (sl' := 0) rfl ?_
            exact ih0 _ _ _ _ _ h P T
          · refine ev_ic_ge (t := 61) rfl rfl (fun c9 => absurd c9 hc) (fun _ => ?_)
            refine ev_go 5 (pc' := 67) (L' := [some (.ref 89), some (.int (y228 + 1)), some (.int y228)]) (st' := [.ref 89]) (h' := (HM P c303.2 T)) (cs' := 0) (sl' := 0) rfl ?_
            obtain ⟨c305, hq, h⟩ := ai_bdE h
            refine ev_call (M' := mm_token) (L' := [some (.ref 89)]) (rest := []) (rv := none) (h' := (HM P c305 T)) rfl (Em_token_89 n c303.2 _ hq P T) ?_
            show ai_ev D1 mm_read 70 [some (.ref 89), some (.int (y228 + 1)), some (.int y228)] [] (HM P c305 T) 0 0 _
            refine ev_go 1 (pc' := 13) (L' := [some (.ref 89), some (.int (y228 + 1)), some (.int y228)]) (st' := []) (h' := (HM P c305 T)) (cs' := 0) (sl' := 0) rfl ?_
            exact ih0 _ _ _ _ _ h P T
        · refine ev_ic_ne (t := 61) rfl rfl (fun _ => ?_) (fun c9 => absurd c9 hc)
          refine ev_go 4 (pc' := 67) (L' := [some (.ref 89), some (.int (y228 + 1)), some (.int y229)]) (st' := [.ref 89]) (h' := (HM P c277.2 T)) (cs' := 0) (sl' := 0) rfl ?_
          obtain ⟨c278, hq, h⟩ := ai_bdE h
          refine ev_call (M' := mm_token) (L' := [some (.ref 89)]) (rest := []) (rv := none) (h' := (HM P c278 T)) rfl (Em_token_89 n c277.2 _ hq P T) ?_
          show ai_ev D1 mm_read 70 [some (.ref 89), some (.int (y228 + 1)), some (.int y229)] [] (HM P c278 T) 0 0 _
          refine ev_go 1 (pc' := 13) (L' := [some (.ref 89), some (.int (y228 + 1)), some (.int y229)]) (st' := []) (h' := (HM P c278 T)) (cs' := 0) (sl' := 0) rfl ?_
          exact ih0 _ _ _ _ _ h P T
    · refine ev_ic_lt (t := 28) rfl rfl (fun c9 => absurd c9 hc) (fun _ => ?_)
      refine ev_go 1 (pc' := 25) (L' := [some (.ref 89), some (.int y228), some (.int y229)]) (st' := [.int y228]) (h' := (HM P w T)) (cs' := 0) (sl' := 0) rfl ?_
      rcases ai_ifE h with ⟨hc, h⟩ | ⟨hc, h⟩
      · refine ev_if_ne (t := 73) rfl rfl (fun c9 => absurd hc c9) (fun _ => ?_)
        refine ev_go 2 (pc' := 30) (L' := [some (.ref 89), some (.int y228), some (.int y229)]) (st' := [.int y228, .ref 89]) (h' := (HM P w T)) (cs' := 0) (sl' := 0) rfl ?_
        obtain ⟨c314, hq, h⟩ := ai_bdE h
        refine ev_call (M' := mm_takesItem) (L' := [some (.ref 89), some (.int y228), none, none]) (rest := []) (rv := some (.int c314.1)) (h' := (HM P c314.2 T)) rfl (Em_takesItem_89 n y228 w _ _ hq P T) ?_
        show ai_ev D1 mm_read 33 [some (.ref 89), some (.int y228), some (.int y229)] [.int c314.1] (HM P c314.2 T) 0 0 _
        rcases ai_ifE h with ⟨hc, h⟩ | ⟨hc, h⟩
        · refine ev_if_ne (t := 44) rfl rfl (fun c9 => absurd hc c9) (fun _ => ?_)
          refine ev_go 4 (pc' := 43) (L' := [some (.ref 89), some (.int y228), some (.int y229)]) (st' := [.int ((-10) - (a_m_start c314.2))]) (h' := (HM P c314.2 T)) (cs' := 0) (sl' := 0) rfl ?_
          obtain ⟨rfl, rfl⟩ := ai_smP h
          exact ev_end rfl
        · refine ev_if_ne (t := 44) rfl rfl (fun _ => ?_) (fun c9 => absurd c9 hc)
          refine ev_go 2 (pc' := 46) (L' := [some (.ref 89), some (.int y228), some (.int y229)]) (st' := [.int (-1), .int y229]) (h' := (HM P c314.2 T)) (cs' := 0) (sl' := 0) rfl ?_
          rcases ai_ifE h with ⟨hc, h⟩ | ⟨hc, h⟩
          · refine ev_ic_ne (t := 61) rfl rfl (fun c9 => absurd hc c9) (fun _ => ?_)
            refine ev_go 1 (pc' := 50) (L' := [some (.ref 89), some (.int y228), some (.int y229)]) (st' := [.ref 89]) (h' := (HM P c314.2 T)) (cs' := 0) (sl' := 0) rfl ?_
            obtain ⟨c316, hq, h⟩ := ai_bdE h
            refine ev_call (M' := mm_done) (L' := [some (.ref 89)]) (rest := []) (rv := some (.int c316.1)) (h' := (HM P c316.2 T)) rfl (Em_done_89 n c314.2 _ _ hq P T) ?_
            show ai_ev D1 mm_read 53 [some (.ref 89), some (.int y228), some (.int y229)] [.int c316.1] (HM P c316.2 T) 0 0 _
            refine ev_go 1 (pc' := 54) (L' := [some (.ref 89), some (.int y228), some (.int y229)]) (st' := [.int (-1), .int c316.1]) (h' := (HM P c316.2 T)) (cs' := 0) (sl' := 0) rfl ?_
            rcases ai_ifE h with ⟨hc, h⟩ | ⟨hc, h⟩
            · refine ev_ic_ge (t := 61) rfl rfl (fun _ => ?_) (fun c9 => absurd hc c9)
              refine ev_go 4 (pc' := 67) (L' := [some (.ref 89), some (.int (y228 + 1)), some (.int y229)]) (st' := [.ref 89]) (h' := (HM P c316.2 T)) (cs' := 0) (sl' := 0) rfl ?_
              obtain ⟨c317, hq, h⟩ := ai_bdE h
              refine ev_call (M' := mm_token) (L' := [some (.ref 89)]) (rest := []) (rv := none) (h' := (HM P c317 T)) rfl (Em_token_89 n c316.2 _ hq P T) ?_
              show ai_ev D1 mm_read 70 [some (.ref 89), some (.int (y228 + 1)), some (.int y229)] [] (HM P c317 T) 0 0 _
              refine ev_go 1 (pc' := 13) (L' := [some (.ref 89), some (.int (y228 + 1)), some (.int y229)]) (st' := []) (h' := (HM P c317 T)) (cs' := 0) (sl' := 0) rfl ?_
              exact ih0 _ _ _ _ _ h P T
            · refine ev_ic_ge (t := 61) rfl rfl (fun c9 => absurd c9 hc) (fun _ => ?_)
              refine ev_go 5 (pc' := 67) (L' := [some (.ref 89), some (.int (y228 + 1)), some (.int y228)]) (st' := [.ref 89]) (h' := (HM P c316.2 T)) (cs' := 0) (sl' := 0) rfl ?_
              obtain ⟨c318, hq, h⟩ := ai_bdE h
              refine ev_call (M' := mm_token) (L' := [some (.ref 89)]) (rest := []) (rv := none) (h' := (HM P c318 T)) rfl (Em_token_89 n c316.2 _ hq P T) ?_
              show ai_ev D1 mm_read 70 [some (.ref 89), some (.int (y228 + 1)), some (.int y228)] [] (HM P c318 T) 0 0 _
              refine ev_go 1 (pc' := 13) (L' := [some (.ref 89), some (.int (y228 + 1)), some (.int y228)]) (st' := []) (h' := (HM P c318 T)) (cs' := 0) (sl' := 0) rfl ?_
              exact ih0 _ _ _ _ _ h P T
          · refine ev_ic_ne (t := 61) rfl rfl (fun _ => ?_) (fun c9 => absurd c9 hc)
            refine ev_go 4 (pc' := 67) (L' := [some (.ref 89), some (.int (y228 + 1)), some (.int y229)]) (st' := [.ref 89]) (h' := (HM P c314.2 T)) (cs' := 0) (sl' := 0) rfl ?_
            obtain ⟨c315, hq, h⟩ := ai_bdE h
            refine ev_call (M' := mm_token) (L' := [some (.ref 89)]) (rest := []) (rv := none) (h' := (HM P c315 T)) rfl (Em_token_89 n c314.2 _ hq P T) ?_
            show ai_ev D1 mm_read 70 [some (.ref 89), some (.int (y228 + 1)), some (.int y229)] [] (HM P c315 T) 0 0 _
            refine ev_go 1 (pc' := 13) (L' := [some (.ref 89), some (.int (y228 + 1)), some (.int y229)]) (st' := []) (h' := (HM P c315 T)) (cs' := 0) (sl' := 0) rfl ?_
            exact ih0 _ _ _ _ _ h P T
      · refine ev_if_ne (t := 73) rfl rfl (fun _ => ?_) (fun c9 => absurd c9 hc)
        refine ev_go 2 (pc' := 75) (L' := [some (.ref 89), some (.int y228), some (.int y229)]) (st' := [.int (-1), .int y229]) (h' := (HM P w T)) (cs' := 0) (sl' := 0) rfl ?_
        rcases ai_ifE h with ⟨hc, h⟩ | ⟨hc, h⟩
        · refine ev_ic_eq (t := 84) rfl rfl (fun _ => ?_) (fun c9 => absurd hc c9)
          refine ev_go 3 (pc' := 89) (L' := [some (.ref 89), some (.int y228), some (.int y229)]) (st' := [.int 0, .int 447, .ref 89]) (h' := (HM P w T)) (cs' := 0) (sl' := 0) rfl ?_
          obtain ⟨c313, hq, h⟩ := ai_bdE h
          refine ev_call (M' := mm_copy) (L' := [some (.ref 89), some (.int 447), some (.int 0), none]) (rest := []) (rv := none) (h' := (HM P c313 T)) rfl (Em_copy_89 n 447 0 w _ hq P T) ?_
          show ai_ev D1 mm_read 92 [some (.ref 89), some (.int y228), some (.int y229)] [] (HM P c313 T) 0 0 _
          refine ev_go 1 (pc' := 93) (L' := [some (.ref 89), some (.int y228), some (.int y229)]) (st' := [.int y228]) (h' := (HM P c313 T)) (cs' := 0) (sl' := 0) rfl ?_
          obtain ⟨rfl, rfl⟩ := ai_smP h
          exact ev_end rfl
        · refine ev_ic_eq (t := 84) rfl rfl (fun c9 => absurd c9 hc) (fun _ => ?_)
          refine ev_go 3 (pc' := 83) (L' := [some (.ref 89), some (.int y228), some (.int y229)]) (st' := [.int ((-1000) - y229)]) (h' := (HM P w T)) (cs' := 0) (sl' := 0) rfl ?_
          obtain ⟨rfl, rfl⟩ := ai_smP h
          exact ev_end rfl
set_option maxHeartbeats 40000000 in
set_option maxRecDepth 100000 in
theorem Em_read_89 (n : Nat) (w : WM) (r : Int32) (w' : WM) (h : Fm_read_89 n w = some (r, w')) (P : Nat → ai_E) (T : ai_H) : ai_ev D1 mm_read 0 [some (.ref 89), none, none] [] (HM P w T) 0 0 (some (.int r), HM P w' T) := by
  unfold Fm_read_89 at h
  have ih0 := EGm_read_89 n
  refine ev_go 8 (pc' := 10) (L' := [some (.ref 89), some (.int 0), some (.int (-1))]) (st' := [.ref 89]) (h' := (HM P (u_m_at w 0) T)) (cs' := 0) (sl' := 0) rfl ?_
  obtain ⟨c227, hq, h⟩ := ai_bdE h
  refine ev_call (M' := mm_token) (L' := [some (.ref 89)]) (rest := []) (rv := none) (h' := (HM P c227 T)) rfl (Em_token_89 n (u_m_at w 0) _ hq P T) ?_
  show ai_ev D1 mm_read 13 [some (.ref 89), some (.int 0), some (.int (-1))] [] (HM P c227 T) 0 0 _
  exact ih0 _ _ _ _ _ h P T
set_option maxHeartbeats 40000000 in
set_option maxRecDepth 100000 in
theorem EGm_hours_89 : ∀ n : Nat, (∀ (y333 : Int32) (y334 : Int32) (w : WM) (r : Int32) (w' : WM), Gm_hours_89 n 0 y333 y334 w = some (r, w') → ∀ (P : Nat → ai_E) (T : ai_H), ai_ev D1 mm_hours 52 [some (.ref 89), some (.int y333), some (.int y334)] [] (HM P w T) 0 0 (some (.int r), HM P w' T)) := by
  intro n
  induction n with
  | zero =>
    exact (fun _ _ _ _ _ h => by cases h)
  | succ n ih0 =>
    intro y333 y334 w r w' h P T
    simp only [Gm_hours_89] at h
    refine ev_go 2 (pc' := 55) (L' := [some (.ref 89), some (.int y333), some (.int y334)]) (st' := [.int 9, .int y334]) (h' := (HM P w T)) (cs' := 0) (sl' := 0) rfl ?_
    rcases ai_ifE h with ⟨hc, h⟩ | ⟨hc, h⟩
    · refine ev_ic_ge (t := 86) rfl rfl (fun _ => ?_) (fun c9 => absurd hc c9)
      refine ev_go 4 (pc' := 93) (L' := [some (.ref 89), some (.int y333), some (.int y334)]) (st' := [.int 7, .ref 90, .int 7, .ref 90]) (h' := (HM P w T)) (cs' := 0) (sl' := 0) rfl ?_
      obtain ⟨v335, hq, h⟩ := ai_bdE h
      refine ev_iald rfl rfl hq ?_
      refine ev_go 2 (pc' := 96) (L' := [some (.ref 89), some (.int y333), some (.int y334)]) (st' := [.int (v335 - 1), .int 7, .ref 90]) (h' := (HM P w T)) (cs' := 0) (sl' := 0) rfl ?_
      obtain ⟨q336, hq, h⟩ := ai_bdE h
      refine ev_iast rfl rfl hq ?_
      rw [HMs_90]
      refine ev_go 6 (pc' := 110) (L' := [some (.ref 89), some (.int y333), some (.int y334)]) (st' := [.int 7, .ref 90, .int 139, .ref 90]) (h' := (HM P (u_m_w w q336) T)) (cs' := 0) (sl' := 0) rfl ?_
      obtain ⟨v337, hq, h⟩ := ai_bdE h
      refine ev_iald rfl rfl hq ?_
      refine ev_go 4 (pc' := 117) (L' := [some (.ref 89), some (.int y333), some (.int y334)]) (st' := [.int 1, .ref 90, .int (139 + v337), .ref 90]) (h' := (HM P (u_m_w w q336) T)) (cs' := 0) (sl' := 0) rfl ?_
      obtain ⟨v338, hq, h⟩ := ai_bdE h
      refine ev_iald rfl rfl hq ?_
      obtain ⟨q339, hq, h⟩ := ai_bdE h
      refine ev_iast rfl rfl hq ?_
      rw [HMs_90]
      refine ev_go 4 (pc' := 126) (L' := [some (.ref 89), some (.int y333), some (.int y334)]) (st' := [.int 7, .ref 90, .int 7, .ref 90]) (h' := (HM P (u_m_w (u_m_w w q336) q339) T)) (cs' := 0) (sl' := 0) rfl ?_
      obtain ⟨v340, hq, h⟩ := ai_bdE h
      refine ev_iald rfl rfl hq ?_
      refine ev_go 2 (pc' := 129) (L' := [some (.ref 89), some (.int y333), some (.int y334)]) (st' := [.int (v340 + 1), .int 7, .ref 90]) (h' := (HM P (u_m_w (u_m_w w q336) q339) T)) (cs' := 0) (sl' := 0) rfl ?_
      obtain ⟨q341, hq, h⟩ := ai_bdE h
      refine ev_iast rfl rfl hq ?_
      rw [HMs_90]
      refine ev_go 4 (pc' := 136) (L' := [some (.ref 89), some (.int y333), some (.int y334)]) (st' := [.int 1, .ref 90, .int 1, .ref 90]) (h' := (HM P (u_m_w (u_m_w (u_m_w w q336) q339) q341) T)) (cs' := 0) (sl' := 0) rfl ?_
      obtain ⟨v342, hq, h⟩ := ai_bdE h
      refine ev_iald rfl rfl hq ?_
      refine ev_go 2 (pc' := 139) (L' := [some (.ref 89), some (.int y333), some (.int y334)]) (st' := [.int (v342 + y333), .int 1, .ref 90]) (h' := (HM P (u_m_w (u_m_w (u_m_w w q336) q339) q341) T)) (cs' := 0) (sl' := 0) rfl ?_
      obtain ⟨q343, hq, h⟩ := ai_bdE h
      refine ev_iast rfl rfl hq ?_
      rw [HMs_90]
      refine ev_go 3 (pc' := 145) (L' := [some (.ref 89), some (.int y333), some (.int y334)]) (st' := [.int 1, .ref 90]) (h' := (HM P (u_m_w (u_m_w (u_m_w (u_m_w w q336) q339) q341) q343) T)) (cs' := 0) (sl' := 0) rfl ?_
      obtain ⟨v344, hq, h⟩ := ai_bdE h
      refine ev_iald rfl rfl hq ?_
      obtain ⟨rfl, rfl⟩ := ai_smP h
      exact ev_end rfl
    · refine ev_ic_ge (t := 86) rfl rfl (fun c9 => absurd c9 hc) (fun _ => ?_)
      refine ev_go 12 (pc' := 78) (L' := [some (.ref 89), some (.int y333), some (.int y334)]) (st' := [.int ((139 + y334) + 1), .ref 90, .int (139 + y334), .ref 90]) (h' := (HM P w T)) (cs' := 0) (sl' := 0) rfl ?_
      obtain ⟨v345, hq, h⟩ := ai_bdE h
      refine ev_iald rfl rfl hq ?_
      obtain ⟨q346, hq, h⟩ := ai_bdE h
      refine ev_iast rfl rfl hq ?_
      rw [HMs_90]
      refine ev_go 2 (pc' := 52) (L' := [some (.ref 89), some (.int y333), some (.int (y334 + 1))]) (st' := []) (h' := (HM P (u_m_w w q346) T)) (cs' := 0) (sl' := 0) rfl ?_
      exact ih0 _ _ _ _ _ h P T
set_option maxHeartbeats 40000000 in
set_option maxRecDepth 100000 in
theorem Em_hours_89 (n : Nat) (x319 : Int32) (w : WM) (r : Int32) (w' : WM) (h : Fm_hours_89 n x319 w = some (r, w')) (P : Nat → ai_E) (T : ai_H) : ai_ev D1 mm_hours 0 [some (.ref 89), some (.int x319), none] [] (HM P w T) 0 0 (some (.int r), HM P w' T) := by
  unfold Fm_hours_89 at h
  have ih0 := EGm_hours_89 n
  refine ev_go 4 (pc' := 6) (L' := [some (.ref 89), some (.int x319), none]) (st' := [.long 99, .long 1, .long (x319).toInt64]) (h' := (HM P w T)) (cs' := 0) (sl' := 0) rfl ?_
  obtain ⟨c320, hq, h⟩ := ai_bdE h
  refine ev_call (M' := mm_in) (L' := [some (.long (x319).toInt64), none, some (.long 1), none, some (.long 99), none]) (rest := []) (rv := some (.int c320)) (h' := (HM P w T)) rfl (Em_in (x319).toInt64 1 99 _ hq (HM P w T)) ?_
  show ai_ev D1 mm_hours 9 [some (.ref 89), some (.int x319), none] [.int c320] (HM P w T) 0 0 _
  rcases ai_ifE h with ⟨hc, h⟩ | ⟨hc, h⟩
  · refine ev_if_ne (t := 17) rfl rfl (fun c9 => absurd hc c9) (fun _ => ?_)
    refine ev_go 1 (pc' := 13) (L' := [some (.ref 89), some (.int x319), none]) (st' := [.ref 89]) (h' := (HM P w T)) (cs' := 0) (sl' := 0) rfl ?_
    obtain ⟨c332, hq, h⟩ := ai_bdE h
    refine ev_call (M' := mm_bad) (L' := [some (.ref 89)]) (rest := []) (rv := some (.int c332.1)) (h' := (HM P c332.2 T)) rfl (Em_bad_89 w _ _ hq P T) ?_
    show ai_ev D1 mm_hours 16 [some (.ref 89), some (.int x319), none] [.int c332.1] (HM P c332.2 T) 0 0 _
    obtain ⟨rfl, rfl⟩ := ai_smP h
    exact ev_end rfl
  · refine ev_if_ne (t := 17) rfl rfl (fun _ => ?_) (fun c9 => absurd c9 hc)
    refine ev_go 3 (pc' := 22) (L' := [some (.ref 89), some (.int x319), none]) (st' := [.int 1, .ref 90]) (h' := (HM P w T)) (cs' := 0) (sl' := 0) rfl ?_
    obtain ⟨v321, hq, h⟩ := ai_bdE h
    refine ev_iald rfl rfl hq ?_
    refine ev_go 3 (pc' := 28) (L' := [some (.ref 89), some (.int x319), none]) (st' := [.int 999, .int (v321 + x319)]) (h' := (HM P w T)) (cs' := 0) (sl' := 0) rfl ?_
    rcases ai_ifE h with ⟨hc, h⟩ | ⟨hc, h⟩
    · refine ev_ic_le (t := 38) rfl rfl (fun _ => ?_) (fun c9 => absurd hc c9)
      refine ev_go 3 (pc' := 44) (L' := [some (.ref 89), some (.int x319), none]) (st' := [.int 7, .ref 90]) (h' := (HM P w T)) (cs' := 0) (sl' := 0) rfl ?_
      obtain ⟨v322, hq, h⟩ := ai_bdE h
      refine ev_iald rfl rfl hq ?_
      refine ev_go 1 (pc' := 47) (L' := [some (.ref 89), some (.int x319), none]) (st' := [.int 10, .int v322]) (h' := (HM P w T)) (cs' := 0) (sl' := 0) rfl ?_
      rcases ai_ifE h with ⟨hc, h⟩ | ⟨hc, h⟩
      · refine ev_ic_ne (t := 97) rfl rfl (fun c9 => absurd hc c9) (fun _ => ?_)
        refine ev_go 2 (pc' := 52) (L' := [some (.ref 89), some (.int x319), some (.int 0)]) (st' := []) (h' := (HM P w T)) (cs' := 0) (sl' := 0) rfl ?_
        exact ih0 _ _ _ _ _ h P T
      · refine ev_ic_ne (t := 97) rfl rfl (fun _ => ?_) (fun c9 => absurd c9 hc)
        refine ev_go 6 (pc' := 110) (L' := [some (.ref 89), some (.int x319), none]) (st' := [.int 7, .ref 90, .int 139, .ref 90]) (h' := (HM P w T)) (cs' := 0) (sl' := 0) rfl ?_
        obtain ⟨v323, hq, h⟩ := ai_bdE h
        refine ev_iald rfl rfl hq ?_
        refine ev_go 4 (pc' := 117) (L' := [some (.ref 89), some (.int x319), none]) (st' := [.int 1, .ref 90, .int (139 + v323), .ref 90]) (h' := (HM P w T)) (cs' := 0) (sl' := 0) rfl ?_
        obtain ⟨v324, hq, h⟩ := ai_bdE h
        refine ev_iald rfl rfl hq ?_
        obtain ⟨q325, hq, h⟩ := ai_bdE h
        refine ev_iast rfl rfl hq ?_
        rw [HMs_90]
        refine ev_go 4 (pc' := 126) (L' := [some (.ref 89), some (.int x319), none]) (st' := [.int 7, .ref 90, .int 7, .ref 90]) (h' := (HM P (u_m_w w q325) T)) (cs' := 0) (sl' := 0) rfl ?_
        obtain ⟨v326, hq, h⟩ := ai_bdE h
        refine ev_iald rfl rfl hq ?_
        refine ev_go 2 (pc' := 129) (L' := [some (.ref 89), some (.int x319), none]) (st' := [.int (v326 + 1), .int 7, .ref 90]) (h' := (HM P (u_m_w w q325) T)) (cs' := 0) (sl' := 0) rfl ?_
        obtain ⟨q327, hq, h⟩ := ai_bdE h
        refine ev_iast rfl rfl hq ?_
        rw [HMs_90]
        refine ev_go 4 (pc' := 136) (L' := [some (.ref 89), some (.int x319), none]) (st' := [.int 1, .ref 90, .int 1, .ref 90]) (h' := (HM P (u_m_w (u_m_w w q325) q327) T)) (cs' := 0) (sl' := 0) rfl ?_
        obtain ⟨v328, hq, h⟩ := ai_bdE h
        refine ev_iald rfl rfl hq ?_
        refine ev_go 2 (pc' := 139) (L' := [some (.ref 89), some (.int x319), none]) (st' := [.int (v328 + x319), .int 1, .ref 90]) (h' := (HM P (u_m_w (u_m_w w q325) q327) T)) (cs' := 0) (sl' := 0) rfl ?_
        obtain ⟨q329, hq, h⟩ := ai_bdE h
        refine ev_iast rfl rfl hq ?_
        rw [HMs_90]
        refine ev_go 3 (pc' := 145) (L' := [some (.ref 89), some (.int x319), none]) (st' := [.int 1, .ref 90]) (h' := (HM P (u_m_w (u_m_w (u_m_w w q325) q327) q329) T)) (cs' := 0) (sl' := 0) rfl ?_
        obtain ⟨v330, hq, h⟩ := ai_bdE h
        refine ev_iald rfl rfl hq ?_
        obtain ⟨rfl, rfl⟩ := ai_smP h
        exact ev_end rfl
    · refine ev_ic_le (t := 38) rfl rfl (fun c9 => absurd c9 hc) (fun _ => ?_)
      refine ev_go 2 (pc' := 34) (L' := [some (.ref 89), some (.int x319), none]) (st' := [.int (-3), .ref 89]) (h' := (HM P w T)) (cs' := 0) (sl' := 0) rfl ?_
      obtain ⟨c331, hq, h⟩ := ai_bdE h
      refine ev_call (M' := mm_met) (L' := [some (.ref 89), some (.int (-3))]) (rest := []) (rv := some (.int c331.1)) (h' := (HM P c331.2 T)) rfl (Em_met_89 (-3) w _ _ hq P T) ?_
      show ai_ev D1 mm_hours 37 [some (.ref 89), some (.int x319), none] [.int c331.1] (HM P c331.2 T) 0 0 _
      obtain ⟨rfl, rfl⟩ := ai_smP h
      exact ev_end rfl
set_option maxHeartbeats 40000000 in
set_option maxRecDepth 100000 in
theorem Em_undo_89 (w : WM) (r : Int32) (w' : WM) (h : Fm_undo_89 w = some (r, w')) (P : Nat → ai_E) (T : ai_H) : ai_ev D1 mm_undo 0 [some (.ref 89)] [] (HM P w T) 0 0 (some (.int r), HM P w' T) := by
  unfold Fm_undo_89 at h
  refine ev_go 3 (pc' := 6) (L' := [some (.ref 89)]) (st' := [.int 7, .ref 90]) (h' := (HM P w T)) (cs' := 0) (sl' := 0) rfl ?_
  obtain ⟨v347, hq, h⟩ := ai_bdE h
  refine ev_iald rfl rfl hq ?_
  rcases ai_ifE h with ⟨hc, h⟩ | ⟨hc, h⟩
  · refine ev_if_ne (t := 17) rfl rfl (fun c9 => absurd hc c9) (fun _ => ?_)
    refine ev_go 2 (pc' := 13) (L' := [some (.ref 89)]) (st' := [.int (-3), .ref 89]) (h' := (HM P w T)) (cs' := 0) (sl' := 0) rfl ?_
    obtain ⟨c353, hq, h⟩ := ai_bdE h
    refine ev_call (M' := mm_met) (L' := [some (.ref 89), some (.int (-3))]) (rest := []) (rv := some (.int c353.1)) (h' := (HM P c353.2 T)) rfl (Em_met_89 (-3) w _ _ hq P T) ?_
    show ai_ev D1 mm_undo 16 [some (.ref 89)] [.int c353.1] (HM P c353.2 T) 0 0 _
    obtain ⟨rfl, rfl⟩ := ai_smP h
    exact ev_end rfl
  · refine ev_if_ne (t := 17) rfl rfl (fun _ => ?_) (fun c9 => absurd c9 hc)
    refine ev_go 4 (pc' := 24) (L' := [some (.ref 89)]) (st' := [.int 7, .ref 90, .int 7, .ref 90]) (h' := (HM P w T)) (cs' := 0) (sl' := 0) rfl ?_
    obtain ⟨v348, hq, h⟩ := ai_bdE h
    refine ev_iald rfl rfl hq ?_
    refine ev_go 2 (pc' := 27) (L' := [some (.ref 89)]) (st' := [.int (v348 - 1), .int 7, .ref 90]) (h' := (HM P w T)) (cs' := 0) (sl' := 0) rfl ?_
    obtain ⟨q349, hq, h⟩ := ai_bdE h
    refine ev_iast rfl rfl hq ?_
    rw [HMs_90]
    refine ev_go 9 (pc' := 46) (L' := [some (.ref 89)]) (st' := [.int 7, .ref 90, .int 139, .ref 90, .int 1, .ref 90]) (h' := (HM P (u_m_w w q349) T)) (cs' := 0) (sl' := 0) rfl ?_
    obtain ⟨v350, hq, h⟩ := ai_bdE h
    refine ev_iald rfl rfl hq ?_
    refine ev_go 1 (pc' := 48) (L' := [some (.ref 89)]) (st' := [.int (139 + v350), .ref 90, .int 1, .ref 90]) (h' := (HM P (u_m_w w q349) T)) (cs' := 0) (sl' := 0) rfl ?_
    obtain ⟨v351, hq, h⟩ := ai_bdE h
    refine ev_iald rfl rfl hq ?_
    obtain ⟨q352, hq, h⟩ := ai_bdE h
    refine ev_iast rfl rfl hq ?_
    rw [HMs_90]
    refine ev_go 1 (pc' := 51) (L' := [some (.ref 89)]) (st' := [.int 1]) (h' := (HM P (u_m_w (u_m_w w q349) q352) T)) (cs' := 0) (sl' := 0) rfl ?_
    obtain ⟨rfl, rfl⟩ := ai_smP h
    exact ev_end rfl
set_option maxHeartbeats 40000000 in
set_option maxRecDepth 100000 in
theorem Em_lay_89 (x359 : Int32) (w : WM) (w' : WM) (h : Fm_lay_89 x359 w = some w') (P : Nat → ai_E) (T : ai_H) : ai_ev D1 mm_lay 0 [some (.ref 89), some (.int x359)] [] (HM P w T) 0 0 (none, HM P w' T) := by
  unfold Fm_lay_89 at h
  refine ev_go 6 (pc' := 9) (L' := [some (.ref 89), some (.int x359)]) (st' := [.int (67 + x359), .ref 90, .ref 89]) (h' := (HM P w T)) (cs' := 0) (sl' := 0) rfl ?_
  obtain ⟨v360, hq, h⟩ := ai_bdE h
  refine ev_iald rfl rfl hq ?_
  refine ev_go 7 (pc' := 22) (L' := [some (.ref 89), some (.int x359)]) (st' := [.int (73 + x359), .ref 90, .ref 89]) (h' := (HM P (u_m_kind w v360) T)) (cs' := 0) (sl' := 0) rfl ?_
  obtain ⟨v361, hq, h⟩ := ai_bdE h
  refine ev_iald rfl rfl hq ?_
  refine ev_go 7 (pc' := 35) (L' := [some (.ref 89), some (.int x359)]) (st' := [.int (79 + x359), .ref 90, .ref 89]) (h' := (HM P (u_m_weight (u_m_kind w v360) v361) T)) (cs' := 0) (sl' := 0) rfl ?_
  obtain ⟨v362, hq, h⟩ := ai_bdE h
  refine ev_iald rfl rfl hq ?_
  refine ev_go 7 (pc' := 48) (L' := [some (.ref 89), some (.int x359)]) (st' := [.int (85 + x359), .ref 90, .ref 89]) (h' := (HM P (u_m_volume (u_m_weight (u_m_kind w v360) v361) v362) T)) (cs' := 0) (sl' := 0) rfl ?_
  obtain ⟨v363, hq, h⟩ := ai_bdE h
  refine ev_iald rfl rfl hq ?_
  refine ev_go 5 (pc' := 58) (L' := [some (.ref 89), some (.int x359)]) (st' := [.int 1, .ref 90, .ref 89]) (h' := (HM P (u_m_load (u_m_volume (u_m_weight (u_m_kind w v360) v361) v362) v363) T)) (cs' := 0) (sl' := 0) rfl ?_
  obtain ⟨v364, hq, h⟩ := ai_bdE h
  refine ev_iald rfl rfl hq ?_
  refine ev_go 4 (pc' := 67) (L' := [some (.ref 89), some (.int x359)]) (st' := []) (h' := (HM P (u_m_torn (u_m_hour (u_m_load (u_m_volume (u_m_weight (u_m_kind w v360) v361) v362) v363) v364) 0) T)) (cs' := 0) (sl' := 0) rfl ?_
  obtain rfl := Option.some.inj h
  exact ev_end rfl
